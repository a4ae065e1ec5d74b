theorem k_35 : (.selects "JoinOrdersModel" ⟨"JoinOrdersModel", "starts", "()V"⟩ ⟨"JoinOrdersModel", "starts", "()V"⟩ : Cond) ∈ lg_w := inG (List.mem_of_getElem? (i := 35) (by decide +kernel)) (by decide +kernel)
theorem k_36 : (.selects "JoinOrdersModel" ⟨"JoinOrdersModel", "token", "()V"⟩ ⟨"JoinOrdersModel", "token", "()V"⟩ : Cond) ∈ lg_w := inG (List.mem_of_getElem? (i := 36) (by decide +kernel)) (by decide +kernel)
theorem k_37 : (.selects "JoinOrdersModel" ⟨"JoinOrdersModel", "see", "()I"⟩ ⟨"JoinOrdersModel", "see", "()I"⟩ : Cond) ∈ lg_w := inG (List.mem_of_getElem? (i := 37) (by decide +kernel)) (by decide +kernel)
theorem k_38 : (.selects "JoinOrdersModel" ⟨"JoinOrdersModel", "line", "()Z"⟩ ⟨"JoinOrdersModel", "line", "()Z"⟩ : Cond) ∈ lg_w := inG (List.mem_of_getElem? (i := 38) (by decide +kernel)) (by decide +kernel)
theorem k_39 : (.selects "JoinOrdersModel" ⟨"JoinOrdersModel", "relationLine", "()Z"⟩ ⟨"JoinOrdersModel", "relationLine", "()Z"⟩ : Cond) ∈ lg_w := inG (List.mem_of_getElem? (i := 39) (by decide +kernel)) (by decide +kernel)
theorem k_40 : (.selects "JoinOrdersModel" ⟨"JoinOrdersModel", "isBad", "(II)V"⟩ ⟨"JoinOrdersModel", "isBad", "(II)V"⟩ : Cond) ∈ lg_w := inG (List.mem_of_getElem? (i := 40) (by decide +kernel)) (by decide +kernel)
theorem k_41 : (.selects "JoinOrdersModel" ⟨"JoinOrdersModel", "takes", "(II)Z"⟩ ⟨"JoinOrdersModel", "takes", "(II)Z"⟩ : Cond) ∈ lg_w := inG (List.mem_of_getElem? (i := 41) (by decide +kernel)) (by decide +kernel)
theorem k_42 : (.selects "JoinOrdersModel" ⟨"JoinOrdersModel", "fails", "()Z"⟩ ⟨"JoinOrdersModel", "fails", "()Z"⟩ : Cond) ∈ lg_w := inG (List.mem_of_getElem? (i := 42) (by decide +kernel)) (by decide +kernel)
theorem k_43 : (.selects "JoinOrdersModel" ⟨"JoinOrdersModel", "edgeLine", "()Z"⟩ ⟨"JoinOrdersModel", "edgeLine", "()Z"⟩ : Cond) ∈ lg_w := inG (List.mem_of_getElem? (i := 43) (by decide +kernel)) (by decide +kernel)
theorem k_44 : (.selects "JoinOrdersModel" ⟨"JoinOrdersModel", "takesSide", "(I)Z"⟩ ⟨"JoinOrdersModel", "takesSide", "(I)Z"⟩ : Cond) ∈ lg_w := inG (List.mem_of_getElem? (i := 44) (by decide +kernel)) (by decide +kernel)
theorem k_45 : (.selects "JoinOrdersModel" ⟨"JoinOrdersModel", "takesSign", "(I)Z"⟩ ⟨"JoinOrdersModel", "takesSign", "(I)Z"⟩ : Cond) ∈ lg_w := inG (List.mem_of_getElem? (i := 45) (by decide +kernel)) (by decide +kernel)
theorem k_46 : (.selects "JoinOrdersModel" ⟨"JoinOrdersModel", "isFine", "(Z)Z"⟩ ⟨"JoinOrdersModel", "isFine", "(Z)Z"⟩ : Cond) ∈ lg_w := inG (List.mem_of_getElem? (i := 46) (by decide +kernel)) (by decide +kernel)
theorem k_47 : (.selects "JoinOrdersModel" ⟨"JoinOrdersModel", "isPlan", "()Z"⟩ ⟨"JoinOrdersModel", "isPlan", "()Z"⟩ : Cond) ∈ lg_w := inG (List.mem_of_getElem? (i := 47) (by decide +kernel)) (by decide +kernel)
theorem k_48 : (.selects "JoinOrdersModel" ⟨"JoinOrdersModel", "takesNumber", "()Z"⟩ ⟨"JoinOrdersModel", "takesNumber", "()Z"⟩ : Cond) ∈ lg_w := inG (List.mem_of_getElem? (i := 48) (by decide +kernel)) (by decide +kernel)
theorem k_49 : (.selects "JoinOrdersModel" ⟨"JoinOrdersModel", "puts", "(I)V"⟩ ⟨"JoinOrdersModel", "puts", "(I)V"⟩ : Cond) ∈ lg_w := inG (List.mem_of_getElem? (i := 49) (by decide +kernel)) (by decide +kernel)
theorem k_50 : (.selects "JoinOrdersModel" ⟨"JoinOrdersModel", "closes", "()Z"⟩ ⟨"JoinOrdersModel", "closes", "()Z"⟩ : Cond) ∈ lg_w := inG (List.mem_of_getElem? (i := 50) (by decide +kernel)) (by decide +kernel)
theorem k_51 : (.selects "JoinOrdersModel" ⟨"JoinOrdersModel", "joinsTwo", "()V"⟩ ⟨"JoinOrdersModel", "joinsTwo", "()V"⟩ : Cond) ∈ lg_w := inG (List.mem_of_getElem? (i := 51) (by decide +kernel)) (by decide +kernel)
theorem k_52 : (.selects "JoinOrdersModel" ⟨"JoinOrdersModel", "keeps", "()V"⟩ ⟨"JoinOrdersModel", "keeps", "()V"⟩ : Cond) ∈ lg_w := inG (List.mem_of_getElem? (i := 52) (by decide +kernel)) (by decide +kernel)
theorem k_53 : (.selects "JoinOrdersModel" ⟨"JoinOrdersModel", "noPlan", "()V"⟩ ⟨"JoinOrdersModel", "noPlan", "()V"⟩ : Cond) ∈ lg_w := inG (List.mem_of_getElem? (i := 53) (by decide +kernel)) (by decide +kernel)
theorem k_54 : (.selects "JoinOrdersModel" ⟨"JoinOrdersModel", "isRelation", "(I)Z"⟩ ⟨"JoinOrdersModel", "isRelation", "(I)Z"⟩ : Cond) ∈ lg_w := inG (List.mem_of_getElem? (i := 54) (by decide +kernel)) (by decide +kernel)
theorem k_55 : (.selects "JoinOrdersModel" ⟨"JoinOrdersModel", "isSet", "(I)Z"⟩ ⟨"JoinOrdersModel", "isSet", "(I)Z"⟩ : Cond) ∈ lg_w := inG (List.mem_of_getElem? (i := 55) (by decide +kernel)) (by decide +kernel)
theorem k_56 : (.selects "JoinOrdersModel" ⟨"JoinOrdersModel", "everything", "()I"⟩ ⟨"JoinOrdersModel", "everything", "()I"⟩ : Cond) ∈ lg_w := inG (List.mem_of_getElem? (i := 56) (by decide +kernel)) (by decide +kernel)
theorem k_57 : (.selects "JoinOrdersModel" ⟨"JoinOrdersModel", "isEdge", "(I)Z"⟩ ⟨"JoinOrdersModel", "isEdge", "(I)Z"⟩ : Cond) ∈ lg_w := inG (List.mem_of_getElem? (i := 57) (by decide +kernel)) (by decide +kernel)
theorem k_58 : (.selects "JoinOrdersModel" ⟨"JoinOrdersModel", "takesOut", "(I)V"⟩ ⟨"JoinOrdersModel", "takesOut", "(I)V"⟩ : Cond) ∈ lg_w := inG (List.mem_of_getElem? (i := 58) (by decide +kernel)) (by decide +kernel)
theorem k_59 : (.selects "JoinOrdersModel" ⟨"JoinOrdersModel", "byOf", "(I)I"⟩ ⟨"JoinOrdersModel", "byOf", "(I)I"⟩ : Cond) ∈ lg_w := inG (List.mem_of_getElem? (i := 59) (by decide +kernel)) (by decide +kernel)
theorem k_60 : (.selects "JoinOrdersModel" ⟨"JoinOrdersModel", "lays", "()V"⟩ ⟨"JoinOrdersModel", "lays", "()V"⟩ : Cond) ∈ lg_w := inG (List.mem_of_getElem? (i := 60) (by decide +kernel)) (by decide +kernel)
theorem k_61 : (.selects "JoinOrdersModel" ⟨"JoinOrdersModel", "laysSize", "(I)V"⟩ ⟨"JoinOrdersModel", "laysSize", "(I)V"⟩ : Cond) ∈ lg_w := inG (List.mem_of_getElem? (i := 61) (by decide +kernel)) (by decide +kernel)
theorem k_62 : (.selects "JoinOrdersModel" ⟨"JoinOrdersModel", "leftOf", "(I)I"⟩ ⟨"JoinOrdersModel", "leftOf", "(I)I"⟩ : Cond) ∈ lg_w := inG (List.mem_of_getElem? (i := 62) (by decide +kernel)) (by decide +kernel)
theorem k_63 : (.selects "JoinOrdersModel" ⟨"JoinOrdersModel", "rightOf", "(I)I"⟩ ⟨"JoinOrdersModel", "rightOf", "(I)I"⟩ : Cond) ∈ lg_w := inG (List.mem_of_getElem? (i := 63) (by decide +kernel)) (by decide +kernel)
theorem k_64 : (.selects "JoinOrdersModel" ⟨"JoinOrdersModel", "pairsOf", "(I)I"⟩ ⟨"JoinOrdersModel", "pairsOf", "(I)I"⟩ : Cond) ∈ lg_w := inG (List.mem_of_getElem? (i := 64) (by decide +kernel)) (by decide +kernel)
theorem k_65 : (.selects "JoinOrdersModel" ⟨"JoinOrdersModel", "isPair", "(II)Z"⟩ ⟨"JoinOrdersModel", "isPair", "(II)Z"⟩ : Cond) ∈ lg_w := inG (List.mem_of_getElem? (i := 65) (by decide +kernel)) (by decide +kernel)
theorem k_66 : (.selects "JoinOrdersModel" ⟨"JoinOrdersModel", "isJoined", "(II)Z"⟩ ⟨"JoinOrdersModel", "isJoined", "(II)Z"⟩ : Cond) ∈ lg_w := inG (List.mem_of_getElem? (i := 66) (by decide +kernel)) (by decide +kernel)
theorem k_67 : (.selects "JoinOrdersModel" ⟨"JoinOrdersModel", "laysBest", "(II)V"⟩ ⟨"JoinOrdersModel", "laysBest", "(II)V"⟩ : Cond) ∈ lg_w := inG (List.mem_of_getElem? (i := 67) (by decide +kernel)) (by decide +kernel)
theorem k_68 : (.selects "JoinOrdersModel" ⟨"JoinOrdersModel", "pairMany", "()I"⟩ ⟨"JoinOrdersModel", "pairMany", "()I"⟩ : Cond) ∈ lg_w := inG (List.mem_of_getElem? (i := 68) (by decide +kernel)) (by decide +kernel)
theorem k_69 : (.selects "JoinOrdersModel" ⟨"JoinOrdersModel", "partsOfGreedy", "()V"⟩ ⟨"JoinOrdersModel", "partsOfGreedy", "()V"⟩ : Cond) ∈ lg_w := inG (List.mem_of_getElem? (i := 69) (by decide +kernel)) (by decide +kernel)
theorem k_70 : (.selects "JoinOrdersModel" ⟨"JoinOrdersModel", "noParts", "()V"⟩ ⟨"JoinOrdersModel", "noParts", "()V"⟩ : Cond) ∈ lg_w := inG (List.mem_of_getElem? (i := 70) (by decide +kernel)) (by decide +kernel)
theorem k_71 : (.selects "JoinOrdersModel" ⟨"JoinOrdersModel", "joinsGreedily", "()V"⟩ ⟨"JoinOrdersModel", "joinsGreedily", "()V"⟩ : Cond) ∈ lg_w := inG (List.mem_of_getElem? (i := 71) (by decide +kernel)) (by decide +kernel)
theorem k_72 : (.selects "JoinOrdersModel" ⟨"JoinOrdersModel", "isLess", "(IIII)Z"⟩ ⟨"JoinOrdersModel", "isLess", "(IIII)Z"⟩ : Cond) ∈ lg_w := inG (List.mem_of_getElem? (i := 72) (by decide +kernel)) (by decide +kernel)
theorem k_73 : (.selects "JoinOrdersModel" ⟨"JoinOrdersModel", "partsOfBest", "(I)V"⟩ ⟨"JoinOrdersModel", "partsOfBest", "(I)V"⟩ : Cond) ∈ lg_w := inG (List.mem_of_getElem? (i := 73) (by decide +kernel)) (by decide +kernel)
theorem k_74 : (.selects "JoinOrdersModel" ⟨"JoinOrdersModel", "isPlanNow", "(I)V"⟩ ⟨"JoinOrdersModel", "isPlanNow", "(I)V"⟩ : Cond) ∈ lg_w := inG (List.mem_of_getElem? (i := 74) (by decide +kernel)) (by decide +kernel)
theorem k_75 : (.selects "JoinOrdersModel" ⟨"JoinOrdersModel", "takesPlan", "()V"⟩ ⟨"JoinOrdersModel", "takesPlan", "()V"⟩ : Cond) ∈ lg_w := inG (List.mem_of_getElem? (i := 75) (by decide +kernel)) (by decide +kernel)
theorem k_76 : (.selects "JoinOrdersModel" ⟨"JoinOrdersModel", "bestMove", "(I)I"⟩ ⟨"JoinOrdersModel", "bestMove", "(I)I"⟩ : Cond) ∈ lg_w := inG (List.mem_of_getElem? (i := 76) (by decide +kernel)) (by decide +kernel)
theorem k_77 : (.selects "JoinOrdersModel" ⟨"JoinOrdersModel", "laysNodes", "(I)V"⟩ ⟨"JoinOrdersModel", "laysNodes", "(I)V"⟩ : Cond) ∈ lg_w := inG (List.mem_of_getElem? (i := 77) (by decide +kernel)) (by decide +kernel)
theorem k_78 : (.selects "JoinOrdersModel" ⟨"JoinOrdersModel", "crossesOfParts", "()I"⟩ ⟨"JoinOrdersModel", "crossesOfParts", "()I"⟩ : Cond) ∈ lg_w := inG (List.mem_of_getElem? (i := 78) (by decide +kernel)) (by decide +kernel)
theorem k_79 : (.selects "JoinOrdersModel" ⟨"JoinOrdersModel", "costOfParts", "(I)J"⟩ ⟨"JoinOrdersModel", "costOfParts", "(I)J"⟩ : Cond) ∈ lg_w := inG (List.mem_of_getElem? (i := 79) (by decide +kernel)) (by decide +kernel)
theorem k_80 : (.selects "JoinOrdersModel" ⟨"JoinOrdersModel", "moveMany", "()I"⟩ ⟨"JoinOrdersModel", "moveMany", "()I"⟩ : Cond) ∈ lg_w := inG (List.mem_of_getElem? (i := 80) (by decide +kernel)) (by decide +kernel)
theorem k_81 : (.selects "JoinOrdersModel" ⟨"JoinOrdersModel", "isMove", "(I)Z"⟩ ⟨"JoinOrdersModel", "isMove", "(I)Z"⟩ : Cond) ∈ lg_w := inG (List.mem_of_getElem? (i := 81) (by decide +kernel)) (by decide +kernel)
theorem k_82 : (.selects "JoinOrdersModel" ⟨"JoinOrdersModel", "goes", "()V"⟩ ⟨"JoinOrdersModel", "goes", "()V"⟩ : Cond) ∈ lg_w := inG (List.mem_of_getElem? (i := 82) (by decide +kernel)) (by decide +kernel)
theorem k_83 : (.selects "JoinOrdersModel" ⟨"JoinOrdersModel", "goesBack", "()V"⟩ ⟨"JoinOrdersModel", "goesBack", "()V"⟩ : Cond) ∈ lg_w := inG (List.mem_of_getElem? (i := 83) (by decide +kernel)) (by decide +kernel)
theorem k_84 : (.selects "JoinOrdersModel" ⟨"JoinOrdersModel", "connectedMany", "(Z)I"⟩ ⟨"JoinOrdersModel", "connectedMany", "(Z)I"⟩ : Cond) ∈ lg_w := inG (List.mem_of_getElem? (i := 84) (by decide +kernel)) (by decide +kernel)
theorem k_85 : (.selects "JoinOrdersModel" ⟨"JoinOrdersModel", "joinMany", "()I"⟩ ⟨"JoinOrdersModel", "joinMany", "()I"⟩ : Cond) ∈ lg_w := inG (List.mem_of_getElem? (i := 85) (by decide +kernel)) (by decide +kernel)
theorem k_86 : (.selects "JoinOrdersModel" ⟨"JoinOrdersModel", "partMany", "()I"⟩ ⟨"JoinOrdersModel", "partMany", "()I"⟩ : Cond) ∈ lg_w := inG (List.mem_of_getElem? (i := 86) (by decide +kernel)) (by decide +kernel)
theorem k_87 : (.selects "JoinOrdersModel" ⟨"JoinOrdersModel", "tells", "(I)V"⟩ ⟨"JoinOrdersModel", "tells", "(I)V"⟩ : Cond) ∈ lg_w := inG (List.mem_of_getElem? (i := 87) (by decide +kernel)) (by decide +kernel)
theorem k_88 : (.selects "JoinOrdersModel" ⟨"JoinOrdersModel", "says", "(I)V"⟩ ⟨"JoinOrdersModel", "says", "(I)V"⟩ : Cond) ∈ lg_w := inG (List.mem_of_getElem? (i := 88) (by decide +kernel)) (by decide +kernel)
theorem k_89 : (.selects "JoinOrdersModel" ⟨"JoinOrdersModel", "bestOfAll", "()J"⟩ ⟨"JoinOrdersModel", "bestOfAll", "()J"⟩ : Cond) ∈ lg_w := inG (List.mem_of_getElem? (i := 89) (by decide +kernel)) (by decide +kernel)
theorem k_90 : (.selects "JoinOrdersModel" ⟨"JoinOrdersModel", "copiesText", "(II)V"⟩ ⟨"JoinOrdersModel", "copiesText", "(II)V"⟩ : Cond) ∈ lg_w := inG (List.mem_of_getElem? (i := 90) (by decide +kernel)) (by decide +kernel)
theorem k_91 : (.selects "JoinOrdersModel" ⟨"JoinOrdersModel", "copies", "(II)V"⟩ ⟨"JoinOrdersModel", "copies", "(II)V"⟩ : Cond) ∈ lg_w := inG (List.mem_of_getElem? (i := 91) (by decide +kernel)) (by decide +kernel)
theorem k_105 : (.initialized "JoinOrdersModel" : Cond) ∈ lg_w := inG (List.mem_of_getElem? (i := 105) (by decide +kernel)) (by decide +kernel)
theorem k_162 : (.lays "JoinOrders$Graph" "JoinOrders$Graph" "relations" "I" : Cond) ∈ lg_w := inG (List.mem_of_getElem? (i := 162) (by decide +kernel)) (by decide +kernel)
theorem k_164 : (.lays "JoinOrders$Graph" "JoinOrders$Graph" "edges" "I" : Cond) ∈ lg_w := inG (List.mem_of_getElem? (i := 164) (by decide +kernel)) (by decide +kernel)
theorem k_166 : (.lays "JoinOrders$Graph" "JoinOrders$Graph" "limit" "I" : Cond) ∈ lg_w := inG (List.mem_of_getElem? (i := 166) (by decide +kernel)) (by decide +kernel)
theorem k_168 : (.laysFinal "JoinOrders$Graph" "JoinOrders$Graph" "rows" "[I" : Cond) ∈ lg_w := inG (List.mem_of_getElem? (i := 168) (by decide +kernel)) (by decide +kernel)
theorem k_170 : (.laysFinal "JoinOrders$Graph" "JoinOrders$Graph" "left" "[I" : Cond) ∈ lg_w := inG (List.mem_of_getElem? (i := 170) (by decide +kernel)) (by decide +kernel)
theorem k_172 : (.laysFinal "JoinOrders$Graph" "JoinOrders$Graph" "right" "[I" : Cond) ∈ lg_w := inG (List.mem_of_getElem? (i := 172) (by decide +kernel)) (by decide +kernel)
theorem k_174 : (.laysFinal "JoinOrders$Graph" "JoinOrders$Graph" "by" "[I" : Cond) ∈ lg_w := inG (List.mem_of_getElem? (i := 174) (by decide +kernel)) (by decide +kernel)
theorem k_199 : (.lays "JoinOrders$Plan" "JoinOrders$Plan" "root" "I" : Cond) ∈ lg_w := inG (List.mem_of_getElem? (i := 199) (by decide +kernel)) (by decide +kernel)
theorem k_201 : (.lays "JoinOrders$Plan" "JoinOrders$Plan" "joins" "I" : Cond) ∈ lg_w := inG (List.mem_of_getElem? (i := 201) (by decide +kernel)) (by decide +kernel)
theorem k_203 : (.laysFinal "JoinOrders$Plan" "JoinOrders$Plan" "set" "[I" : Cond) ∈ lg_w := inG (List.mem_of_getElem? (i := 203) (by decide +kernel)) (by decide +kernel)
theorem k_205 : (.laysFinal "JoinOrders$Plan" "JoinOrders$Plan" "part" "[I" : Cond) ∈ lg_w := inG (List.mem_of_getElem? (i := 205) (by decide +kernel)) (by decide +kernel)
theorem k_227 : (.lays "JoinOrders$Text" "JoinOrders$Text" "length" "I" : Cond) ∈ lg_w := inG (List.mem_of_getElem? (i := 227) (by decide +kernel)) (by decide +kernel)
theorem k_229 : (.laysFinal "JoinOrders$Text" "JoinOrders$Text" "bytes" "[I" : Cond) ∈ lg_w := inG (List.mem_of_getElem? (i := 229) (by decide +kernel)) (by decide +kernel)
theorem k_231 : (.lays "JoinOrders$Text" "JoinOrders$Text" "kind" "I" : Cond) ∈ lg_w := inG (List.mem_of_getElem? (i := 231) (by decide +kernel)) (by decide +kernel)
theorem k_233 : (.lays "JoinOrders$Text" "JoinOrders$Text" "start" "I" : Cond) ∈ lg_w := inG (List.mem_of_getElem? (i := 233) (by decide +kernel)) (by decide +kernel)
theorem k_235 : (.lays "JoinOrders$Text" "JoinOrders$Text" "number" "I" : Cond) ∈ lg_w := inG (List.mem_of_getElem? (i := 235) (by decide +kernel)) (by decide +kernel)
theorem k_237 : (.lays "JoinOrders$Text" "JoinOrders$Text" "at" "I" : Cond) ∈ lg_w := inG (List.mem_of_getElem? (i := 237) (by decide +kernel)) (by decide +kernel)
theorem k_251 : (.laysFinal "JoinOrders$State" "JoinOrders$State" "graph" "LJoinOrders$Graph;" : Cond) ∈ lg_w := inG (List.mem_of_getElem? (i := 251) (by decide +kernel)) (by decide +kernel)
theorem k_253 : (.laysFinal "JoinOrders$State" "JoinOrders$State" "plan" "LJoinOrders$Plan;" : Cond) ∈ lg_w := inG (List.mem_of_getElem? (i := 253) (by decide +kernel)) (by decide +kernel)
theorem k_255 : (.laysFinal "JoinOrders$State" "JoinOrders$State" "text" "LJoinOrders$Text;" : Cond) ∈ lg_w := inG (List.mem_of_getElem? (i := 255) (by decide +kernel)) (by decide +kernel)
theorem k_257 : (.lays "JoinOrders$State" "JoinOrders$State" "fault" "I" : Cond) ∈ lg_w := inG (List.mem_of_getElem? (i := 257) (by decide +kernel)) (by decide +kernel)
theorem k_259 : (.lays "JoinOrders$State" "JoinOrders$State" "place" "I" : Cond) ∈ lg_w := inG (List.mem_of_getElem? (i := 259) (by decide +kernel)) (by decide +kernel)
theorem k_261 : (.lays "JoinOrders$State" "JoinOrders$State" "kept" "Z" : Cond) ∈ lg_w := inG (List.mem_of_getElem? (i := 261) (by decide +kernel)) (by decide +kernel)
theorem k_291 : (.laysFinal "JoinOrders$QueryReading" "JoinOrders$QueryReading" "graph" "LJoinOrders$Graph;" : Cond) ∈ lg_w := inG (List.mem_of_getElem? (i := 291) (by decide +kernel)) (by decide +kernel)
theorem k_293 : (.lays "JoinOrders$QueryReading" "JoinOrders$QueryReading" "awaited" "I" : Cond) ∈ lg_w := inG (List.mem_of_getElem? (i := 293) (by decide +kernel)) (by decide +kernel)
theorem k_295 : (.lays "JoinOrders$QueryReading" "JoinOrders$QueryReading" "left" "I" : Cond) ∈ lg_w := inG (List.mem_of_getElem? (i := 295) (by decide +kernel)) (by decide +kernel)
theorem k_297 : (.lays "JoinOrders$QueryReading" "JoinOrders$QueryReading" "right" "I" : Cond) ∈ lg_w := inG (List.mem_of_getElem? (i := 297) (by decide +kernel)) (by decide +kernel)
theorem k_299 : (.lays "JoinOrders$QueryReading" "JoinOrders$Reading" "fault" "I" : Cond) ∈ lg_w := inG (List.mem_of_getElem? (i := 299) (by decide +kernel)) (by decide +kernel)
theorem k_301 : (.lays "JoinOrders$QueryReading" "JoinOrders$Reading" "place" "I" : Cond) ∈ lg_w := inG (List.mem_of_getElem? (i := 301) (by decide +kernel)) (by decide +kernel)
theorem k_319 : (.lays "JoinOrders$PlanReading" "JoinOrders$PlanReading" "relations" "I" : Cond) ∈ lg_w := inG (List.mem_of_getElem? (i := 319) (by decide +kernel)) (by decide +kernel)
theorem k_321 : (.laysFinal "JoinOrders$PlanReading" "JoinOrders$PlanReading" "split" "[I" : Cond) ∈ lg_w := inG (List.mem_of_getElem? (i := 321) (by decide +kernel)) (by decide +kernel)
theorem k_323 : (.laysFinal "JoinOrders$PlanReading" "JoinOrders$PlanReading" "within" "[I" : Cond) ∈ lg_w := inG (List.mem_of_getElem? (i := 323) (by decide +kernel)) (by decide +kernel)
theorem k_325 : (.lays "JoinOrders$PlanReading" "JoinOrders$PlanReading" "depth" "I" : Cond) ∈ lg_w := inG (List.mem_of_getElem? (i := 325) (by decide +kernel)) (by decide +kernel)
theorem k_327 : (.laysFinal "JoinOrders$PlanReading" "JoinOrders$PlanReading" "waiting" "[I" : Cond) ∈ lg_w := inG (List.mem_of_getElem? (i := 327) (by decide +kernel)) (by decide +kernel)
theorem k_329 : (.lays "JoinOrders$PlanReading" "JoinOrders$PlanReading" "waitingMany" "I" : Cond) ∈ lg_w := inG (List.mem_of_getElem? (i := 329) (by decide +kernel)) (by decide +kernel)
theorem k_331 : (.lays "JoinOrders$PlanReading" "JoinOrders$PlanReading" "taken" "I" : Cond) ∈ lg_w := inG (List.mem_of_getElem? (i := 331) (by decide +kernel)) (by decide +kernel)
theorem k_333 : (.lays "JoinOrders$PlanReading" "JoinOrders$Reading" "fault" "I" : Cond) ∈ lg_w := inG (List.mem_of_getElem? (i := 333) (by decide +kernel)) (by decide +kernel)
theorem k_334 : (.lays "JoinOrders$PlanReading" "JoinOrders$Reading" "place" "I" : Cond) ∈ lg_w := inG (List.mem_of_getElem? (i := 334) (by decide +kernel)) (by decide +kernel)
theorem k_365 : (.lays "JoinOrders$Sets" "JoinOrders$Sets" "known" "Z" : Cond) ∈ lg_w := inG (List.mem_of_getElem? (i := 365) (by decide +kernel)) (by decide +kernel)
theorem k_367 : (.lays "JoinOrders$Sets" "JoinOrders$Sets" "paired" "Z" : Cond) ∈ lg_w := inG (List.mem_of_getElem? (i := 367) (by decide +kernel)) (by decide +kernel)
theorem k_369 : (.lays "JoinOrders$Sets" "JoinOrders$Sets" "cappedInAll" "I" : Cond) ∈ lg_w := inG (List.mem_of_getElem? (i := 369) (by decide +kernel)) (by decide +kernel)
theorem k_371 : (.lays "JoinOrders$Sets" "JoinOrders$Sets" "connectedInAll" "I" : Cond) ∈ lg_w := inG (List.mem_of_getElem? (i := 371) (by decide +kernel)) (by decide +kernel)
theorem k_373 : (.lays "JoinOrders$Sets" "JoinOrders$Sets" "pairsInAll" "I" : Cond) ∈ lg_w := inG (List.mem_of_getElem? (i := 373) (by decide +kernel)) (by decide +kernel)
theorem k_375 : (.laysFinal "JoinOrders$Sets" "JoinOrders$Sets" "sizes" "[J" : Cond) ∈ lg_w := inG (List.mem_of_getElem? (i := 375) (by decide +kernel)) (by decide +kernel)
theorem k_377 : (.laysFinal "JoinOrders$Sets" "JoinOrders$Sets" "capped" "[Z" : Cond) ∈ lg_w := inG (List.mem_of_getElem? (i := 377) (by decide +kernel)) (by decide +kernel)
theorem k_379 : (.laysFinal "JoinOrders$Sets" "JoinOrders$Sets" "connected" "[Z" : Cond) ∈ lg_w := inG (List.mem_of_getElem? (i := 379) (by decide +kernel)) (by decide +kernel)
theorem k_381 : (.lays "JoinOrders$Sets" "JoinOrders$Sets" "end" "I" : Cond) ∈ lg_w := inG (List.mem_of_getElem? (i := 381) (by decide +kernel)) (by decide +kernel)
theorem k_383 : (.laysFinal "JoinOrders$Sets" "JoinOrders$Sets" "leftIn" "[I" : Cond) ∈ lg_w := inG (List.mem_of_getElem? (i := 383) (by decide +kernel)) (by decide +kernel)
theorem k_385 : (.laysFinal "JoinOrders$Sets" "JoinOrders$Sets" "rightIn" "[I" : Cond) ∈ lg_w := inG (List.mem_of_getElem? (i := 385) (by decide +kernel)) (by decide +kernel)
theorem k_387 : (.laysFinal "JoinOrders$Sets" "JoinOrders$Sets" "pairs" "[I" : Cond) ∈ lg_w := inG (List.mem_of_getElem? (i := 387) (by decide +kernel)) (by decide +kernel)
theorem k_406 : (.lays "JoinOrders$Best" "JoinOrders$Best" "known" "Z" : Cond) ∈ lg_w := inG (List.mem_of_getElem? (i := 406) (by decide +kernel)) (by decide +kernel)
theorem k_408 : (.laysFinal "JoinOrders$Best" "JoinOrders$Best" "costs" "[J" : Cond) ∈ lg_w := inG (List.mem_of_getElem? (i := 408) (by decide +kernel)) (by decide +kernel)
theorem k_410 : (.laysFinal "JoinOrders$Best" "JoinOrders$Best" "crosses" "[I" : Cond) ∈ lg_w := inG (List.mem_of_getElem? (i := 410) (by decide +kernel)) (by decide +kernel)
theorem k_412 : (.laysFinal "JoinOrders$Best" "JoinOrders$Best" "part" "[I" : Cond) ∈ lg_w := inG (List.mem_of_getElem? (i := 412) (by decide +kernel)) (by decide +kernel)
theorem k_427 : (.laysFinal "JoinOrders$Parts" "JoinOrders$Parts" "split" "[I" : Cond) ∈ lg_w := inG (List.mem_of_getElem? (i := 427) (by decide +kernel)) (by decide +kernel)
theorem k_429 : (.laysFinal "JoinOrders$Parts" "JoinOrders$Parts" "part" "[I" : Cond) ∈ lg_w := inG (List.mem_of_getElem? (i := 429) (by decide +kernel)) (by decide +kernel)
theorem k_431 : (.lays "JoinOrders$Parts" "JoinOrders$Parts" "many" "I" : Cond) ∈ lg_w := inG (List.mem_of_getElem? (i := 431) (by decide +kernel)) (by decide +kernel)
theorem k_433 : (.lays "JoinOrders$Parts" "JoinOrders$Parts" "pickedFirst" "I" : Cond) ∈ lg_w := inG (List.mem_of_getElem? (i := 433) (by decide +kernel)) (by decide +kernel)
theorem k_435 : (.lays "JoinOrders$Parts" "JoinOrders$Parts" "pickedSecond" "I" : Cond) ∈ lg_w := inG (List.mem_of_getElem? (i := 435) (by decide +kernel)) (by decide +kernel)
theorem k_449 : (.laysFinal "JoinOrders$Mover" "JoinOrders$Mover" "made" "LJoinOrders$Plan;" : Cond) ∈ lg_w := inG (List.mem_of_getElem? (i := 449) (by decide +kernel)) (by decide +kernel)
theorem k_451 : (.laysFinal "JoinOrders$Mover" "JoinOrders$Mover" "split" "[I" : Cond) ∈ lg_w := inG (List.mem_of_getElem? (i := 451) (by decide +kernel)) (by decide +kernel)
theorem k_472 : (.laysFinal "JoinOrders" "JoinOrders" "now" "LJoinOrders$State;" : Cond) ∈ lg_w := inG (List.mem_of_getElem? (i := 472) (by decide +kernel)) (by decide +kernel)
theorem k_474 : (.laysFinal "JoinOrders" "JoinOrders" "images" "[LJoinOrders$State;" : Cond) ∈ lg_w := inG (List.mem_of_getElem? (i := 474) (by decide +kernel)) (by decide +kernel)
theorem k_476 : (.laysFinal "JoinOrders" "JoinOrders" "pastGraphs" "[LJoinOrders$Graph;" : Cond) ∈ lg_w := inG (List.mem_of_getElem? (i := 476) (by decide +kernel)) (by decide +kernel)
theorem k_478 : (.laysFinal "JoinOrders" "JoinOrders" "pastPlans" "[LJoinOrders$Plan;" : Cond) ∈ lg_w := inG (List.mem_of_getElem? (i := 478) (by decide +kernel)) (by decide +kernel)
theorem k_480 : (.lays "JoinOrders" "JoinOrders" "acts" "I" : Cond) ∈ lg_w := inG (List.mem_of_getElem? (i := 480) (by decide +kernel)) (by decide +kernel)
theorem k_482 : (.lays "JoinOrders" "JoinOrders" "nextAct" "I" : Cond) ∈ lg_w := inG (List.mem_of_getElem? (i := 482) (by decide +kernel)) (by decide +kernel)
theorem k_484 : (.laysFinal "JoinOrders" "JoinOrders" "queryReading" "LJoinOrders$QueryReading;" : Cond) ∈ lg_w := inG (List.mem_of_getElem? (i := 484) (by decide +kernel)) (by decide +kernel)
theorem k_486 : (.laysFinal "JoinOrders" "JoinOrders" "planReading" "LJoinOrders$PlanReading;" : Cond) ∈ lg_w := inG (List.mem_of_getElem? (i := 486) (by decide +kernel)) (by decide +kernel)
theorem k_488 : (.laysFinal "JoinOrders" "JoinOrders" "sets" "LJoinOrders$Sets;" : Cond) ∈ lg_w := inG (List.mem_of_getElem? (i := 488) (by decide +kernel)) (by decide +kernel)
theorem k_490 : (.laysFinal "JoinOrders" "JoinOrders" "bushy" "LJoinOrders$Best;" : Cond) ∈ lg_w := inG (List.mem_of_getElem? (i := 490) (by decide +kernel)) (by decide +kernel)
theorem k_492 : (.laysFinal "JoinOrders" "JoinOrders" "line" "LJoinOrders$Best;" : Cond) ∈ lg_w := inG (List.mem_of_getElem? (i := 492) (by decide +kernel)) (by decide +kernel)
theorem k_494 : (.laysFinal "JoinOrders" "JoinOrders" "parts" "LJoinOrders$Parts;" : Cond) ∈ lg_w := inG (List.mem_of_getElem? (i := 494) (by decide +kernel)) (by decide +kernel)
theorem k_496 : (.laysFinal "JoinOrders" "JoinOrders" "mover" "LJoinOrders$Mover;" : Cond) ∈ lg_w := inG (List.mem_of_getElem? (i := 496) (by decide +kernel)) (by decide +kernel)
theorem k_498 : (.laysFinal "JoinOrders" "JoinOrders" "walk" "LJoinOrders$Plan;" : Cond) ∈ lg_w := inG (List.mem_of_getElem? (i := 498) (by decide +kernel)) (by decide +kernel)
theorem k_500 : (.laysFinal "JoinOrders" "JoinOrders" "words" "[I" : Cond) ∈ lg_w := inG (List.mem_of_getElem? (i := 500) (by decide +kernel)) (by decide +kernel)
theorem k_502 : (.laysFinal "JoinOrders" "JoinOrders" "trial" "LJoinOrders$Graph;" : Cond) ∈ lg_w := inG (List.mem_of_getElem? (i := 502) (by decide +kernel)) (by decide +kernel)
theorem k_504 : (.laysFinal "JoinOrders" "JoinOrders" "trialSets" "LJoinOrders$Sets;" : Cond) ∈ lg_w := inG (List.mem_of_getElem? (i := 504) (by decide +kernel)) (by decide +kernel)
theorem k_506 : (.laysFinal "JoinOrders" "JoinOrders" "trialBest" "LJoinOrders$Best;" : Cond) ∈ lg_w := inG (List.mem_of_getElem? (i := 506) (by decide +kernel)) (by decide +kernel)
theorem k_1196 : (.fieldLink "JoinOrdersModel" 67 "JoinOrdersModel" "raised" "I" : Cond) ∈ lg_w := inG (List.mem_of_getElem? (i := 1196) (by decide +kernel)) (by decide +kernel)
theorem k_1197 : (.fieldLink "JoinOrdersModel" 7 "JoinOrdersModel" "all" "[I" : Cond) ∈ lg_w := inG (List.mem_of_getElem? (i := 1197) (by decide +kernel)) (by decide +kernel)
theorem k_1198 : (.fieldLink "JoinOrdersModel" 13 "JoinOrdersModel" "text" "[B" : Cond) ∈ lg_w := inG (List.mem_of_getElem? (i := 1198) (by decide +kernel)) (by decide +kernel)
theorem k_1199 : (.fieldLink "JoinOrdersModel" 17 "JoinOrdersModel" "saved" "[Z" : Cond) ∈ lg_w := inG (List.mem_of_getElem? (i := 1199) (by decide +kernel)) (by decide +kernel)
theorem k_1200 : (.fieldLink "JoinOrdersModel" 21 "JoinOrdersModel" "undone" "[I" : Cond) ∈ lg_w := inG (List.mem_of_getElem? (i := 1200) (by decide +kernel)) (by decide +kernel)
theorem k_1201 : (.fieldLink "JoinOrdersModel" 180 "JoinOrdersModel" "undos" "I" : Cond) ∈ lg_w := inG (List.mem_of_getElem? (i := 1201) (by decide +kernel)) (by decide +kernel)
theorem k_1202 : (.fieldLink "JoinOrdersModel" 81 "JoinOrdersModel" "reached" "I" : Cond) ∈ lg_w := inG (List.mem_of_getElem? (i := 1202) (by decide +kernel)) (by decide +kernel)
theorem k_1203 : (.fieldLink "JoinOrdersModel" 84 "JoinOrdersModel" "length" "I" : Cond) ∈ lg_w := inG (List.mem_of_getElem? (i := 1203) (by decide +kernel)) (by decide +kernel)
theorem k_1204 : (.fieldLink "JoinOrdersModel" 90 "JoinOrdersModel" "begin" "I" : Cond) ∈ lg_w := inG (List.mem_of_getElem? (i := 1204) (by decide +kernel)) (by decide +kernel)
theorem k_1205 : (.fieldLink "JoinOrdersModel" 100 "JoinOrdersModel" "sort" "I" : Cond) ∈ lg_w := inG (List.mem_of_getElem? (i := 1205) (by decide +kernel)) (by decide +kernel)
theorem k_1206 : (.fieldLink "JoinOrdersModel" 97 "JoinOrdersModel" "sign" "I" : Cond) ∈ lg_w := inG (List.mem_of_getElem? (i := 1206) (by decide +kernel)) (by decide +kernel)
theorem k_1207 : (.fieldLink "JoinOrdersModel" 115 "JoinOrdersModel" "value" "I" : Cond) ∈ lg_w := inG (List.mem_of_getElem? (i := 1207) (by decide +kernel)) (by decide +kernel)
theorem k_1208 : (.fieldLink "JoinOrdersModel" 93 "JoinOrdersModel" "word" "J" : Cond) ∈ lg_w := inG (List.mem_of_getElem? (i := 1208) (by decide +kernel)) (by decide +kernel)
theorem k_1209 : (.fieldLink "JoinOrdersModel" 118 "JoinOrdersModel" "wrongAt" "I" : Cond) ∈ lg_w := inG (List.mem_of_getElem? (i := 1209) (by decide +kernel)) (by decide +kernel)
theorem k_1210 : (.fieldLink "JoinOrdersModel" 124 "JoinOrdersModel" "badAt" "I" : Cond) ∈ lg_w := inG (List.mem_of_getElem? (i := 1210) (by decide +kernel)) (by decide +kernel)
theorem k_1211 : (.fieldLink "JoinOrdersModel" 121 "JoinOrdersModel" "bad" "I" : Cond) ∈ lg_w := inG (List.mem_of_getElem? (i := 1211) (by decide +kernel)) (by decide +kernel)
theorem k_1212 : (.fieldLink "JoinOrdersModel" 24 "JoinOrdersModel" "told" "[I" : Cond) ∈ lg_w := inG (List.mem_of_getElem? (i := 1212) (by decide +kernel)) (by decide +kernel)
theorem k_1213 : (.fieldLink "JoinOrdersModel" 131 "JoinOrdersModel" "read" "I" : Cond) ∈ lg_w := inG (List.mem_of_getElem? (i := 1213) (by decide +kernel)) (by decide +kernel)
theorem k_1214 : (.fieldLink "JoinOrdersModel" 145 "JoinOrdersModel" "side" "I" : Cond) ∈ lg_w := inG (List.mem_of_getElem? (i := 1214) (by decide +kernel)) (by decide +kernel)
theorem k_1215 : (.fieldLink "JoinOrdersModel" 27 "JoinOrdersModel" "pile" "[I" : Cond) ∈ lg_w := inG (List.mem_of_getElem? (i := 1215) (by decide +kernel)) (by decide +kernel)
theorem k_1216 : (.fieldLink "JoinOrdersModel" 183 "JoinOrdersModel" "piled" "I" : Cond) ∈ lg_w := inG (List.mem_of_getElem? (i := 1216) (by decide +kernel)) (by decide +kernel)
theorem k_1217 : (.fieldLink "JoinOrdersModel" 30 "JoinOrdersModel" "open" "[I" : Cond) ∈ lg_w := inG (List.mem_of_getElem? (i := 1217) (by decide +kernel)) (by decide +kernel)
theorem k_1218 : (.fieldLink "JoinOrdersModel" 203 "JoinOrdersModel" "opened" "I" : Cond) ∈ lg_w := inG (List.mem_of_getElem? (i := 1218) (by decide +kernel)) (by decide +kernel)
theorem k_1219 : (.fieldLink "JoinOrdersModel" 196 "JoinOrdersModel" "joins" "I" : Cond) ∈ lg_w := inG (List.mem_of_getElem? (i := 1219) (by decide +kernel)) (by decide +kernel)
theorem k_1220 : (.fieldLink "JoinOrdersModel" 186 "JoinOrdersModel" "had" "I" : Cond) ∈ lg_w := inG (List.mem_of_getElem? (i := 1220) (by decide +kernel)) (by decide +kernel)
theorem k_1221 : (.fieldLink "JoinOrdersModel" 33 "JoinOrdersModel" "size" "[J" : Cond) ∈ lg_w := inG (List.mem_of_getElem? (i := 1221) (by decide +kernel)) (by decide +kernel)
theorem k_1222 : (.fieldLink "JoinOrdersModel" 37 "JoinOrdersModel" "capped" "[Z" : Cond) ∈ lg_w := inG (List.mem_of_getElem? (i := 1222) (by decide +kernel)) (by decide +kernel)
theorem k_1223 : (.fieldLink "JoinOrdersModel" 40 "JoinOrdersModel" "connected" "[Z" : Cond) ∈ lg_w := inG (List.mem_of_getElem? (i := 1223) (by decide +kernel)) (by decide +kernel)
theorem k_1224 : (.fieldLink "JoinOrdersModel" 43 "JoinOrdersModel" "bestCost" "[J" : Cond) ∈ lg_w := inG (List.mem_of_getElem? (i := 1224) (by decide +kernel)) (by decide +kernel)
theorem k_1225 : (.fieldLink "JoinOrdersModel" 46 "JoinOrdersModel" "bestCrosses" "[I" : Cond) ∈ lg_w := inG (List.mem_of_getElem? (i := 1225) (by decide +kernel)) (by decide +kernel)
theorem k_1226 : (.fieldLink "JoinOrdersModel" 49 "JoinOrdersModel" "bestPart" "[I" : Cond) ∈ lg_w := inG (List.mem_of_getElem? (i := 1226) (by decide +kernel)) (by decide +kernel)
theorem k_1227 : (.fieldLink "JoinOrdersModel" 52 "JoinOrdersModel" "part" "[I" : Cond) ∈ lg_w := inG (List.mem_of_getElem? (i := 1227) (by decide +kernel)) (by decide +kernel)
theorem k_1228 : (.fieldLink "JoinOrdersModel" 55 "JoinOrdersModel" "trees" "[I" : Cond) ∈ lg_w := inG (List.mem_of_getElem? (i := 1228) (by decide +kernel)) (by decide +kernel)
theorem k_1229 : (.fieldLink "JoinOrdersModel" 257 "JoinOrdersModel" "treeMany" "I" : Cond) ∈ lg_w := inG (List.mem_of_getElem? (i := 1229) (by decide +kernel)) (by decide +kernel)
theorem k_1230 : (.fieldLink "JoinOrdersModel" 58 "JoinOrdersModel" "nodes" "[I" : Cond) ∈ lg_w := inG (List.mem_of_getElem? (i := 1230) (by decide +kernel)) (by decide +kernel)
theorem k_1231 : (.fieldLink "JoinOrdersModel" 267 "JoinOrdersModel" "nodeMany" "I" : Cond) ∈ lg_w := inG (List.mem_of_getElem? (i := 1231) (by decide +kernel)) (by decide +kernel)
theorem k_1232 : (.fieldLink "JoinOrdersModel" 270 "JoinOrdersModel" "moveNode" "I" : Cond) ∈ lg_w := inG (List.mem_of_getElem? (i := 1232) (by decide +kernel)) (by decide +kernel)
theorem k_1233 : (.fieldLink "JoinOrdersModel" 273 "JoinOrdersModel" "movePart" "I" : Cond) ∈ lg_w := inG (List.mem_of_getElem? (i := 1233) (by decide +kernel)) (by decide +kernel)
theorem k_1234 : (.fieldLink "JoinOrdersModel" 279 "JoinOrdersModel" "moveFirst" "I" : Cond) ∈ lg_w := inG (List.mem_of_getElem? (i := 1234) (by decide +kernel)) (by decide +kernel)
theorem k_1235 : (.fieldLink "JoinOrdersModel" 282 "JoinOrdersModel" "moveThen" "I" : Cond) ∈ lg_w := inG (List.mem_of_getElem? (i := 1235) (by decide +kernel)) (by decide +kernel)
theorem k_1236 : (.fieldLink "JoinOrdersModel" 276 "JoinOrdersModel" "moveOther" "I" : Cond) ∈ lg_w := inG (List.mem_of_getElem? (i := 1236) (by decide +kernel)) (by decide +kernel)
theorem k_1237 : (.fieldLink "JoinOrdersModel" 61 "JoinOrdersModel" "out" "[B" : Cond) ∈ lg_w := inG (List.mem_of_getElem? (i := 1237) (by decide +kernel)) (by decide +kernel)
theorem k_1238 : (.fieldLink "JoinOrdersModel" 365 "JoinOrdersModel" "outMany" "I" : Cond) ∈ lg_w := inG (List.mem_of_getElem? (i := 1238) (by decide +kernel)) (by decide +kernel)
theorem k_1239 : (.fieldLink "JoinOrdersModel" 64 "JoinOrdersModel" "kept" "[I" : Cond) ∈ lg_w := inG (List.mem_of_getElem? (i := 1239) (by decide +kernel)) (by decide +kernel)
theorem k_1240 : (.lays "JoinOrdersModel" "JoinOrdersModel" "raised" "I" : Cond) ∈ lg_w := inG (List.mem_of_getElem? (i := 1240) (by decide +kernel)) (by decide +kernel)
theorem k_1242 : (.laysFinal "JoinOrdersModel" "JoinOrdersModel" "all" "[I" : Cond) ∈ lg_w := inG (List.mem_of_getElem? (i := 1242) (by decide +kernel)) (by decide +kernel)
theorem k_1244 : (.laysFinal "JoinOrdersModel" "JoinOrdersModel" "text" "[B" : Cond) ∈ lg_w := inG (List.mem_of_getElem? (i := 1244) (by decide +kernel)) (by decide +kernel)
theorem k_1246 : (.laysFinal "JoinOrdersModel" "JoinOrdersModel" "saved" "[Z" : Cond) ∈ lg_w := inG (List.mem_of_getElem? (i := 1246) (by decide +kernel)) (by decide +kernel)
theorem k_1248 : (.laysFinal "JoinOrdersModel" "JoinOrdersModel" "undone" "[I" : Cond) ∈ lg_w := inG (List.mem_of_getElem? (i := 1248) (by decide +kernel)) (by decide +kernel)
theorem k_1250 : (.lays "JoinOrdersModel" "JoinOrdersModel" "undos" "I" : Cond) ∈ lg_w := inG (List.mem_of_getElem? (i := 1250) (by decide +kernel)) (by decide +kernel)
theorem k_1252 : (.lays "JoinOrdersModel" "JoinOrdersModel" "reached" "I" : Cond) ∈ lg_w := inG (List.mem_of_getElem? (i := 1252) (by decide +kernel)) (by decide +kernel)
theorem k_1254 : (.lays "JoinOrdersModel" "JoinOrdersModel" "length" "I" : Cond) ∈ lg_w := inG (List.mem_of_getElem? (i := 1254) (by decide +kernel)) (by decide +kernel)
theorem k_1256 : (.lays "JoinOrdersModel" "JoinOrdersModel" "begin" "I" : Cond) ∈ lg_w := inG (List.mem_of_getElem? (i := 1256) (by decide +kernel)) (by decide +kernel)
theorem k_1258 : (.lays "JoinOrdersModel" "JoinOrdersModel" "sort" "I" : Cond) ∈ lg_w := inG (List.mem_of_getElem? (i := 1258) (by decide +kernel)) (by decide +kernel)
theorem k_1260 : (.lays "JoinOrdersModel" "JoinOrdersModel" "sign" "I" : Cond) ∈ lg_w := inG (List.mem_of_getElem? (i := 1260) (by decide +kernel)) (by decide +kernel)
theorem k_1262 : (.lays "JoinOrdersModel" "JoinOrdersModel" "value" "I" : Cond) ∈ lg_w := inG (List.mem_of_getElem? (i := 1262) (by decide +kernel)) (by decide +kernel)
theorem k_1264 : (.lays "JoinOrdersModel" "JoinOrdersModel" "word" "J" : Cond) ∈ lg_w := inG (List.mem_of_getElem? (i := 1264) (by decide +kernel)) (by decide +kernel)
theorem k_1266 : (.lays "JoinOrdersModel" "JoinOrdersModel" "wrongAt" "I" : Cond) ∈ lg_w := inG (List.mem_of_getElem? (i := 1266) (by decide +kernel)) (by decide +kernel)
theorem k_1268 : (.lays "JoinOrdersModel" "JoinOrdersModel" "badAt" "I" : Cond) ∈ lg_w := inG (List.mem_of_getElem? (i := 1268) (by decide +kernel)) (by decide +kernel)
theorem k_1270 : (.lays "JoinOrdersModel" "JoinOrdersModel" "bad" "I" : Cond) ∈ lg_w := inG (List.mem_of_getElem? (i := 1270) (by decide +kernel)) (by decide +kernel)
theorem k_1272 : (.laysFinal "JoinOrdersModel" "JoinOrdersModel" "told" "[I" : Cond) ∈ lg_w := inG (List.mem_of_getElem? (i := 1272) (by decide +kernel)) (by decide +kernel)
theorem k_1274 : (.lays "JoinOrdersModel" "JoinOrdersModel" "read" "I" : Cond) ∈ lg_w := inG (List.mem_of_getElem? (i := 1274) (by decide +kernel)) (by decide +kernel)
theorem k_1276 : (.lays "JoinOrdersModel" "JoinOrdersModel" "side" "I" : Cond) ∈ lg_w := inG (List.mem_of_getElem? (i := 1276) (by decide +kernel)) (by decide +kernel)
theorem k_1278 : (.laysFinal "JoinOrdersModel" "JoinOrdersModel" "pile" "[I" : Cond) ∈ lg_w := inG (List.mem_of_getElem? (i := 1278) (by decide +kernel)) (by decide +kernel)
theorem k_1280 : (.lays "JoinOrdersModel" "JoinOrdersModel" "piled" "I" : Cond) ∈ lg_w := inG (List.mem_of_getElem? (i := 1280) (by decide +kernel)) (by decide +kernel)
theorem k_1282 : (.laysFinal "JoinOrdersModel" "JoinOrdersModel" "open" "[I" : Cond) ∈ lg_w := inG (List.mem_of_getElem? (i := 1282) (by decide +kernel)) (by decide +kernel)
theorem k_1284 : (.lays "JoinOrdersModel" "JoinOrdersModel" "opened" "I" : Cond) ∈ lg_w := inG (List.mem_of_getElem? (i := 1284) (by decide +kernel)) (by decide +kernel)
theorem k_1286 : (.lays "JoinOrdersModel" "JoinOrdersModel" "joins" "I" : Cond) ∈ lg_w := inG (List.mem_of_getElem? (i := 1286) (by decide +kernel)) (by decide +kernel)
theorem k_1288 : (.lays "JoinOrdersModel" "JoinOrdersModel" "had" "I" : Cond) ∈ lg_w := inG (List.mem_of_getElem? (i := 1288) (by decide +kernel)) (by decide +kernel)
theorem k_1290 : (.laysFinal "JoinOrdersModel" "JoinOrdersModel" "size" "[J" : Cond) ∈ lg_w := inG (List.mem_of_getElem? (i := 1290) (by decide +kernel)) (by decide +kernel)
theorem k_1292 : (.laysFinal "JoinOrdersModel" "JoinOrdersModel" "capped" "[Z" : Cond) ∈ lg_w := inG (List.mem_of_getElem? (i := 1292) (by decide +kernel)) (by decide +kernel)
theorem k_1294 : (.laysFinal "JoinOrdersModel" "JoinOrdersModel" "connected" "[Z" : Cond) ∈ lg_w := inG (List.mem_of_getElem? (i := 1294) (by decide +kernel)) (by decide +kernel)
theorem k_1296 : (.laysFinal "JoinOrdersModel" "JoinOrdersModel" "bestCost" "[J" : Cond) ∈ lg_w := inG (List.mem_of_getElem? (i := 1296) (by decide +kernel)) (by decide +kernel)
theorem k_1298 : (.laysFinal "JoinOrdersModel" "JoinOrdersModel" "bestCrosses" "[I" : Cond) ∈ lg_w := inG (List.mem_of_getElem? (i := 1298) (by decide +kernel)) (by decide +kernel)
theorem k_1300 : (.laysFinal "JoinOrdersModel" "JoinOrdersModel" "bestPart" "[I" : Cond) ∈ lg_w := inG (List.mem_of_getElem? (i := 1300) (by decide +kernel)) (by decide +kernel)
theorem k_1302 : (.laysFinal "JoinOrdersModel" "JoinOrdersModel" "part" "[I" : Cond) ∈ lg_w := inG (List.mem_of_getElem? (i := 1302) (by decide +kernel)) (by decide +kernel)
theorem k_1304 : (.laysFinal "JoinOrdersModel" "JoinOrdersModel" "trees" "[I" : Cond) ∈ lg_w := inG (List.mem_of_getElem? (i := 1304) (by decide +kernel)) (by decide +kernel)
theorem k_1306 : (.lays "JoinOrdersModel" "JoinOrdersModel" "treeMany" "I" : Cond) ∈ lg_w := inG (List.mem_of_getElem? (i := 1306) (by decide +kernel)) (by decide +kernel)
theorem k_1308 : (.laysFinal "JoinOrdersModel" "JoinOrdersModel" "nodes" "[I" : Cond) ∈ lg_w := inG (List.mem_of_getElem? (i := 1308) (by decide +kernel)) (by decide +kernel)
theorem k_1310 : (.lays "JoinOrdersModel" "JoinOrdersModel" "nodeMany" "I" : Cond) ∈ lg_w := inG (List.mem_of_getElem? (i := 1310) (by decide +kernel)) (by decide +kernel)
theorem k_1312 : (.lays "JoinOrdersModel" "JoinOrdersModel" "moveNode" "I" : Cond) ∈ lg_w := inG (List.mem_of_getElem? (i := 1312) (by decide +kernel)) (by decide +kernel)
theorem k_1314 : (.lays "JoinOrdersModel" "JoinOrdersModel" "movePart" "I" : Cond) ∈ lg_w := inG (List.mem_of_getElem? (i := 1314) (by decide +kernel)) (by decide +kernel)
theorem k_1316 : (.lays "JoinOrdersModel" "JoinOrdersModel" "moveFirst" "I" : Cond) ∈ lg_w := inG (List.mem_of_getElem? (i := 1316) (by decide +kernel)) (by decide +kernel)
theorem k_1318 : (.lays "JoinOrdersModel" "JoinOrdersModel" "moveThen" "I" : Cond) ∈ lg_w := inG (List.mem_of_getElem? (i := 1318) (by decide +kernel)) (by decide +kernel)
theorem k_1320 : (.lays "JoinOrdersModel" "JoinOrdersModel" "moveOther" "I" : Cond) ∈ lg_w := inG (List.mem_of_getElem? (i := 1320) (by decide +kernel)) (by decide +kernel)
theorem k_1322 : (.laysFinal "JoinOrdersModel" "JoinOrdersModel" "out" "[B" : Cond) ∈ lg_w := inG (List.mem_of_getElem? (i := 1322) (by decide +kernel)) (by decide +kernel)
theorem k_1324 : (.lays "JoinOrdersModel" "JoinOrdersModel" "outMany" "I" : Cond) ∈ lg_w := inG (List.mem_of_getElem? (i := 1324) (by decide +kernel)) (by decide +kernel)
theorem k_1326 : (.laysFinal "JoinOrdersModel" "JoinOrdersModel" "kept" "[I" : Cond) ∈ lg_w := inG (List.mem_of_getElem? (i := 1326) (by decide +kernel)) (by decide +kernel)
theorem k_1330 : (.instanceMethod ⟨"JoinOrdersModel", "thrown", "()I"⟩ : Cond) ∈ lg_w := inG (List.mem_of_getElem? (i := 1330) (by decide +kernel)) (by decide +kernel)
theorem k_1331 : (.selects "JoinOrdersModel" ⟨"JoinOrdersModel", "thrown", "()I"⟩ ⟨"JoinOrdersModel", "thrown", "()I"⟩ : Cond) ∈ lg_w := inG (List.mem_of_getElem? (i := 1331) (by decide +kernel)) (by decide +kernel)
theorem k_1332 : (.code ⟨"JoinOrdersModel", "thrown", "()I"⟩ prog_14_method_2_code 1 (Option.some FieldType.int) : Cond) ∈ lg_w := inG (List.mem_of_getElem? (i := 1332) (by decide +kernel)) (by decide +kernel)
theorem k_1334 : (.instanceMethod ⟨"JoinOrdersModel", "type", "(J)I"⟩ : Cond) ∈ lg_w := inG (List.mem_of_getElem? (i := 1334) (by decide +kernel)) (by decide +kernel)
theorem k_1335 : (.selects "JoinOrdersModel" ⟨"JoinOrdersModel", "type", "(J)I"⟩ ⟨"JoinOrdersModel", "type", "(J)I"⟩ : Cond) ∈ lg_w := inG (List.mem_of_getElem? (i := 1335) (by decide +kernel)) (by decide +kernel)
theorem k_1336 : (.code ⟨"JoinOrdersModel", "type", "(J)I"⟩ prog_14_method_12_code 5 (Option.some FieldType.int) : Cond) ∈ lg_w := inG (List.mem_of_getElem? (i := 1336) (by decide +kernel)) (by decide +kernel)
theorem k_1337 : (.constantLong "JoinOrdersModel" 79 (255 : Int64) : Cond) ∈ lg_w := inG (List.mem_of_getElem? (i := 1337) (by decide +kernel)) (by decide +kernel)
theorem k_1339 : (.instanceMethod ⟨"JoinOrdersModel", "query", "()I"⟩ : Cond) ∈ lg_w := inG (List.mem_of_getElem? (i := 1339) (by decide +kernel)) (by decide +kernel)
theorem k_1340 : (.selects "JoinOrdersModel" ⟨"JoinOrdersModel", "query", "()I"⟩ ⟨"JoinOrdersModel", "query", "()I"⟩ : Cond) ∈ lg_w := inG (List.mem_of_getElem? (i := 1340) (by decide +kernel)) (by decide +kernel)
theorem k_1341 : (.code ⟨"JoinOrdersModel", "query", "()I"⟩ prog_14_method_25_code 3 (Option.some FieldType.int) : Cond) ∈ lg_w := inG (List.mem_of_getElem? (i := 1341) (by decide +kernel)) (by decide +kernel)
theorem k_1342 : (.methodLink "JoinOrdersModel" 170 ⟨"JoinOrdersModel", "starts", "()V"⟩ : Cond) ∈ lg_w := inG (List.mem_of_getElem? (i := 1342) (by decide +kernel)) (by decide +kernel)
theorem k_1344 : (.instanceMethod ⟨"JoinOrdersModel", "starts", "()V"⟩ : Cond) ∈ lg_w := inG (List.mem_of_getElem? (i := 1344) (by decide +kernel)) (by decide +kernel)
theorem k_1345 : (.code ⟨"JoinOrdersModel", "starts", "()V"⟩ prog_14_method_19_code 1 (Option.none : Option FieldType) : Cond) ∈ lg_w := inG (List.mem_of_getElem? (i := 1345) (by decide +kernel)) (by decide +kernel)
theorem k_1346 : (.methodLink "JoinOrdersModel" 138 ⟨"JoinOrdersModel", "token", "()V"⟩ : Cond) ∈ lg_w := inG (List.mem_of_getElem? (i := 1346) (by decide +kernel)) (by decide +kernel)
theorem k_1348 : (.instanceMethod ⟨"JoinOrdersModel", "token", "()V"⟩ : Cond) ∈ lg_w := inG (List.mem_of_getElem? (i := 1348) (by decide +kernel)) (by decide +kernel)
theorem k_1349 : (.code ⟨"JoinOrdersModel", "token", "()V"⟩ prog_14_method_14_code 3 (Option.none : Option FieldType) : Cond) ∈ lg_w := inG (List.mem_of_getElem? (i := 1349) (by decide +kernel)) (by decide +kernel)
theorem k_1350 : (.methodLink "JoinOrdersModel" 87 ⟨"JoinOrdersModel", "see", "()I"⟩ : Cond) ∈ lg_w := inG (List.mem_of_getElem? (i := 1350) (by decide +kernel)) (by decide +kernel)
theorem k_1352 : (.instanceMethod ⟨"JoinOrdersModel", "see", "()I"⟩ : Cond) ∈ lg_w := inG (List.mem_of_getElem? (i := 1352) (by decide +kernel)) (by decide +kernel)
theorem k_1353 : (.code ⟨"JoinOrdersModel", "see", "()I"⟩ prog_14_method_13_code 1 (Option.some FieldType.int) : Cond) ∈ lg_w := inG (List.mem_of_getElem? (i := 1353) (by decide +kernel)) (by decide +kernel)
theorem k_1354 : (.constantLong "JoinOrdersModel" 103 (97 : Int64) : Cond) ∈ lg_w := inG (List.mem_of_getElem? (i := 1354) (by decide +kernel)) (by decide +kernel)
theorem k_1355 : (.constantLong "JoinOrdersModel" 105 (122 : Int64) : Cond) ∈ lg_w := inG (List.mem_of_getElem? (i := 1355) (by decide +kernel)) (by decide +kernel)
theorem k_1356 : (.methodLink "JoinOrdersModel" 107 ⟨"JoinOrdersModel", "in", "(JJJ)Z"⟩ : Cond) ∈ lg_w := inG (List.mem_of_getElem? (i := 1356) (by decide +kernel)) (by decide +kernel)
theorem k_1357 : (.static ⟨"JoinOrdersModel", "in", "(JJJ)Z"⟩ : Cond) ∈ lg_w := inG (List.mem_of_getElem? (i := 1357) (by decide +kernel)) (by decide +kernel)
theorem k_1358 : (.code ⟨"JoinOrdersModel", "in", "(JJJ)Z"⟩ prog_14_method_3_code 6 (Option.some FieldType.boolean) : Cond) ∈ lg_w := inG (List.mem_of_getElem? (i := 1358) (by decide +kernel)) (by decide +kernel)
theorem k_1359 : (.constantLong "JoinOrdersModel" 111 (48 : Int64) : Cond) ∈ lg_w := inG (List.mem_of_getElem? (i := 1359) (by decide +kernel)) (by decide +kernel)
theorem k_1360 : (.constantLong "JoinOrdersModel" 113 (57 : Int64) : Cond) ∈ lg_w := inG (List.mem_of_getElem? (i := 1360) (by decide +kernel)) (by decide +kernel)
theorem k_1361 : (.methodLink "JoinOrdersModel" 173 ⟨"JoinOrdersModel", "line", "()Z"⟩ : Cond) ∈ lg_w := inG (List.mem_of_getElem? (i := 1361) (by decide +kernel)) (by decide +kernel)
theorem k_1363 : (.instanceMethod ⟨"JoinOrdersModel", "line", "()Z"⟩ : Cond) ∈ lg_w := inG (List.mem_of_getElem? (i := 1363) (by decide +kernel)) (by decide +kernel)
theorem k_1364 : (.code ⟨"JoinOrdersModel", "line", "()Z"⟩ prog_14_method_24_code 4 (Option.some FieldType.boolean) : Cond) ∈ lg_w := inG (List.mem_of_getElem? (i := 1364) (by decide +kernel)) (by decide +kernel)
theorem k_1365 : (.constantLong "JoinOrdersModel" 158 (8243113858792255342 : Int64) : Cond) ∈ lg_w := inG (List.mem_of_getElem? (i := 1365) (by decide +kernel)) (by decide +kernel)
theorem k_1366 : (.methodLink "JoinOrdersModel" 160 ⟨"JoinOrdersModel", "relationLine", "()Z"⟩ : Cond) ∈ lg_w := inG (List.mem_of_getElem? (i := 1366) (by decide +kernel)) (by decide +kernel)
theorem k_1368 : (.instanceMethod ⟨"JoinOrdersModel", "relationLine", "()Z"⟩ : Cond) ∈ lg_w := inG (List.mem_of_getElem? (i := 1368) (by decide +kernel)) (by decide +kernel)
theorem k_1369 : (.code ⟨"JoinOrdersModel", "relationLine", "()Z"⟩ prog_14_method_21_code 1 (Option.some FieldType.boolean) : Cond) ∈ lg_w := inG (List.mem_of_getElem? (i := 1369) (by decide +kernel)) (by decide +kernel)
theorem k_1370 : (.methodLink "JoinOrdersModel" 134 ⟨"JoinOrdersModel", "isBad", "(II)V"⟩ : Cond) ∈ lg_w := inG (List.mem_of_getElem? (i := 1370) (by decide +kernel)) (by decide +kernel)
theorem k_1372 : (.instanceMethod ⟨"JoinOrdersModel", "isBad", "(II)V"⟩ : Cond) ∈ lg_w := inG (List.mem_of_getElem? (i := 1372) (by decide +kernel)) (by decide +kernel)
theorem k_1373 : (.code ⟨"JoinOrdersModel", "isBad", "(II)V"⟩ prog_14_method_16_code 3 (Option.none : Option FieldType) : Cond) ∈ lg_w := inG (List.mem_of_getElem? (i := 1373) (by decide +kernel)) (by decide +kernel)
theorem k_1374 : (.constant "JoinOrdersModel" 141 (1000000 : Int32) : Cond) ∈ lg_w := inG (List.mem_of_getElem? (i := 1374) (by decide +kernel)) (by decide +kernel)
theorem k_1375 : (.methodLink "JoinOrdersModel" 142 ⟨"JoinOrdersModel", "takes", "(II)Z"⟩ : Cond) ∈ lg_w := inG (List.mem_of_getElem? (i := 1375) (by decide +kernel)) (by decide +kernel)
theorem k_1377 : (.instanceMethod ⟨"JoinOrdersModel", "takes", "(II)Z"⟩ : Cond) ∈ lg_w := inG (List.mem_of_getElem? (i := 1377) (by decide +kernel)) (by decide +kernel)
theorem k_1378 : (.code ⟨"JoinOrdersModel", "takes", "(II)Z"⟩ prog_14_method_17_code 3 (Option.some FieldType.boolean) : Cond) ∈ lg_w := inG (List.mem_of_getElem? (i := 1378) (by decide +kernel)) (by decide +kernel)
theorem k_1379 : (.methodLink "JoinOrdersModel" 127 ⟨"JoinOrdersModel", "fails", "()Z"⟩ : Cond) ∈ lg_w := inG (List.mem_of_getElem? (i := 1379) (by decide +kernel)) (by decide +kernel)
theorem k_1381 : (.instanceMethod ⟨"JoinOrdersModel", "fails", "()Z"⟩ : Cond) ∈ lg_w := inG (List.mem_of_getElem? (i := 1381) (by decide +kernel)) (by decide +kernel)
theorem k_1382 : (.code ⟨"JoinOrdersModel", "fails", "()Z"⟩ prog_14_method_15_code 1 (Option.some FieldType.boolean) : Cond) ∈ lg_w := inG (List.mem_of_getElem? (i := 1382) (by decide +kernel)) (by decide +kernel)
theorem k_1383 : (.constantLong "JoinOrdersModel" 163 (1701078885 : Int64) : Cond) ∈ lg_w := inG (List.mem_of_getElem? (i := 1383) (by decide +kernel)) (by decide +kernel)
theorem k_1384 : (.methodLink "JoinOrdersModel" 165 ⟨"JoinOrdersModel", "edgeLine", "()Z"⟩ : Cond) ∈ lg_w := inG (List.mem_of_getElem? (i := 1384) (by decide +kernel)) (by decide +kernel)
theorem k_1386 : (.instanceMethod ⟨"JoinOrdersModel", "edgeLine", "()Z"⟩ : Cond) ∈ lg_w := inG (List.mem_of_getElem? (i := 1386) (by decide +kernel)) (by decide +kernel)
theorem k_1387 : (.code ⟨"JoinOrdersModel", "edgeLine", "()Z"⟩ prog_14_method_23_code 4 (Option.some FieldType.boolean) : Cond) ∈ lg_w := inG (List.mem_of_getElem? (i := 1387) (by decide +kernel)) (by decide +kernel)
theorem k_1388 : (.methodLink "JoinOrdersModel" 148 ⟨"JoinOrdersModel", "takesSide", "(I)Z"⟩ : Cond) ∈ lg_w := inG (List.mem_of_getElem? (i := 1388) (by decide +kernel)) (by decide +kernel)
theorem k_1390 : (.instanceMethod ⟨"JoinOrdersModel", "takesSide", "(I)Z"⟩ : Cond) ∈ lg_w := inG (List.mem_of_getElem? (i := 1390) (by decide +kernel)) (by decide +kernel)
theorem k_1391 : (.code ⟨"JoinOrdersModel", "takesSide", "(I)Z"⟩ prog_14_method_22_code 2 (Option.some FieldType.boolean) : Cond) ∈ lg_w := inG (List.mem_of_getElem? (i := 1391) (by decide +kernel)) (by decide +kernel)
theorem k_1392 : (.methodLink "JoinOrdersModel" 152 ⟨"JoinOrdersModel", "takesSign", "(I)Z"⟩ : Cond) ∈ lg_w := inG (List.mem_of_getElem? (i := 1392) (by decide +kernel)) (by decide +kernel)
theorem k_1394 : (.instanceMethod ⟨"JoinOrdersModel", "takesSign", "(I)Z"⟩ : Cond) ∈ lg_w := inG (List.mem_of_getElem? (i := 1394) (by decide +kernel)) (by decide +kernel)
theorem k_1395 : (.code ⟨"JoinOrdersModel", "takesSign", "(I)Z"⟩ prog_14_method_18_code 2 (Option.some FieldType.boolean) : Cond) ∈ lg_w := inG (List.mem_of_getElem? (i := 1395) (by decide +kernel)) (by decide +kernel)
theorem k_1396 : (.constantLong "JoinOrdersModel" 155 (25209 : Int64) : Cond) ∈ lg_w := inG (List.mem_of_getElem? (i := 1396) (by decide +kernel)) (by decide +kernel)
theorem k_1397 : (.constant "JoinOrdersModel" 157 (100000 : Int32) : Cond) ∈ lg_w := inG (List.mem_of_getElem? (i := 1397) (by decide +kernel)) (by decide +kernel)
theorem k_1398 : (.constantLong "JoinOrdersModel" 168 (465625246068 : Int64) : Cond) ∈ lg_w := inG (List.mem_of_getElem? (i := 1398) (by decide +kernel)) (by decide +kernel)
theorem k_1399 : (.methodLink "JoinOrdersModel" 176 ⟨"JoinOrdersModel", "isFine", "(Z)Z"⟩ : Cond) ∈ lg_w := inG (List.mem_of_getElem? (i := 1399) (by decide +kernel)) (by decide +kernel)
theorem k_1401 : (.instanceMethod ⟨"JoinOrdersModel", "isFine", "(Z)Z"⟩ : Cond) ∈ lg_w := inG (List.mem_of_getElem? (i := 1401) (by decide +kernel)) (by decide +kernel)
theorem k_1402 : (.code ⟨"JoinOrdersModel", "isFine", "(Z)Z"⟩ prog_14_method_20_code 2 (Option.some FieldType.boolean) : Cond) ∈ lg_w := inG (List.mem_of_getElem? (i := 1402) (by decide +kernel)) (by decide +kernel)
theorem k_1404 : (.instanceMethod ⟨"JoinOrdersModel", "fault", "(Z)I"⟩ : Cond) ∈ lg_w := inG (List.mem_of_getElem? (i := 1404) (by decide +kernel)) (by decide +kernel)
theorem k_1405 : (.selects "JoinOrdersModel" ⟨"JoinOrdersModel", "fault", "(Z)I"⟩ ⟨"JoinOrdersModel", "fault", "(Z)I"⟩ : Cond) ∈ lg_w := inG (List.mem_of_getElem? (i := 1405) (by decide +kernel)) (by decide +kernel)
theorem k_1406 : (.code ⟨"JoinOrdersModel", "fault", "(Z)I"⟩ prog_14_method_26_code 2 (Option.some FieldType.int) : Cond) ∈ lg_w := inG (List.mem_of_getElem? (i := 1406) (by decide +kernel)) (by decide +kernel)
theorem k_1408 : (.instanceMethod ⟨"JoinOrdersModel", "plan", "()I"⟩ : Cond) ∈ lg_w := inG (List.mem_of_getElem? (i := 1408) (by decide +kernel)) (by decide +kernel)
theorem k_1409 : (.selects "JoinOrdersModel" ⟨"JoinOrdersModel", "plan", "()I"⟩ ⟨"JoinOrdersModel", "plan", "()I"⟩ : Cond) ∈ lg_w := inG (List.mem_of_getElem? (i := 1409) (by decide +kernel)) (by decide +kernel)
theorem k_1410 : (.code ⟨"JoinOrdersModel", "plan", "()I"⟩ prog_14_method_33_code 2 (Option.some FieldType.int) : Cond) ∈ lg_w := inG (List.mem_of_getElem? (i := 1410) (by decide +kernel)) (by decide +kernel)
theorem k_1411 : (.methodLink "JoinOrdersModel" 215 ⟨"JoinOrdersModel", "isPlan", "()Z"⟩ : Cond) ∈ lg_w := inG (List.mem_of_getElem? (i := 1411) (by decide +kernel)) (by decide +kernel)
theorem k_1413 : (.instanceMethod ⟨"JoinOrdersModel", "isPlan", "()Z"⟩ : Cond) ∈ lg_w := inG (List.mem_of_getElem? (i := 1413) (by decide +kernel)) (by decide +kernel)
theorem k_1414 : (.code ⟨"JoinOrdersModel", "isPlan", "()Z"⟩ prog_14_method_32_code 1 (Option.some FieldType.boolean) : Cond) ∈ lg_w := inG (List.mem_of_getElem? (i := 1414) (by decide +kernel)) (by decide +kernel)
theorem k_1415 : (.methodLink "JoinOrdersModel" 209 ⟨"JoinOrdersModel", "takesNumber", "()Z"⟩ : Cond) ∈ lg_w := inG (List.mem_of_getElem? (i := 1415) (by decide +kernel)) (by decide +kernel)
theorem k_1417 : (.instanceMethod ⟨"JoinOrdersModel", "takesNumber", "()Z"⟩ : Cond) ∈ lg_w := inG (List.mem_of_getElem? (i := 1417) (by decide +kernel)) (by decide +kernel)
theorem k_1418 : (.code ⟨"JoinOrdersModel", "takesNumber", "()Z"⟩ prog_14_method_28_code 2 (Option.some FieldType.boolean) : Cond) ∈ lg_w := inG (List.mem_of_getElem? (i := 1418) (by decide +kernel)) (by decide +kernel)
theorem k_1419 : (.methodLink "JoinOrdersModel" 189 ⟨"JoinOrdersModel", "puts", "(I)V"⟩ : Cond) ∈ lg_w := inG (List.mem_of_getElem? (i := 1419) (by decide +kernel)) (by decide +kernel)
theorem k_1421 : (.instanceMethod ⟨"JoinOrdersModel", "puts", "(I)V"⟩ : Cond) ∈ lg_w := inG (List.mem_of_getElem? (i := 1421) (by decide +kernel)) (by decide +kernel)
theorem k_1422 : (.code ⟨"JoinOrdersModel", "puts", "(I)V"⟩ prog_14_method_27_code 2 (Option.none : Option FieldType) : Cond) ∈ lg_w := inG (List.mem_of_getElem? (i := 1422) (by decide +kernel)) (by decide +kernel)
theorem k_1423 : (.methodLink "JoinOrdersModel" 212 ⟨"JoinOrdersModel", "closes", "()Z"⟩ : Cond) ∈ lg_w := inG (List.mem_of_getElem? (i := 1423) (by decide +kernel)) (by decide +kernel)
theorem k_1425 : (.instanceMethod ⟨"JoinOrdersModel", "closes", "()Z"⟩ : Cond) ∈ lg_w := inG (List.mem_of_getElem? (i := 1425) (by decide +kernel)) (by decide +kernel)
theorem k_1426 : (.code ⟨"JoinOrdersModel", "closes", "()Z"⟩ prog_14_method_31_code 2 (Option.some FieldType.boolean) : Cond) ∈ lg_w := inG (List.mem_of_getElem? (i := 1426) (by decide +kernel)) (by decide +kernel)
theorem k_1427 : (.methodLink "JoinOrdersModel" 206 ⟨"JoinOrdersModel", "joinsTwo", "()V"⟩ : Cond) ∈ lg_w := inG (List.mem_of_getElem? (i := 1427) (by decide +kernel)) (by decide +kernel)
theorem k_1429 : (.instanceMethod ⟨"JoinOrdersModel", "joinsTwo", "()V"⟩ : Cond) ∈ lg_w := inG (List.mem_of_getElem? (i := 1429) (by decide +kernel)) (by decide +kernel)
theorem k_1430 : (.code ⟨"JoinOrdersModel", "joinsTwo", "()V"⟩ prog_14_method_29_code 3 (Option.none : Option FieldType) : Cond) ∈ lg_w := inG (List.mem_of_getElem? (i := 1430) (by decide +kernel)) (by decide +kernel)
theorem k_1431 : (.methodLink "JoinOrdersModel" 193 ⟨"JoinOrdersModel", "isAheadOf", "(II)Z"⟩ : Cond) ∈ lg_w := inG (List.mem_of_getElem? (i := 1431) (by decide +kernel)) (by decide +kernel)
theorem k_1432 : (.static ⟨"JoinOrdersModel", "isAheadOf", "(II)Z"⟩ : Cond) ∈ lg_w := inG (List.mem_of_getElem? (i := 1432) (by decide +kernel)) (by decide +kernel)
theorem k_1433 : (.code ⟨"JoinOrdersModel", "isAheadOf", "(II)Z"⟩ prog_14_method_30_code 2 (Option.some FieldType.boolean) : Cond) ∈ lg_w := inG (List.mem_of_getElem? (i := 1433) (by decide +kernel)) (by decide +kernel)
theorem k_1434 : (.methodLink "JoinOrdersModel" 199 ⟨"JoinOrdersModel", "least", "(I)I"⟩ : Cond) ∈ lg_w := inG (List.mem_of_getElem? (i := 1434) (by decide +kernel)) (by decide +kernel)
theorem k_1435 : (.static ⟨"JoinOrdersModel", "least", "(I)I"⟩ : Cond) ∈ lg_w := inG (List.mem_of_getElem? (i := 1435) (by decide +kernel)) (by decide +kernel)
theorem k_1436 : (.code ⟨"JoinOrdersModel", "least", "(I)I"⟩ prog_14_method_6_code 1 (Option.some FieldType.int) : Cond) ∈ lg_w := inG (List.mem_of_getElem? (i := 1436) (by decide +kernel)) (by decide +kernel)
theorem k_1437 : (.methodLink "JoinOrdersModel" 218 ⟨"JoinOrdersModel", "keeps", "()V"⟩ : Cond) ∈ lg_w := inG (List.mem_of_getElem? (i := 1437) (by decide +kernel)) (by decide +kernel)
theorem k_1439 : (.instanceMethod ⟨"JoinOrdersModel", "keeps", "()V"⟩ : Cond) ∈ lg_w := inG (List.mem_of_getElem? (i := 1439) (by decide +kernel)) (by decide +kernel)
theorem k_1440 : (.code ⟨"JoinOrdersModel", "keeps", "()V"⟩ prog_14_method_56_code 2 (Option.none : Option FieldType) : Cond) ∈ lg_w := inG (List.mem_of_getElem? (i := 1440) (by decide +kernel)) (by decide +kernel)
theorem k_1442 : (.instanceMethod ⟨"JoinOrdersModel", "add", "(I)I"⟩ : Cond) ∈ lg_w := inG (List.mem_of_getElem? (i := 1442) (by decide +kernel)) (by decide +kernel)
theorem k_1443 : (.selects "JoinOrdersModel" ⟨"JoinOrdersModel", "add", "(I)I"⟩ ⟨"JoinOrdersModel", "add", "(I)I"⟩ : Cond) ∈ lg_w := inG (List.mem_of_getElem? (i := 1443) (by decide +kernel)) (by decide +kernel)
theorem k_1444 : (.code ⟨"JoinOrdersModel", "add", "(I)I"⟩ prog_14_method_60_code 2 (Option.some FieldType.int) : Cond) ∈ lg_w := inG (List.mem_of_getElem? (i := 1444) (by decide +kernel)) (by decide +kernel)
theorem k_1445 : (.constantLong "JoinOrdersModel" 307 (1000000 : Int64) : Cond) ∈ lg_w := inG (List.mem_of_getElem? (i := 1445) (by decide +kernel)) (by decide +kernel)
theorem k_1446 : (.methodLink "JoinOrdersModel" 309 ⟨"JoinOrdersModel", "noPlan", "()V"⟩ : Cond) ∈ lg_w := inG (List.mem_of_getElem? (i := 1446) (by decide +kernel)) (by decide +kernel)
theorem k_1448 : (.instanceMethod ⟨"JoinOrdersModel", "noPlan", "()V"⟩ : Cond) ∈ lg_w := inG (List.mem_of_getElem? (i := 1448) (by decide +kernel)) (by decide +kernel)
theorem k_1449 : (.code ⟨"JoinOrdersModel", "noPlan", "()V"⟩ prog_14_method_57_code 2 (Option.none : Option FieldType) : Cond) ∈ lg_w := inG (List.mem_of_getElem? (i := 1449) (by decide +kernel)) (by decide +kernel)
theorem k_1451 : (.instanceMethod ⟨"JoinOrdersModel", "rows", "(II)Z"⟩ : Cond) ∈ lg_w := inG (List.mem_of_getElem? (i := 1451) (by decide +kernel)) (by decide +kernel)
theorem k_1452 : (.selects "JoinOrdersModel" ⟨"JoinOrdersModel", "rows", "(II)Z"⟩ ⟨"JoinOrdersModel", "rows", "(II)Z"⟩ : Cond) ∈ lg_w := inG (List.mem_of_getElem? (i := 1452) (by decide +kernel)) (by decide +kernel)
theorem k_1453 : (.code ⟨"JoinOrdersModel", "rows", "(II)Z"⟩ prog_14_method_61_code 3 (Option.some FieldType.boolean) : Cond) ∈ lg_w := inG (List.mem_of_getElem? (i := 1453) (by decide +kernel)) (by decide +kernel)
theorem k_1454 : (.methodLink "JoinOrdersModel" 312 ⟨"JoinOrdersModel", "isRelation", "(I)Z"⟩ : Cond) ∈ lg_w := inG (List.mem_of_getElem? (i := 1454) (by decide +kernel)) (by decide +kernel)
theorem k_1456 : (.instanceMethod ⟨"JoinOrdersModel", "isRelation", "(I)Z"⟩ : Cond) ∈ lg_w := inG (List.mem_of_getElem? (i := 1456) (by decide +kernel)) (by decide +kernel)
theorem k_1457 : (.code ⟨"JoinOrdersModel", "isRelation", "(I)Z"⟩ prog_14_method_58_code 2 (Option.some FieldType.boolean) : Cond) ∈ lg_w := inG (List.mem_of_getElem? (i := 1457) (by decide +kernel)) (by decide +kernel)
theorem k_1459 : (.instanceMethod ⟨"JoinOrdersModel", "link", "(III)I"⟩ : Cond) ∈ lg_w := inG (List.mem_of_getElem? (i := 1459) (by decide +kernel)) (by decide +kernel)
theorem k_1460 : (.selects "JoinOrdersModel" ⟨"JoinOrdersModel", "link", "(III)I"⟩ ⟨"JoinOrdersModel", "link", "(III)I"⟩ : Cond) ∈ lg_w := inG (List.mem_of_getElem? (i := 1460) (by decide +kernel)) (by decide +kernel)
theorem k_1461 : (.code ⟨"JoinOrdersModel", "link", "(III)I"⟩ prog_14_method_62_code 5 (Option.some FieldType.int) : Cond) ∈ lg_w := inG (List.mem_of_getElem? (i := 1461) (by decide +kernel)) (by decide +kernel)
theorem k_1462 : (.methodLink "JoinOrdersModel" 315 ⟨"JoinOrdersModel", "isSet", "(I)Z"⟩ : Cond) ∈ lg_w := inG (List.mem_of_getElem? (i := 1462) (by decide +kernel)) (by decide +kernel)
theorem k_1464 : (.instanceMethod ⟨"JoinOrdersModel", "isSet", "(I)Z"⟩ : Cond) ∈ lg_w := inG (List.mem_of_getElem? (i := 1464) (by decide +kernel)) (by decide +kernel)
theorem k_1465 : (.code ⟨"JoinOrdersModel", "isSet", "(I)Z"⟩ prog_14_method_8_code 2 (Option.some FieldType.boolean) : Cond) ∈ lg_w := inG (List.mem_of_getElem? (i := 1465) (by decide +kernel)) (by decide +kernel)
theorem k_1466 : (.methodLink "JoinOrdersModel" 71 ⟨"JoinOrdersModel", "everything", "()I"⟩ : Cond) ∈ lg_w := inG (List.mem_of_getElem? (i := 1466) (by decide +kernel)) (by decide +kernel)
theorem k_1468 : (.instanceMethod ⟨"JoinOrdersModel", "everything", "()I"⟩ : Cond) ∈ lg_w := inG (List.mem_of_getElem? (i := 1468) (by decide +kernel)) (by decide +kernel)
theorem k_1469 : (.code ⟨"JoinOrdersModel", "everything", "()I"⟩ prog_14_method_4_code 1 (Option.some FieldType.int) : Cond) ∈ lg_w := inG (List.mem_of_getElem? (i := 1469) (by decide +kernel)) (by decide +kernel)
theorem k_1470 : (.methodLink "JoinOrdersModel" 75 ⟨"JoinOrdersModel", "isIn", "(II)Z"⟩ : Cond) ∈ lg_w := inG (List.mem_of_getElem? (i := 1470) (by decide +kernel)) (by decide +kernel)
theorem k_1471 : (.static ⟨"JoinOrdersModel", "isIn", "(II)Z"⟩ : Cond) ∈ lg_w := inG (List.mem_of_getElem? (i := 1471) (by decide +kernel)) (by decide +kernel)
theorem k_1472 : (.code ⟨"JoinOrdersModel", "isIn", "(II)Z"⟩ prog_14_method_7_code 2 (Option.some FieldType.boolean) : Cond) ∈ lg_w := inG (List.mem_of_getElem? (i := 1472) (by decide +kernel)) (by decide +kernel)
theorem k_1473 : (.constantLong "JoinOrdersModel" 318 (100000 : Int64) : Cond) ∈ lg_w := inG (List.mem_of_getElem? (i := 1473) (by decide +kernel)) (by decide +kernel)
theorem k_1475 : (.instanceMethod ⟨"JoinOrdersModel", "cut", "(I)I"⟩ : Cond) ∈ lg_w := inG (List.mem_of_getElem? (i := 1475) (by decide +kernel)) (by decide +kernel)
theorem k_1476 : (.selects "JoinOrdersModel" ⟨"JoinOrdersModel", "cut", "(I)I"⟩ ⟨"JoinOrdersModel", "cut", "(I)I"⟩ : Cond) ∈ lg_w := inG (List.mem_of_getElem? (i := 1476) (by decide +kernel)) (by decide +kernel)
theorem k_1477 : (.code ⟨"JoinOrdersModel", "cut", "(I)I"⟩ prog_14_method_64_code 3 (Option.some FieldType.int) : Cond) ∈ lg_w := inG (List.mem_of_getElem? (i := 1477) (by decide +kernel)) (by decide +kernel)
theorem k_1478 : (.methodLink "JoinOrdersModel" 320 ⟨"JoinOrdersModel", "isEdge", "(I)Z"⟩ : Cond) ∈ lg_w := inG (List.mem_of_getElem? (i := 1478) (by decide +kernel)) (by decide +kernel)
theorem k_1480 : (.instanceMethod ⟨"JoinOrdersModel", "isEdge", "(I)Z"⟩ : Cond) ∈ lg_w := inG (List.mem_of_getElem? (i := 1480) (by decide +kernel)) (by decide +kernel)
theorem k_1481 : (.code ⟨"JoinOrdersModel", "isEdge", "(I)Z"⟩ prog_14_method_59_code 2 (Option.some FieldType.boolean) : Cond) ∈ lg_w := inG (List.mem_of_getElem? (i := 1481) (by decide +kernel)) (by decide +kernel)
theorem k_1482 : (.methodLink "JoinOrdersModel" 323 ⟨"JoinOrdersModel", "takesOut", "(I)V"⟩ : Cond) ∈ lg_w := inG (List.mem_of_getElem? (i := 1482) (by decide +kernel)) (by decide +kernel)
theorem k_1484 : (.instanceMethod ⟨"JoinOrdersModel", "takesOut", "(I)V"⟩ : Cond) ∈ lg_w := inG (List.mem_of_getElem? (i := 1484) (by decide +kernel)) (by decide +kernel)
theorem k_1485 : (.code ⟨"JoinOrdersModel", "takesOut", "(I)V"⟩ prog_14_method_63_code 3 (Option.none : Option FieldType) : Cond) ∈ lg_w := inG (List.mem_of_getElem? (i := 1485) (by decide +kernel)) (by decide +kernel)
theorem k_1487 : (.instanceMethod ⟨"JoinOrdersModel", "by", "(II)Z"⟩ : Cond) ∈ lg_w := inG (List.mem_of_getElem? (i := 1487) (by decide +kernel)) (by decide +kernel)
theorem k_1488 : (.selects "JoinOrdersModel" ⟨"JoinOrdersModel", "by", "(II)Z"⟩ ⟨"JoinOrdersModel", "by", "(II)Z"⟩ : Cond) ∈ lg_w := inG (List.mem_of_getElem? (i := 1488) (by decide +kernel)) (by decide +kernel)
theorem k_1489 : (.code ⟨"JoinOrdersModel", "by", "(II)Z"⟩ prog_14_method_65_code 3 (Option.some FieldType.boolean) : Cond) ∈ lg_w := inG (List.mem_of_getElem? (i := 1489) (by decide +kernel)) (by decide +kernel)
theorem k_1490 : (.methodLink "JoinOrdersModel" 229 ⟨"JoinOrdersModel", "byOf", "(I)I"⟩ : Cond) ∈ lg_w := inG (List.mem_of_getElem? (i := 1490) (by decide +kernel)) (by decide +kernel)
theorem k_1492 : (.instanceMethod ⟨"JoinOrdersModel", "byOf", "(I)I"⟩ : Cond) ∈ lg_w := inG (List.mem_of_getElem? (i := 1492) (by decide +kernel)) (by decide +kernel)
theorem k_1493 : (.code ⟨"JoinOrdersModel", "byOf", "(I)I"⟩ prog_14_method_11_code 2 (Option.some FieldType.int) : Cond) ∈ lg_w := inG (List.mem_of_getElem? (i := 1493) (by decide +kernel)) (by decide +kernel)
theorem k_1495 : (.instanceMethod ⟨"JoinOrdersModel", "limit", "(I)Z"⟩ : Cond) ∈ lg_w := inG (List.mem_of_getElem? (i := 1495) (by decide +kernel)) (by decide +kernel)
theorem k_1496 : (.selects "JoinOrdersModel" ⟨"JoinOrdersModel", "limit", "(I)Z"⟩ ⟨"JoinOrdersModel", "limit", "(I)Z"⟩ : Cond) ∈ lg_w := inG (List.mem_of_getElem? (i := 1496) (by decide +kernel)) (by decide +kernel)
theorem k_1497 : (.code ⟨"JoinOrdersModel", "limit", "(I)Z"⟩ prog_14_method_66_code 2 (Option.some FieldType.boolean) : Cond) ∈ lg_w := inG (List.mem_of_getElem? (i := 1497) (by decide +kernel)) (by decide +kernel)
theorem k_1498 : (.constantLong "JoinOrdersModel" 326 (5000 : Int64) : Cond) ∈ lg_w := inG (List.mem_of_getElem? (i := 1498) (by decide +kernel)) (by decide +kernel)
theorem k_1500 : (.instanceMethod ⟨"JoinOrdersModel", "choose", "()I"⟩ : Cond) ∈ lg_w := inG (List.mem_of_getElem? (i := 1500) (by decide +kernel)) (by decide +kernel)
theorem k_1501 : (.selects "JoinOrdersModel" ⟨"JoinOrdersModel", "choose", "()I"⟩ ⟨"JoinOrdersModel", "choose", "()I"⟩ : Cond) ∈ lg_w := inG (List.mem_of_getElem? (i := 1501) (by decide +kernel)) (by decide +kernel)
theorem k_1502 : (.code ⟨"JoinOrdersModel", "choose", "()I"⟩ prog_14_method_68_code 2 (Option.some FieldType.int) : Cond) ∈ lg_w := inG (List.mem_of_getElem? (i := 1502) (by decide +kernel)) (by decide +kernel)
theorem k_1503 : (.methodLink "JoinOrdersModel" 328 ⟨"JoinOrdersModel", "lays", "()V"⟩ : Cond) ∈ lg_w := inG (List.mem_of_getElem? (i := 1503) (by decide +kernel)) (by decide +kernel)
theorem k_1505 : (.instanceMethod ⟨"JoinOrdersModel", "lays", "()V"⟩ : Cond) ∈ lg_w := inG (List.mem_of_getElem? (i := 1505) (by decide +kernel)) (by decide +kernel)
theorem k_1506 : (.code ⟨"JoinOrdersModel", "lays", "()V"⟩ prog_14_method_40_code 2 (Option.none : Option FieldType) : Cond) ∈ lg_w := inG (List.mem_of_getElem? (i := 1506) (by decide +kernel)) (by decide +kernel)
theorem k_1507 : (.methodLink "JoinOrdersModel" 245 ⟨"JoinOrdersModel", "laysSize", "(I)V"⟩ : Cond) ∈ lg_w := inG (List.mem_of_getElem? (i := 1507) (by decide +kernel)) (by decide +kernel)
theorem k_1509 : (.instanceMethod ⟨"JoinOrdersModel", "laysSize", "(I)V"⟩ : Cond) ∈ lg_w := inG (List.mem_of_getElem? (i := 1509) (by decide +kernel)) (by decide +kernel)
theorem k_1510 : (.code ⟨"JoinOrdersModel", "laysSize", "(I)V"⟩ prog_14_method_35_code 11 (Option.none : Option FieldType) : Cond) ∈ lg_w := inG (List.mem_of_getElem? (i := 1510) (by decide +kernel)) (by decide +kernel)
theorem k_1511 : (.constantLong "JoinOrdersModel" 227 (1000000000000000 : Int64) : Cond) ∈ lg_w := inG (List.mem_of_getElem? (i := 1511) (by decide +kernel)) (by decide +kernel)
theorem k_1512 : (.methodLink "JoinOrdersModel" 221 ⟨"JoinOrdersModel", "leftOf", "(I)I"⟩ : Cond) ∈ lg_w := inG (List.mem_of_getElem? (i := 1512) (by decide +kernel)) (by decide +kernel)
theorem k_1514 : (.instanceMethod ⟨"JoinOrdersModel", "leftOf", "(I)I"⟩ : Cond) ∈ lg_w := inG (List.mem_of_getElem? (i := 1514) (by decide +kernel)) (by decide +kernel)
theorem k_1515 : (.code ⟨"JoinOrdersModel", "leftOf", "(I)I"⟩ prog_14_method_9_code 2 (Option.some FieldType.int) : Cond) ∈ lg_w := inG (List.mem_of_getElem? (i := 1515) (by decide +kernel)) (by decide +kernel)
theorem k_1516 : (.methodLink "JoinOrdersModel" 224 ⟨"JoinOrdersModel", "rightOf", "(I)I"⟩ : Cond) ∈ lg_w := inG (List.mem_of_getElem? (i := 1516) (by decide +kernel)) (by decide +kernel)
theorem k_1518 : (.instanceMethod ⟨"JoinOrdersModel", "rightOf", "(I)I"⟩ : Cond) ∈ lg_w := inG (List.mem_of_getElem? (i := 1518) (by decide +kernel)) (by decide +kernel)
theorem k_1519 : (.code ⟨"JoinOrdersModel", "rightOf", "(I)I"⟩ prog_14_method_10_code 2 (Option.some FieldType.int) : Cond) ∈ lg_w := inG (List.mem_of_getElem? (i := 1519) (by decide +kernel)) (by decide +kernel)
theorem k_1520 : (.methodLink "JoinOrdersModel" 232 ⟨"JoinOrdersModel", "isOne", "(I)Z"⟩ : Cond) ∈ lg_w := inG (List.mem_of_getElem? (i := 1520) (by decide +kernel)) (by decide +kernel)
theorem k_1521 : (.static ⟨"JoinOrdersModel", "isOne", "(I)Z"⟩ : Cond) ∈ lg_w := inG (List.mem_of_getElem? (i := 1521) (by decide +kernel)) (by decide +kernel)
theorem k_1522 : (.code ⟨"JoinOrdersModel", "isOne", "(I)Z"⟩ prog_14_method_5_code 1 (Option.some FieldType.boolean) : Cond) ∈ lg_w := inG (List.mem_of_getElem? (i := 1522) (by decide +kernel)) (by decide +kernel)
theorem k_1523 : (.methodLink "JoinOrdersModel" 248 ⟨"JoinOrdersModel", "pairsOf", "(I)I"⟩ : Cond) ∈ lg_w := inG (List.mem_of_getElem? (i := 1523) (by decide +kernel)) (by decide +kernel)
theorem k_1525 : (.instanceMethod ⟨"JoinOrdersModel", "pairsOf", "(I)I"⟩ : Cond) ∈ lg_w := inG (List.mem_of_getElem? (i := 1525) (by decide +kernel)) (by decide +kernel)
theorem k_1526 : (.code ⟨"JoinOrdersModel", "pairsOf", "(I)I"⟩ prog_14_method_39_code 4 (Option.some FieldType.int) : Cond) ∈ lg_w := inG (List.mem_of_getElem? (i := 1526) (by decide +kernel)) (by decide +kernel)
theorem k_1527 : (.methodLink "JoinOrdersModel" 242 ⟨"JoinOrdersModel", "isPair", "(II)Z"⟩ : Cond) ∈ lg_w := inG (List.mem_of_getElem? (i := 1527) (by decide +kernel)) (by decide +kernel)
theorem k_1529 : (.instanceMethod ⟨"JoinOrdersModel", "isPair", "(II)Z"⟩ : Cond) ∈ lg_w := inG (List.mem_of_getElem? (i := 1529) (by decide +kernel)) (by decide +kernel)
theorem k_1530 : (.code ⟨"JoinOrdersModel", "isPair", "(II)Z"⟩ prog_14_method_38_code 3 (Option.some FieldType.boolean) : Cond) ∈ lg_w := inG (List.mem_of_getElem? (i := 1530) (by decide +kernel)) (by decide +kernel)
theorem k_1531 : (.methodLink "JoinOrdersModel" 235 ⟨"JoinOrdersModel", "isJoined", "(II)Z"⟩ : Cond) ∈ lg_w := inG (List.mem_of_getElem? (i := 1531) (by decide +kernel)) (by decide +kernel)
theorem k_1533 : (.instanceMethod ⟨"JoinOrdersModel", "isJoined", "(II)Z"⟩ : Cond) ∈ lg_w := inG (List.mem_of_getElem? (i := 1533) (by decide +kernel)) (by decide +kernel)
theorem k_1534 : (.code ⟨"JoinOrdersModel", "isJoined", "(II)Z"⟩ prog_14_method_34_code 4 (Option.some FieldType.boolean) : Cond) ∈ lg_w := inG (List.mem_of_getElem? (i := 1534) (by decide +kernel)) (by decide +kernel)
theorem k_1535 : (.methodLink "JoinOrdersModel" 251 ⟨"JoinOrdersModel", "laysBest", "(II)V"⟩ : Cond) ∈ lg_w := inG (List.mem_of_getElem? (i := 1535) (by decide +kernel)) (by decide +kernel)
theorem k_1537 : (.instanceMethod ⟨"JoinOrdersModel", "laysBest", "(II)V"⟩ : Cond) ∈ lg_w := inG (List.mem_of_getElem? (i := 1537) (by decide +kernel)) (by decide +kernel)
theorem k_1538 : (.code ⟨"JoinOrdersModel", "laysBest", "(II)V"⟩ prog_14_method_37_code 9 (Option.none : Option FieldType) : Cond) ∈ lg_w := inG (List.mem_of_getElem? (i := 1538) (by decide +kernel)) (by decide +kernel)
theorem k_1539 : (.methodLink "JoinOrdersModel" 238 ⟨"JoinOrdersModel", "sum", "(JJ)J"⟩ : Cond) ∈ lg_w := inG (List.mem_of_getElem? (i := 1539) (by decide +kernel)) (by decide +kernel)
theorem k_1540 : (.static ⟨"JoinOrdersModel", "sum", "(JJ)J"⟩ : Cond) ∈ lg_w := inG (List.mem_of_getElem? (i := 1540) (by decide +kernel)) (by decide +kernel)
theorem k_1541 : (.code ⟨"JoinOrdersModel", "sum", "(JJ)J"⟩ prog_14_method_36_code 4 (Option.some FieldType.long) : Cond) ∈ lg_w := inG (List.mem_of_getElem? (i := 1541) (by decide +kernel)) (by decide +kernel)
theorem k_1542 : (.methodLink "JoinOrdersModel" 331 ⟨"JoinOrdersModel", "pairMany", "()I"⟩ : Cond) ∈ lg_w := inG (List.mem_of_getElem? (i := 1542) (by decide +kernel)) (by decide +kernel)
theorem k_1544 : (.instanceMethod ⟨"JoinOrdersModel", "pairMany", "()I"⟩ : Cond) ∈ lg_w := inG (List.mem_of_getElem? (i := 1544) (by decide +kernel)) (by decide +kernel)
theorem k_1545 : (.code ⟨"JoinOrdersModel", "pairMany", "()I"⟩ prog_14_method_41_code 3 (Option.some FieldType.int) : Cond) ∈ lg_w := inG (List.mem_of_getElem? (i := 1545) (by decide +kernel)) (by decide +kernel)
theorem k_1546 : (.methodLink "JoinOrdersModel" 334 ⟨"JoinOrdersModel", "partsOfGreedy", "()V"⟩ : Cond) ∈ lg_w := inG (List.mem_of_getElem? (i := 1546) (by decide +kernel)) (by decide +kernel)
theorem k_1548 : (.instanceMethod ⟨"JoinOrdersModel", "partsOfGreedy", "()V"⟩ : Cond) ∈ lg_w := inG (List.mem_of_getElem? (i := 1548) (by decide +kernel)) (by decide +kernel)
theorem k_1549 : (.code ⟨"JoinOrdersModel", "partsOfGreedy", "()V"⟩ prog_14_method_46_code 2 (Option.none : Option FieldType) : Cond) ∈ lg_w := inG (List.mem_of_getElem? (i := 1549) (by decide +kernel)) (by decide +kernel)
theorem k_1550 : (.methodLink "JoinOrdersModel" 254 ⟨"JoinOrdersModel", "noParts", "()V"⟩ : Cond) ∈ lg_w := inG (List.mem_of_getElem? (i := 1550) (by decide +kernel)) (by decide +kernel)
theorem k_1552 : (.instanceMethod ⟨"JoinOrdersModel", "noParts", "()V"⟩ : Cond) ∈ lg_w := inG (List.mem_of_getElem? (i := 1552) (by decide +kernel)) (by decide +kernel)
theorem k_1553 : (.code ⟨"JoinOrdersModel", "noParts", "()V"⟩ prog_14_method_42_code 2 (Option.none : Option FieldType) : Cond) ∈ lg_w := inG (List.mem_of_getElem? (i := 1553) (by decide +kernel)) (by decide +kernel)
theorem k_1554 : (.methodLink "JoinOrdersModel" 260 ⟨"JoinOrdersModel", "joinsGreedily", "()V"⟩ : Cond) ∈ lg_w := inG (List.mem_of_getElem? (i := 1554) (by decide +kernel)) (by decide +kernel)
theorem k_1556 : (.instanceMethod ⟨"JoinOrdersModel", "joinsGreedily", "()V"⟩ : Cond) ∈ lg_w := inG (List.mem_of_getElem? (i := 1556) (by decide +kernel)) (by decide +kernel)
theorem k_1557 : (.code ⟨"JoinOrdersModel", "joinsGreedily", "()V"⟩ prog_14_method_47_code 9 (Option.none : Option FieldType) : Cond) ∈ lg_w := inG (List.mem_of_getElem? (i := 1557) (by decide +kernel)) (by decide +kernel)
theorem k_1558 : (.methodLink "JoinOrdersModel" 263 ⟨"JoinOrdersModel", "isLess", "(IIII)Z"⟩ : Cond) ∈ lg_w := inG (List.mem_of_getElem? (i := 1558) (by decide +kernel)) (by decide +kernel)
theorem k_1560 : (.instanceMethod ⟨"JoinOrdersModel", "isLess", "(IIII)Z"⟩ : Cond) ∈ lg_w := inG (List.mem_of_getElem? (i := 1560) (by decide +kernel)) (by decide +kernel)
theorem k_1561 : (.code ⟨"JoinOrdersModel", "isLess", "(IIII)Z"⟩ prog_14_method_48_code 7 (Option.some FieldType.boolean) : Cond) ∈ lg_w := inG (List.mem_of_getElem? (i := 1561) (by decide +kernel)) (by decide +kernel)
theorem k_1562 : (.methodLink "JoinOrdersModel" 337 ⟨"JoinOrdersModel", "partsOfBest", "(I)V"⟩ : Cond) ∈ lg_w := inG (List.mem_of_getElem? (i := 1562) (by decide +kernel)) (by decide +kernel)
theorem k_1564 : (.instanceMethod ⟨"JoinOrdersModel", "partsOfBest", "(I)V"⟩ : Cond) ∈ lg_w := inG (List.mem_of_getElem? (i := 1564) (by decide +kernel)) (by decide +kernel)
theorem k_1565 : (.code ⟨"JoinOrdersModel", "partsOfBest", "(I)V"⟩ prog_14_method_43_code 3 (Option.none : Option FieldType) : Cond) ∈ lg_w := inG (List.mem_of_getElem? (i := 1565) (by decide +kernel)) (by decide +kernel)
theorem k_1566 : (.methodLink "JoinOrdersModel" 340 ⟨"JoinOrdersModel", "isPlanNow", "(I)V"⟩ : Cond) ∈ lg_w := inG (List.mem_of_getElem? (i := 1566) (by decide +kernel)) (by decide +kernel)
theorem k_1568 : (.instanceMethod ⟨"JoinOrdersModel", "isPlanNow", "(I)V"⟩ : Cond) ∈ lg_w := inG (List.mem_of_getElem? (i := 1568) (by decide +kernel)) (by decide +kernel)
theorem k_1569 : (.code ⟨"JoinOrdersModel", "isPlanNow", "(I)V"⟩ prog_14_method_67_code 3 (Option.none : Option FieldType) : Cond) ∈ lg_w := inG (List.mem_of_getElem? (i := 1569) (by decide +kernel)) (by decide +kernel)
theorem k_1571 : (.instanceMethod ⟨"JoinOrdersModel", "step", "()I"⟩ : Cond) ∈ lg_w := inG (List.mem_of_getElem? (i := 1571) (by decide +kernel)) (by decide +kernel)
theorem k_1572 : (.selects "JoinOrdersModel" ⟨"JoinOrdersModel", "step", "()I"⟩ ⟨"JoinOrdersModel", "step", "()I"⟩ : Cond) ∈ lg_w := inG (List.mem_of_getElem? (i := 1572) (by decide +kernel)) (by decide +kernel)
theorem k_1573 : (.code ⟨"JoinOrdersModel", "step", "()I"⟩ prog_14_method_69_code 4 (Option.some FieldType.int) : Cond) ∈ lg_w := inG (List.mem_of_getElem? (i := 1573) (by decide +kernel)) (by decide +kernel)
theorem k_1574 : (.methodLink "JoinOrdersModel" 343 ⟨"JoinOrdersModel", "takesPlan", "()V"⟩ : Cond) ∈ lg_w := inG (List.mem_of_getElem? (i := 1574) (by decide +kernel)) (by decide +kernel)
theorem k_1576 : (.instanceMethod ⟨"JoinOrdersModel", "takesPlan", "()V"⟩ : Cond) ∈ lg_w := inG (List.mem_of_getElem? (i := 1576) (by decide +kernel)) (by decide +kernel)
theorem k_1577 : (.code ⟨"JoinOrdersModel", "takesPlan", "()V"⟩ prog_14_method_49_code 2 (Option.none : Option FieldType) : Cond) ∈ lg_w := inG (List.mem_of_getElem? (i := 1577) (by decide +kernel)) (by decide +kernel)
theorem k_1578 : (.methodLink "JoinOrdersModel" 346 ⟨"JoinOrdersModel", "bestMove", "(I)I"⟩ : Cond) ∈ lg_w := inG (List.mem_of_getElem? (i := 1578) (by decide +kernel)) (by decide +kernel)
theorem k_1580 : (.instanceMethod ⟨"JoinOrdersModel", "bestMove", "(I)I"⟩ : Cond) ∈ lg_w := inG (List.mem_of_getElem? (i := 1580) (by decide +kernel)) (by decide +kernel)
theorem k_1581 : (.code ⟨"JoinOrdersModel", "bestMove", "(I)I"⟩ prog_14_method_55_code 12 (Option.some FieldType.int) : Cond) ∈ lg_w := inG (List.mem_of_getElem? (i := 1581) (by decide +kernel)) (by decide +kernel)
theorem k_1582 : (.methodLink "JoinOrdersModel" 288 ⟨"JoinOrdersModel", "laysNodes", "(I)V"⟩ : Cond) ∈ lg_w := inG (List.mem_of_getElem? (i := 1582) (by decide +kernel)) (by decide +kernel)
theorem k_1584 : (.instanceMethod ⟨"JoinOrdersModel", "laysNodes", "(I)V"⟩ : Cond) ∈ lg_w := inG (List.mem_of_getElem? (i := 1584) (by decide +kernel)) (by decide +kernel)
theorem k_1585 : (.code ⟨"JoinOrdersModel", "laysNodes", "(I)V"⟩ prog_14_method_50_code 3 (Option.none : Option FieldType) : Cond) ∈ lg_w := inG (List.mem_of_getElem? (i := 1585) (by decide +kernel)) (by decide +kernel)
theorem k_1586 : (.methodLink "JoinOrdersModel" 291 ⟨"JoinOrdersModel", "crossesOfParts", "()I"⟩ : Cond) ∈ lg_w := inG (List.mem_of_getElem? (i := 1586) (by decide +kernel)) (by decide +kernel)
theorem k_1588 : (.instanceMethod ⟨"JoinOrdersModel", "crossesOfParts", "()I"⟩ : Cond) ∈ lg_w := inG (List.mem_of_getElem? (i := 1588) (by decide +kernel)) (by decide +kernel)
theorem k_1589 : (.code ⟨"JoinOrdersModel", "crossesOfParts", "()I"⟩ prog_14_method_45_code 3 (Option.some FieldType.int) : Cond) ∈ lg_w := inG (List.mem_of_getElem? (i := 1589) (by decide +kernel)) (by decide +kernel)
theorem k_1590 : (.methodLink "JoinOrdersModel" 294 ⟨"JoinOrdersModel", "costOfParts", "(I)J"⟩ : Cond) ∈ lg_w := inG (List.mem_of_getElem? (i := 1590) (by decide +kernel)) (by decide +kernel)
theorem k_1592 : (.instanceMethod ⟨"JoinOrdersModel", "costOfParts", "(I)J"⟩ : Cond) ∈ lg_w := inG (List.mem_of_getElem? (i := 1592) (by decide +kernel)) (by decide +kernel)
theorem k_1593 : (.code ⟨"JoinOrdersModel", "costOfParts", "(I)J"⟩ prog_14_method_44_code 5 (Option.some FieldType.long) : Cond) ∈ lg_w := inG (List.mem_of_getElem? (i := 1593) (by decide +kernel)) (by decide +kernel)
theorem k_1594 : (.methodLink "JoinOrdersModel" 298 ⟨"JoinOrdersModel", "moveMany", "()I"⟩ : Cond) ∈ lg_w := inG (List.mem_of_getElem? (i := 1594) (by decide +kernel)) (by decide +kernel)
theorem k_1596 : (.instanceMethod ⟨"JoinOrdersModel", "moveMany", "()I"⟩ : Cond) ∈ lg_w := inG (List.mem_of_getElem? (i := 1596) (by decide +kernel)) (by decide +kernel)
theorem k_1597 : (.code ⟨"JoinOrdersModel", "moveMany", "()I"⟩ prog_14_method_52_code 2 (Option.some FieldType.int) : Cond) ∈ lg_w := inG (List.mem_of_getElem? (i := 1597) (by decide +kernel)) (by decide +kernel)
theorem k_1598 : (.methodLink "JoinOrdersModel" 285 ⟨"JoinOrdersModel", "isMove", "(I)Z"⟩ : Cond) ∈ lg_w := inG (List.mem_of_getElem? (i := 1598) (by decide +kernel)) (by decide +kernel)
theorem k_1600 : (.instanceMethod ⟨"JoinOrdersModel", "isMove", "(I)Z"⟩ : Cond) ∈ lg_w := inG (List.mem_of_getElem? (i := 1600) (by decide +kernel)) (by decide +kernel)
theorem k_1601 : (.code ⟨"JoinOrdersModel", "isMove", "(I)Z"⟩ prog_14_method_51_code 7 (Option.some FieldType.boolean) : Cond) ∈ lg_w := inG (List.mem_of_getElem? (i := 1601) (by decide +kernel)) (by decide +kernel)
theorem k_1602 : (.methodLink "JoinOrdersModel" 301 ⟨"JoinOrdersModel", "goes", "()V"⟩ : Cond) ∈ lg_w := inG (List.mem_of_getElem? (i := 1602) (by decide +kernel)) (by decide +kernel)
theorem k_1604 : (.instanceMethod ⟨"JoinOrdersModel", "goes", "()V"⟩ : Cond) ∈ lg_w := inG (List.mem_of_getElem? (i := 1604) (by decide +kernel)) (by decide +kernel)
theorem k_1605 : (.code ⟨"JoinOrdersModel", "goes", "()V"⟩ prog_14_method_53_code 2 (Option.none : Option FieldType) : Cond) ∈ lg_w := inG (List.mem_of_getElem? (i := 1605) (by decide +kernel)) (by decide +kernel)
theorem k_1606 : (.methodLink "JoinOrdersModel" 304 ⟨"JoinOrdersModel", "goesBack", "()V"⟩ : Cond) ∈ lg_w := inG (List.mem_of_getElem? (i := 1606) (by decide +kernel)) (by decide +kernel)
theorem k_1608 : (.instanceMethod ⟨"JoinOrdersModel", "goesBack", "()V"⟩ : Cond) ∈ lg_w := inG (List.mem_of_getElem? (i := 1608) (by decide +kernel)) (by decide +kernel)
theorem k_1609 : (.code ⟨"JoinOrdersModel", "goesBack", "()V"⟩ prog_14_method_54_code 2 (Option.none : Option FieldType) : Cond) ∈ lg_w := inG (List.mem_of_getElem? (i := 1609) (by decide +kernel)) (by decide +kernel)
theorem k_1611 : (.instanceMethod ⟨"JoinOrdersModel", "undo", "()I"⟩ : Cond) ∈ lg_w := inG (List.mem_of_getElem? (i := 1611) (by decide +kernel)) (by decide +kernel)
theorem k_1612 : (.selects "JoinOrdersModel" ⟨"JoinOrdersModel", "undo", "()I"⟩ ⟨"JoinOrdersModel", "undo", "()I"⟩ : Cond) ∈ lg_w := inG (List.mem_of_getElem? (i := 1612) (by decide +kernel)) (by decide +kernel)
theorem k_1613 : (.code ⟨"JoinOrdersModel", "undo", "()I"⟩ prog_14_method_70_code 2 (Option.some FieldType.int) : Cond) ∈ lg_w := inG (List.mem_of_getElem? (i := 1613) (by decide +kernel)) (by decide +kernel)
theorem k_1615 : (.instanceMethod ⟨"JoinOrdersModel", "count", "(I)I"⟩ : Cond) ∈ lg_w := inG (List.mem_of_getElem? (i := 1615) (by decide +kernel)) (by decide +kernel)
theorem k_1616 : (.selects "JoinOrdersModel" ⟨"JoinOrdersModel", "count", "(I)I"⟩ ⟨"JoinOrdersModel", "count", "(I)I"⟩ : Cond) ∈ lg_w := inG (List.mem_of_getElem? (i := 1616) (by decide +kernel)) (by decide +kernel)
theorem k_1617 : (.code ⟨"JoinOrdersModel", "count", "(I)I"⟩ prog_14_method_74_code 3 (Option.some FieldType.int) : Cond) ∈ lg_w := inG (List.mem_of_getElem? (i := 1617) (by decide +kernel)) (by decide +kernel)
theorem k_1618 : (.methodLink "JoinOrdersModel" 349 ⟨"JoinOrdersModel", "connectedMany", "(Z)I"⟩ : Cond) ∈ lg_w := inG (List.mem_of_getElem? (i := 1618) (by decide +kernel)) (by decide +kernel)
theorem k_1620 : (.instanceMethod ⟨"JoinOrdersModel", "connectedMany", "(Z)I"⟩ : Cond) ∈ lg_w := inG (List.mem_of_getElem? (i := 1620) (by decide +kernel)) (by decide +kernel)
theorem k_1621 : (.code ⟨"JoinOrdersModel", "connectedMany", "(Z)I"⟩ prog_14_method_71_code 4 (Option.some FieldType.int) : Cond) ∈ lg_w := inG (List.mem_of_getElem? (i := 1621) (by decide +kernel)) (by decide +kernel)
theorem k_1622 : (.methodLink "JoinOrdersModel" 353 ⟨"JoinOrdersModel", "joinMany", "()I"⟩ : Cond) ∈ lg_w := inG (List.mem_of_getElem? (i := 1622) (by decide +kernel)) (by decide +kernel)
theorem k_1624 : (.instanceMethod ⟨"JoinOrdersModel", "joinMany", "()I"⟩ : Cond) ∈ lg_w := inG (List.mem_of_getElem? (i := 1624) (by decide +kernel)) (by decide +kernel)
theorem k_1625 : (.code ⟨"JoinOrdersModel", "joinMany", "()I"⟩ prog_14_method_73_code 3 (Option.some FieldType.int) : Cond) ∈ lg_w := inG (List.mem_of_getElem? (i := 1625) (by decide +kernel)) (by decide +kernel)
theorem k_1626 : (.methodLink "JoinOrdersModel" 356 ⟨"JoinOrdersModel", "partMany", "()I"⟩ : Cond) ∈ lg_w := inG (List.mem_of_getElem? (i := 1626) (by decide +kernel)) (by decide +kernel)
theorem k_1628 : (.instanceMethod ⟨"JoinOrdersModel", "partMany", "()I"⟩ : Cond) ∈ lg_w := inG (List.mem_of_getElem? (i := 1628) (by decide +kernel)) (by decide +kernel)
theorem k_1629 : (.code ⟨"JoinOrdersModel", "partMany", "()I"⟩ prog_14_method_72_code 4 (Option.some FieldType.int) : Cond) ∈ lg_w := inG (List.mem_of_getElem? (i := 1629) (by decide +kernel)) (by decide +kernel)
theorem k_1631 : (.instanceMethod ⟨"JoinOrdersModel", "edge", "(II)I"⟩ : Cond) ∈ lg_w := inG (List.mem_of_getElem? (i := 1631) (by decide +kernel)) (by decide +kernel)
theorem k_1632 : (.selects "JoinOrdersModel" ⟨"JoinOrdersModel", "edge", "(II)I"⟩ ⟨"JoinOrdersModel", "edge", "(II)I"⟩ : Cond) ∈ lg_w := inG (List.mem_of_getElem? (i := 1632) (by decide +kernel)) (by decide +kernel)
theorem k_1633 : (.code ⟨"JoinOrdersModel", "edge", "(II)I"⟩ prog_14_method_75_code 3 (Option.some FieldType.int) : Cond) ∈ lg_w := inG (List.mem_of_getElem? (i := 1633) (by decide +kernel)) (by decide +kernel)
theorem k_1634 : (.constantLong "JoinOrdersModel" 359 (2 : Int64) : Cond) ∈ lg_w := inG (List.mem_of_getElem? (i := 1634) (by decide +kernel)) (by decide +kernel)
theorem k_1636 : (.instanceMethod ⟨"JoinOrdersModel", "size", "(IZ)J"⟩ : Cond) ∈ lg_w := inG (List.mem_of_getElem? (i := 1636) (by decide +kernel)) (by decide +kernel)
theorem k_1637 : (.selects "JoinOrdersModel" ⟨"JoinOrdersModel", "size", "(IZ)J"⟩ ⟨"JoinOrdersModel", "size", "(IZ)J"⟩ : Cond) ∈ lg_w := inG (List.mem_of_getElem? (i := 1637) (by decide +kernel)) (by decide +kernel)
theorem k_1638 : (.code ⟨"JoinOrdersModel", "size", "(IZ)J"⟩ prog_14_method_76_code 3 (Option.some FieldType.long) : Cond) ∈ lg_w := inG (List.mem_of_getElem? (i := 1638) (by decide +kernel)) (by decide +kernel)
theorem k_1639 : (.constantLong "JoinOrdersModel" 361 (-1 : Int64) : Cond) ∈ lg_w := inG (List.mem_of_getElem? (i := 1639) (by decide +kernel)) (by decide +kernel)
theorem k_1641 : (.instanceMethod ⟨"JoinOrdersModel", "connected", "(I)Z"⟩ : Cond) ∈ lg_w := inG (List.mem_of_getElem? (i := 1641) (by decide +kernel)) (by decide +kernel)
theorem k_1642 : (.selects "JoinOrdersModel" ⟨"JoinOrdersModel", "connected", "(I)Z"⟩ ⟨"JoinOrdersModel", "connected", "(I)Z"⟩ : Cond) ∈ lg_w := inG (List.mem_of_getElem? (i := 1642) (by decide +kernel)) (by decide +kernel)
theorem k_1643 : (.code ⟨"JoinOrdersModel", "connected", "(I)Z"⟩ prog_14_method_77_code 2 (Option.some FieldType.boolean) : Cond) ∈ lg_w := inG (List.mem_of_getElem? (i := 1643) (by decide +kernel)) (by decide +kernel)
theorem k_1645 : (.instanceMethod ⟨"JoinOrdersModel", "joined", "(II)Z"⟩ : Cond) ∈ lg_w := inG (List.mem_of_getElem? (i := 1645) (by decide +kernel)) (by decide +kernel)
theorem k_1646 : (.selects "JoinOrdersModel" ⟨"JoinOrdersModel", "joined", "(II)Z"⟩ ⟨"JoinOrdersModel", "joined", "(II)Z"⟩ : Cond) ∈ lg_w := inG (List.mem_of_getElem? (i := 1646) (by decide +kernel)) (by decide +kernel)
theorem k_1647 : (.code ⟨"JoinOrdersModel", "joined", "(II)Z"⟩ prog_14_method_78_code 3 (Option.some FieldType.boolean) : Cond) ∈ lg_w := inG (List.mem_of_getElem? (i := 1647) (by decide +kernel)) (by decide +kernel)
theorem k_1649 : (.instanceMethod ⟨"JoinOrdersModel", "pair", "(IZ)I"⟩ : Cond) ∈ lg_w := inG (List.mem_of_getElem? (i := 1649) (by decide +kernel)) (by decide +kernel)
theorem k_1650 : (.selects "JoinOrdersModel" ⟨"JoinOrdersModel", "pair", "(IZ)I"⟩ ⟨"JoinOrdersModel", "pair", "(IZ)I"⟩ : Cond) ∈ lg_w := inG (List.mem_of_getElem? (i := 1650) (by decide +kernel)) (by decide +kernel)
theorem k_1651 : (.code ⟨"JoinOrdersModel", "pair", "(IZ)I"⟩ prog_14_method_79_code 6 (Option.some FieldType.int) : Cond) ∈ lg_w := inG (List.mem_of_getElem? (i := 1651) (by decide +kernel)) (by decide +kernel)
theorem k_1653 : (.instanceMethod ⟨"JoinOrdersModel", "best", "(IZI)J"⟩ : Cond) ∈ lg_w := inG (List.mem_of_getElem? (i := 1653) (by decide +kernel)) (by decide +kernel)
theorem k_1654 : (.selects "JoinOrdersModel" ⟨"JoinOrdersModel", "best", "(IZI)J"⟩ ⟨"JoinOrdersModel", "best", "(IZI)J"⟩ : Cond) ∈ lg_w := inG (List.mem_of_getElem? (i := 1654) (by decide +kernel)) (by decide +kernel)
theorem k_1655 : (.code ⟨"JoinOrdersModel", "best", "(IZI)J"⟩ prog_14_method_80_code 5 (Option.some FieldType.long) : Cond) ∈ lg_w := inG (List.mem_of_getElem? (i := 1655) (by decide +kernel)) (by decide +kernel)
theorem k_1657 : (.instanceMethod ⟨"JoinOrdersModel", "greedy", "(I)J"⟩ : Cond) ∈ lg_w := inG (List.mem_of_getElem? (i := 1657) (by decide +kernel)) (by decide +kernel)
theorem k_1658 : (.selects "JoinOrdersModel" ⟨"JoinOrdersModel", "greedy", "(I)J"⟩ ⟨"JoinOrdersModel", "greedy", "(I)J"⟩ : Cond) ∈ lg_w := inG (List.mem_of_getElem? (i := 1658) (by decide +kernel)) (by decide +kernel)
theorem k_1659 : (.code ⟨"JoinOrdersModel", "greedy", "(I)J"⟩ prog_14_method_81_code 2 (Option.some FieldType.long) : Cond) ∈ lg_w := inG (List.mem_of_getElem? (i := 1659) (by decide +kernel)) (by decide +kernel)
theorem k_1661 : (.instanceMethod ⟨"JoinOrdersModel", "node", "(II)J"⟩ : Cond) ∈ lg_w := inG (List.mem_of_getElem? (i := 1661) (by decide +kernel)) (by decide +kernel)
theorem k_1662 : (.selects "JoinOrdersModel" ⟨"JoinOrdersModel", "node", "(II)J"⟩ ⟨"JoinOrdersModel", "node", "(II)J"⟩ : Cond) ∈ lg_w := inG (List.mem_of_getElem? (i := 1662) (by decide +kernel)) (by decide +kernel)
theorem k_1663 : (.code ⟨"JoinOrdersModel", "node", "(II)J"⟩ prog_14_method_82_code 4 (Option.some FieldType.long) : Cond) ∈ lg_w := inG (List.mem_of_getElem? (i := 1663) (by decide +kernel)) (by decide +kernel)
theorem k_1664 : (.constantLong "JoinOrdersModel" 363 (4 : Int64) : Cond) ∈ lg_w := inG (List.mem_of_getElem? (i := 1664) (by decide +kernel)) (by decide +kernel)
theorem k_1666 : (.instanceMethod ⟨"JoinOrdersModel", "cost", "()J"⟩ : Cond) ∈ lg_w := inG (List.mem_of_getElem? (i := 1666) (by decide +kernel)) (by decide +kernel)
theorem k_1667 : (.selects "JoinOrdersModel" ⟨"JoinOrdersModel", "cost", "()J"⟩ ⟨"JoinOrdersModel", "cost", "()J"⟩ : Cond) ∈ lg_w := inG (List.mem_of_getElem? (i := 1667) (by decide +kernel)) (by decide +kernel)
theorem k_1668 : (.code ⟨"JoinOrdersModel", "cost", "()J"⟩ prog_14_method_83_code 1 (Option.some FieldType.long) : Cond) ∈ lg_w := inG (List.mem_of_getElem? (i := 1668) (by decide +kernel)) (by decide +kernel)
theorem k_1670 : (.instanceMethod ⟨"JoinOrdersModel", "told", "(I)I"⟩ : Cond) ∈ lg_w := inG (List.mem_of_getElem? (i := 1670) (by decide +kernel)) (by decide +kernel)
theorem k_1671 : (.selects "JoinOrdersModel" ⟨"JoinOrdersModel", "told", "(I)I"⟩ ⟨"JoinOrdersModel", "told", "(I)I"⟩ : Cond) ∈ lg_w := inG (List.mem_of_getElem? (i := 1671) (by decide +kernel)) (by decide +kernel)
theorem k_1672 : (.code ⟨"JoinOrdersModel", "told", "(I)I"⟩ prog_14_method_87_code 2 (Option.some FieldType.int) : Cond) ∈ lg_w := inG (List.mem_of_getElem? (i := 1672) (by decide +kernel)) (by decide +kernel)
theorem k_1673 : (.methodLink "JoinOrdersModel" 374 ⟨"JoinOrdersModel", "tells", "(I)V"⟩ : Cond) ∈ lg_w := inG (List.mem_of_getElem? (i := 1673) (by decide +kernel)) (by decide +kernel)
theorem k_1675 : (.instanceMethod ⟨"JoinOrdersModel", "tells", "(I)V"⟩ : Cond) ∈ lg_w := inG (List.mem_of_getElem? (i := 1675) (by decide +kernel)) (by decide +kernel)
theorem k_1676 : (.code ⟨"JoinOrdersModel", "tells", "(I)V"⟩ prog_14_method_86_code 3 (Option.none : Option FieldType) : Cond) ∈ lg_w := inG (List.mem_of_getElem? (i := 1676) (by decide +kernel)) (by decide +kernel)
theorem k_1677 : (.methodLink "JoinOrdersModel" 368 ⟨"JoinOrdersModel", "says", "(I)V"⟩ : Cond) ∈ lg_w := inG (List.mem_of_getElem? (i := 1677) (by decide +kernel)) (by decide +kernel)
theorem k_1679 : (.instanceMethod ⟨"JoinOrdersModel", "says", "(I)V"⟩ : Cond) ∈ lg_w := inG (List.mem_of_getElem? (i := 1679) (by decide +kernel)) (by decide +kernel)
theorem k_1680 : (.code ⟨"JoinOrdersModel", "says", "(I)V"⟩ prog_14_method_84_code 2 (Option.none : Option FieldType) : Cond) ∈ lg_w := inG (List.mem_of_getElem? (i := 1680) (by decide +kernel)) (by decide +kernel)
theorem k_1681 : (.methodLink "JoinOrdersModel" 371 ⟨"JoinOrdersModel", "numberOf", "(I)I"⟩ : Cond) ∈ lg_w := inG (List.mem_of_getElem? (i := 1681) (by decide +kernel)) (by decide +kernel)
theorem k_1682 : (.static ⟨"JoinOrdersModel", "numberOf", "(I)I"⟩ : Cond) ∈ lg_w := inG (List.mem_of_getElem? (i := 1682) (by decide +kernel)) (by decide +kernel)
theorem k_1683 : (.code ⟨"JoinOrdersModel", "numberOf", "(I)I"⟩ prog_14_method_85_code 2 (Option.some FieldType.int) : Cond) ∈ lg_w := inG (List.mem_of_getElem? (i := 1683) (by decide +kernel)) (by decide +kernel)
theorem k_1685 : (.instanceMethod ⟨"JoinOrdersModel", "move", "(I)J"⟩ : Cond) ∈ lg_w := inG (List.mem_of_getElem? (i := 1685) (by decide +kernel)) (by decide +kernel)
theorem k_1686 : (.selects "JoinOrdersModel" ⟨"JoinOrdersModel", "move", "(I)J"⟩ ⟨"JoinOrdersModel", "move", "(I)J"⟩ : Cond) ∈ lg_w := inG (List.mem_of_getElem? (i := 1686) (by decide +kernel)) (by decide +kernel)
theorem k_1687 : (.code ⟨"JoinOrdersModel", "move", "(I)J"⟩ prog_14_method_88_code 3 (Option.some FieldType.long) : Cond) ∈ lg_w := inG (List.mem_of_getElem? (i := 1687) (by decide +kernel)) (by decide +kernel)
theorem k_1689 : (.instanceMethod ⟨"JoinOrdersModel", "steps", "()I"⟩ : Cond) ∈ lg_w := inG (List.mem_of_getElem? (i := 1689) (by decide +kernel)) (by decide +kernel)
theorem k_1690 : (.selects "JoinOrdersModel" ⟨"JoinOrdersModel", "steps", "()I"⟩ ⟨"JoinOrdersModel", "steps", "()I"⟩ : Cond) ∈ lg_w := inG (List.mem_of_getElem? (i := 1690) (by decide +kernel)) (by decide +kernel)
theorem k_1691 : (.code ⟨"JoinOrdersModel", "steps", "()I"⟩ prog_14_method_89_code 5 (Option.some FieldType.int) : Cond) ∈ lg_w := inG (List.mem_of_getElem? (i := 1691) (by decide +kernel)) (by decide +kernel)
theorem k_1693 : (.instanceMethod ⟨"JoinOrdersModel", "would", "(ZII)J"⟩ : Cond) ∈ lg_w := inG (List.mem_of_getElem? (i := 1693) (by decide +kernel)) (by decide +kernel)
theorem k_1694 : (.selects "JoinOrdersModel" ⟨"JoinOrdersModel", "would", "(ZII)J"⟩ ⟨"JoinOrdersModel", "would", "(ZII)J"⟩ : Cond) ∈ lg_w := inG (List.mem_of_getElem? (i := 1694) (by decide +kernel)) (by decide +kernel)
theorem k_1695 : (.code ⟨"JoinOrdersModel", "would", "(ZII)J"⟩ prog_14_method_92_code 8 (Option.some FieldType.long) : Cond) ∈ lg_w := inG (List.mem_of_getElem? (i := 1695) (by decide +kernel)) (by decide +kernel)
theorem k_1696 : (.methodLink "JoinOrdersModel" 377 ⟨"JoinOrdersModel", "bestOfAll", "()J"⟩ : Cond) ∈ lg_w := inG (List.mem_of_getElem? (i := 1696) (by decide +kernel)) (by decide +kernel)
theorem k_1698 : (.instanceMethod ⟨"JoinOrdersModel", "bestOfAll", "()J"⟩ : Cond) ∈ lg_w := inG (List.mem_of_getElem? (i := 1698) (by decide +kernel)) (by decide +kernel)
theorem k_1699 : (.code ⟨"JoinOrdersModel", "bestOfAll", "()J"⟩ prog_14_method_91_code 1 (Option.some FieldType.long) : Cond) ∈ lg_w := inG (List.mem_of_getElem? (i := 1699) (by decide +kernel)) (by decide +kernel)
theorem k_1701 : (.instanceMethod ⟨"JoinOrdersModel", "needed", "(Z)J"⟩ : Cond) ∈ lg_w := inG (List.mem_of_getElem? (i := 1701) (by decide +kernel)) (by decide +kernel)
theorem k_1702 : (.selects "JoinOrdersModel" ⟨"JoinOrdersModel", "needed", "(Z)J"⟩ ⟨"JoinOrdersModel", "needed", "(Z)J"⟩ : Cond) ∈ lg_w := inG (List.mem_of_getElem? (i := 1702) (by decide +kernel)) (by decide +kernel)
theorem k_1703 : (.code ⟨"JoinOrdersModel", "needed", "(Z)J"⟩ prog_14_method_93_code 10 (Option.some FieldType.long) : Cond) ∈ lg_w := inG (List.mem_of_getElem? (i := 1703) (by decide +kernel)) (by decide +kernel)
theorem k_1705 : (.instanceMethod ⟨"JoinOrdersModel", "image", "(I)Z"⟩ : Cond) ∈ lg_w := inG (List.mem_of_getElem? (i := 1705) (by decide +kernel)) (by decide +kernel)
theorem k_1706 : (.selects "JoinOrdersModel" ⟨"JoinOrdersModel", "image", "(I)Z"⟩ ⟨"JoinOrdersModel", "image", "(I)Z"⟩ : Cond) ∈ lg_w := inG (List.mem_of_getElem? (i := 1706) (by decide +kernel)) (by decide +kernel)
theorem k_1707 : (.code ⟨"JoinOrdersModel", "image", "(I)Z"⟩ prog_14_method_95_code 2 (Option.some FieldType.boolean) : Cond) ∈ lg_w := inG (List.mem_of_getElem? (i := 1707) (by decide +kernel)) (by decide +kernel)
theorem k_1708 : (.methodLink "JoinOrdersModel" 384 ⟨"JoinOrdersModel", "copiesText", "(II)V"⟩ : Cond) ∈ lg_w := inG (List.mem_of_getElem? (i := 1708) (by decide +kernel)) (by decide +kernel)
theorem k_1710 : (.instanceMethod ⟨"JoinOrdersModel", "copiesText", "(II)V"⟩ : Cond) ∈ lg_w := inG (List.mem_of_getElem? (i := 1710) (by decide +kernel)) (by decide +kernel)
theorem k_1711 : (.code ⟨"JoinOrdersModel", "copiesText", "(II)V"⟩ prog_14_method_94_code 4 (Option.none : Option FieldType) : Cond) ∈ lg_w := inG (List.mem_of_getElem? (i := 1711) (by decide +kernel)) (by decide +kernel)
theorem k_1712 : (.methodLink "JoinOrdersModel" 381 ⟨"JoinOrdersModel", "copies", "(II)V"⟩ : Cond) ∈ lg_w := inG (List.mem_of_getElem? (i := 1712) (by decide +kernel)) (by decide +kernel)
theorem k_1714 : (.instanceMethod ⟨"JoinOrdersModel", "copies", "(II)V"⟩ : Cond) ∈ lg_w := inG (List.mem_of_getElem? (i := 1714) (by decide +kernel)) (by decide +kernel)
theorem k_1715 : (.code ⟨"JoinOrdersModel", "copies", "(II)V"⟩ prog_14_method_90_code 4 (Option.none : Option FieldType) : Cond) ∈ lg_w := inG (List.mem_of_getElem? (i := 1715) (by decide +kernel)) (by decide +kernel)
theorem k_1717 : (.instanceMethod ⟨"JoinOrdersModel", "again", "(I)Z"⟩ : Cond) ∈ lg_w := inG (List.mem_of_getElem? (i := 1717) (by decide +kernel)) (by decide +kernel)
theorem k_1718 : (.selects "JoinOrdersModel" ⟨"JoinOrdersModel", "again", "(I)Z"⟩ ⟨"JoinOrdersModel", "again", "(I)Z"⟩ : Cond) ∈ lg_w := inG (List.mem_of_getElem? (i := 1718) (by decide +kernel)) (by decide +kernel)
theorem k_1719 : (.code ⟨"JoinOrdersModel", "again", "(I)Z"⟩ prog_14_method_96_code 2 (Option.some FieldType.boolean) : Cond) ∈ lg_w := inG (List.mem_of_getElem? (i := 1719) (by decide +kernel)) (by decide +kernel)
def n_B : String := "JoinOrders$Best"
def T_B : u_T := fun k => match k with
  | 0 => ("JoinOrders$Best", "known", "Z", false)
  | 1 => ("JoinOrders$Best", "costs", "[J", true)
  | 2 => ("JoinOrders$Best", "crosses", "[I", true)
  | _ => ("JoinOrders$Best", "part", "[I", true)
def ty_B : Nat → FieldType := fun k => match k with
  | 0 => .boolean
  | 1 => .array .long
  | 2 => .array .int
  | _ => .array .int
theorem nm_B : ∀ a, a < 4 → ∀ b, b < 4 → a ≠ b → (T_B a).2.1 ≠ (T_B b).2.1 := by decide +kernel
theorem ty_B_ok : ∀ k, k < 4 → parseFieldDescriptor (T_B k).2.2.1 = some (ty_B k) := by decide +kernel
theorem iw_B : ∀ w ∈ u_ws n_B T_B 4, w ∈ lg_w := List.forall_mem_cons.mpr ⟨k_406, List.forall_mem_cons.mpr ⟨k_408, List.forall_mem_cons.mpr ⟨k_410, List.forall_mem_cons.mpr ⟨k_412, fun _ h => absurd h List.not_mem_nil⟩⟩⟩⟩
abbrev O_B (k0 : Int32) (k1 : Nat) (k2 : Nat) (k3 : Nat) : va_E := .inr (0, [.int k0, .ref k1, .ref k2, .ref k3])
def n_G : String := "JoinOrders$Graph"
def T_G : u_T := fun k => match k with
  | 0 => ("JoinOrders$Graph", "relations", "I", false)
  | 1 => ("JoinOrders$Graph", "edges", "I", false)
  | 2 => ("JoinOrders$Graph", "limit", "I", false)
  | 3 => ("JoinOrders$Graph", "rows", "[I", true)
  | 4 => ("JoinOrders$Graph", "left", "[I", true)
  | 5 => ("JoinOrders$Graph", "right", "[I", true)
  | _ => ("JoinOrders$Graph", "by", "[I", true)
def ty_G : Nat → FieldType := fun k => match k with
  | 0 => .int
  | 1 => .int
  | 2 => .int
  | 3 => .array .int
  | 4 => .array .int
  | 5 => .array .int
  | _ => .array .int
theorem nm_G : ∀ a, a < 7 → ∀ b, b < 7 → a ≠ b → (T_G a).2.1 ≠ (T_G b).2.1 := by decide +kernel
theorem ty_G_ok : ∀ k, k < 7 → parseFieldDescriptor (T_G k).2.2.1 = some (ty_G k) := by decide +kernel
theorem iw_G : ∀ w ∈ u_ws n_G T_G 7, w ∈ lg_w := List.forall_mem_cons.mpr ⟨k_162, List.forall_mem_cons.mpr ⟨k_164, List.forall_mem_cons.mpr ⟨k_166, List.forall_mem_cons.mpr ⟨k_168, List.forall_mem_cons.mpr ⟨k_170, List.forall_mem_cons.mpr ⟨k_172, List.forall_mem_cons.mpr ⟨k_174, fun _ h => absurd h List.not_mem_nil⟩⟩⟩⟩⟩⟩⟩
abbrev O_G (k0 : Int32) (k1 : Int32) (k2 : Int32) (k3 : Nat) (k4 : Nat) (k5 : Nat) (k6 : Nat) : va_E := .inr (1, [.int k0, .int k1, .int k2, .ref k3, .ref k4, .ref k5, .ref k6])
def n_V : String := "JoinOrders$Mover"
def T_V : u_T := fun k => match k with
  | 0 => ("JoinOrders$Mover", "made", "LJoinOrders$Plan;", true)
  | _ => ("JoinOrders$Mover", "split", "[I", true)
def ty_V : Nat → FieldType := fun k => match k with
  | 0 => .object "JoinOrders$Plan"
  | _ => .array .int
theorem nm_V : ∀ a, a < 2 → ∀ b, b < 2 → a ≠ b → (T_V a).2.1 ≠ (T_V b).2.1 := by decide +kernel
theorem ty_V_ok : ∀ k, k < 2 → parseFieldDescriptor (T_V k).2.2.1 = some (ty_V k) := by decide +kernel
theorem iw_V : ∀ w ∈ u_ws n_V T_V 2, w ∈ lg_w := List.forall_mem_cons.mpr ⟨k_449, List.forall_mem_cons.mpr ⟨k_451, fun _ h => absurd h List.not_mem_nil⟩⟩
abbrev O_V (k0 : Nat) (k1 : Nat) : va_E := .inr (2, [.ref k0, .ref k1])
def n_A : String := "JoinOrders$Parts"
def T_A : u_T := fun k => match k with
  | 0 => ("JoinOrders$Parts", "split", "[I", true)
  | 1 => ("JoinOrders$Parts", "part", "[I", true)
  | 2 => ("JoinOrders$Parts", "many", "I", false)
  | 3 => ("JoinOrders$Parts", "pickedFirst", "I", false)
  | _ => ("JoinOrders$Parts", "pickedSecond", "I", false)
def ty_A : Nat → FieldType := fun k => match k with
  | 0 => .array .int
  | 1 => .array .int
  | 2 => .int
  | 3 => .int
  | _ => .int
theorem nm_A : ∀ a, a < 5 → ∀ b, b < 5 → a ≠ b → (T_A a).2.1 ≠ (T_A b).2.1 := by decide +kernel
theorem ty_A_ok : ∀ k, k < 5 → parseFieldDescriptor (T_A k).2.2.1 = some (ty_A k) := by decide +kernel
theorem iw_A : ∀ w ∈ u_ws n_A T_A 5, w ∈ lg_w := List.forall_mem_cons.mpr ⟨k_427, List.forall_mem_cons.mpr ⟨k_429, List.forall_mem_cons.mpr ⟨k_431, List.forall_mem_cons.mpr ⟨k_433, List.forall_mem_cons.mpr ⟨k_435, fun _ h => absurd h List.not_mem_nil⟩⟩⟩⟩⟩
abbrev O_A (k0 : Nat) (k1 : Nat) (k2 : Int32) (k3 : Int32) (k4 : Int32) : va_E := .inr (3, [.ref k0, .ref k1, .int k2, .int k3, .int k4])
def n_P : String := "JoinOrders$Plan"
def T_P : u_T := fun k => match k with
  | 0 => ("JoinOrders$Plan", "root", "I", false)
  | 1 => ("JoinOrders$Plan", "joins", "I", false)
  | 2 => ("JoinOrders$Plan", "set", "[I", true)
  | _ => ("JoinOrders$Plan", "part", "[I", true)
def ty_P : Nat → FieldType := fun k => match k with
  | 0 => .int
  | 1 => .int
  | 2 => .array .int
  | _ => .array .int
theorem nm_P : ∀ a, a < 4 → ∀ b, b < 4 → a ≠ b → (T_P a).2.1 ≠ (T_P b).2.1 := by decide +kernel
theorem ty_P_ok : ∀ k, k < 4 → parseFieldDescriptor (T_P k).2.2.1 = some (ty_P k) := by decide +kernel
theorem iw_P : ∀ w ∈ u_ws n_P T_P 4, w ∈ lg_w := List.forall_mem_cons.mpr ⟨k_199, List.forall_mem_cons.mpr ⟨k_201, List.forall_mem_cons.mpr ⟨k_203, List.forall_mem_cons.mpr ⟨k_205, fun _ h => absurd h List.not_mem_nil⟩⟩⟩⟩
abbrev O_P (k0 : Int32) (k1 : Int32) (k2 : Nat) (k3 : Nat) : va_E := .inr (4, [.int k0, .int k1, .ref k2, .ref k3])
def n_L : String := "JoinOrders$PlanReading"
def T_L : u_T := fun k => match k with
  | 0 => ("JoinOrders$Reading", "fault", "I", false)
  | 1 => ("JoinOrders$Reading", "place", "I", false)
  | 2 => ("JoinOrders$PlanReading", "relations", "I", false)
  | 3 => ("JoinOrders$PlanReading", "split", "[I", true)
  | 4 => ("JoinOrders$PlanReading", "within", "[I", true)
  | 5 => ("JoinOrders$PlanReading", "depth", "I", false)
  | 6 => ("JoinOrders$PlanReading", "waiting", "[I", true)
  | 7 => ("JoinOrders$PlanReading", "waitingMany", "I", false)
  | _ => ("JoinOrders$PlanReading", "taken", "I", false)
def ty_L : Nat → FieldType := fun k => match k with
  | 0 => .int
  | 1 => .int
  | 2 => .int
  | 3 => .array .int
  | 4 => .array .int
  | 5 => .int
  | 6 => .array .int
  | 7 => .int
  | _ => .int
theorem nm_L : ∀ a, a < 9 → ∀ b, b < 9 → a ≠ b → (T_L a).2.1 ≠ (T_L b).2.1 := by decide +kernel
theorem ty_L_ok : ∀ k, k < 9 → parseFieldDescriptor (T_L k).2.2.1 = some (ty_L k) := by decide +kernel
theorem iw_L : ∀ w ∈ u_ws n_L T_L 9, w ∈ lg_w := List.forall_mem_cons.mpr ⟨k_333, List.forall_mem_cons.mpr ⟨k_334, List.forall_mem_cons.mpr ⟨k_319, List.forall_mem_cons.mpr ⟨k_321, List.forall_mem_cons.mpr ⟨k_323, List.forall_mem_cons.mpr ⟨k_325, List.forall_mem_cons.mpr ⟨k_327, List.forall_mem_cons.mpr ⟨k_329, List.forall_mem_cons.mpr ⟨k_331, fun _ h => absurd h List.not_mem_nil⟩⟩⟩⟩⟩⟩⟩⟩⟩
abbrev O_L (k0 : Int32) (k1 : Int32) (k2 : Int32) (k3 : Nat) (k4 : Nat) (k5 : Int32) (k6 : Nat) (k7 : Int32) (k8 : Int32) : va_E := .inr (5, [.int k0, .int k1, .int k2, .ref k3, .ref k4, .int k5, .ref k6, .int k7, .int k8])
def n_Q : String := "JoinOrders$QueryReading"
def T_Q : u_T := fun k => match k with
  | 0 => ("JoinOrders$Reading", "fault", "I", false)
  | 1 => ("JoinOrders$Reading", "place", "I", false)
  | 2 => ("JoinOrders$QueryReading", "graph", "LJoinOrders$Graph;", true)
  | 3 => ("JoinOrders$QueryReading", "awaited", "I", false)
  | 4 => ("JoinOrders$QueryReading", "left", "I", false)
  | _ => ("JoinOrders$QueryReading", "right", "I", false)
def ty_Q : Nat → FieldType := fun k => match k with
  | 0 => .int
  | 1 => .int
  | 2 => .object "JoinOrders$Graph"
  | 3 => .int
  | 4 => .int
  | _ => .int
theorem nm_Q : ∀ a, a < 6 → ∀ b, b < 6 → a ≠ b → (T_Q a).2.1 ≠ (T_Q b).2.1 := by decide +kernel
theorem ty_Q_ok : ∀ k, k < 6 → parseFieldDescriptor (T_Q k).2.2.1 = some (ty_Q k) := by decide +kernel
theorem iw_Q : ∀ w ∈ u_ws n_Q T_Q 6, w ∈ lg_w := List.forall_mem_cons.mpr ⟨k_299, List.forall_mem_cons.mpr ⟨k_301, List.forall_mem_cons.mpr ⟨k_291, List.forall_mem_cons.mpr ⟨k_293, List.forall_mem_cons.mpr ⟨k_295, List.forall_mem_cons.mpr ⟨k_297, fun _ h => absurd h List.not_mem_nil⟩⟩⟩⟩⟩⟩
abbrev O_Q (k0 : Int32) (k1 : Int32) (k2 : Nat) (k3 : Int32) (k4 : Int32) (k5 : Int32) : va_E := .inr (6, [.int k0, .int k1, .ref k2, .int k3, .int k4, .int k5])
def n_E : String := "JoinOrders$Reading"
def T_E : u_T := fun k => match k with
  | _ => ("", "", "", false)
def ty_E : Nat → FieldType := fun k => match k with
  | _ => .int
def n_S : String := "JoinOrders$Sets"
def T_S : u_T := fun k => match k with
  | 0 => ("JoinOrders$Sets", "known", "Z", false)
  | 1 => ("JoinOrders$Sets", "paired", "Z", false)
  | 2 => ("JoinOrders$Sets", "cappedInAll", "I", false)
  | 3 => ("JoinOrders$Sets", "connectedInAll", "I", false)
  | 4 => ("JoinOrders$Sets", "pairsInAll", "I", false)
  | 5 => ("JoinOrders$Sets", "sizes", "[J", true)
  | 6 => ("JoinOrders$Sets", "capped", "[Z", true)
  | 7 => ("JoinOrders$Sets", "connected", "[Z", true)
  | 8 => ("JoinOrders$Sets", "end", "I", false)
  | 9 => ("JoinOrders$Sets", "leftIn", "[I", true)
  | 10 => ("JoinOrders$Sets", "rightIn", "[I", true)
  | _ => ("JoinOrders$Sets", "pairs", "[I", true)
def ty_S : Nat → FieldType := fun k => match k with
  | 0 => .boolean
  | 1 => .boolean
  | 2 => .int
  | 3 => .int
  | 4 => .int
  | 5 => .array .long
  | 6 => .array .boolean
  | 7 => .array .boolean
  | 8 => .int
  | 9 => .array .int
  | 10 => .array .int
  | _ => .array .int
theorem nm_S : ∀ a, a < 12 → ∀ b, b < 12 → a ≠ b → (T_S a).2.1 ≠ (T_S b).2.1 := by decide +kernel
theorem ty_S_ok : ∀ k, k < 12 → parseFieldDescriptor (T_S k).2.2.1 = some (ty_S k) := by decide +kernel
theorem iw_S : ∀ w ∈ u_ws n_S T_S 12, w ∈ lg_w := List.forall_mem_cons.mpr ⟨k_365, List.forall_mem_cons.mpr ⟨k_367, List.forall_mem_cons.mpr ⟨k_369, List.forall_mem_cons.mpr ⟨k_371, List.forall_mem_cons.mpr ⟨k_373, List.forall_mem_cons.mpr ⟨k_375, List.forall_mem_cons.mpr ⟨k_377, List.forall_mem_cons.mpr ⟨k_379, List.forall_mem_cons.mpr ⟨k_381, List.forall_mem_cons.mpr ⟨k_383, List.forall_mem_cons.mpr ⟨k_385, List.forall_mem_cons.mpr ⟨k_387, fun _ h => absurd h List.not_mem_nil⟩⟩⟩⟩⟩⟩⟩⟩⟩⟩⟩⟩
abbrev O_S (k0 : Int32) (k1 : Int32) (k2 : Int32) (k3 : Int32) (k4 : Int32) (k5 : Nat) (k6 : Nat) (k7 : Nat) (k8 : Int32) (k9 : Nat) (k10 : Nat) (k11 : Nat) : va_E := .inr (8, [.int k0, .int k1, .int k2, .int k3, .int k4, .ref k5, .ref k6, .ref k7, .int k8, .ref k9, .ref k10, .ref k11])
def n_U : String := "JoinOrders$State"
def T_U : u_T := fun k => match k with
  | 0 => ("JoinOrders$State", "graph", "LJoinOrders$Graph;", true)
  | 1 => ("JoinOrders$State", "plan", "LJoinOrders$Plan;", true)
  | 2 => ("JoinOrders$State", "text", "LJoinOrders$Text;", true)
  | 3 => ("JoinOrders$State", "fault", "I", false)
  | 4 => ("JoinOrders$State", "place", "I", false)
  | _ => ("JoinOrders$State", "kept", "Z", false)
def ty_U : Nat → FieldType := fun k => match k with
  | 0 => .object "JoinOrders$Graph"
  | 1 => .object "JoinOrders$Plan"
  | 2 => .object "JoinOrders$Text"
  | 3 => .int
  | 4 => .int
  | _ => .boolean
theorem nm_U : ∀ a, a < 6 → ∀ b, b < 6 → a ≠ b → (T_U a).2.1 ≠ (T_U b).2.1 := by decide +kernel
theorem ty_U_ok : ∀ k, k < 6 → parseFieldDescriptor (T_U k).2.2.1 = some (ty_U k) := by decide +kernel
theorem iw_U : ∀ w ∈ u_ws n_U T_U 6, w ∈ lg_w := List.forall_mem_cons.mpr ⟨k_251, List.forall_mem_cons.mpr ⟨k_253, List.forall_mem_cons.mpr ⟨k_255, List.forall_mem_cons.mpr ⟨k_257, List.forall_mem_cons.mpr ⟨k_259, List.forall_mem_cons.mpr ⟨k_261, fun _ h => absurd h List.not_mem_nil⟩⟩⟩⟩⟩⟩
abbrev O_U (k0 : Nat) (k1 : Nat) (k2 : Nat) (k3 : Int32) (k4 : Int32) (k5 : Int32) : va_E := .inr (9, [.ref k0, .ref k1, .ref k2, .int k3, .int k4, .int k5])
def n_T : String := "JoinOrders$Text"
def T_T : u_T := fun k => match k with
  | 0 => ("JoinOrders$Text", "length", "I", false)
  | 1 => ("JoinOrders$Text", "bytes", "[I", true)
  | 2 => ("JoinOrders$Text", "kind", "I", false)
  | 3 => ("JoinOrders$Text", "start", "I", false)
  | 4 => ("JoinOrders$Text", "number", "I", false)
  | _ => ("JoinOrders$Text", "at", "I", false)
def ty_T : Nat → FieldType := fun k => match k with
  | 0 => .int
  | 1 => .array .int
  | 2 => .int
  | 3 => .int
  | 4 => .int
  | _ => .int
theorem nm_T : ∀ a, a < 6 → ∀ b, b < 6 → a ≠ b → (T_T a).2.1 ≠ (T_T b).2.1 := by decide +kernel
theorem ty_T_ok : ∀ k, k < 6 → parseFieldDescriptor (T_T k).2.2.1 = some (ty_T k) := by decide +kernel
theorem iw_T : ∀ w ∈ u_ws n_T T_T 6, w ∈ lg_w := List.forall_mem_cons.mpr ⟨k_227, List.forall_mem_cons.mpr ⟨k_229, List.forall_mem_cons.mpr ⟨k_231, List.forall_mem_cons.mpr ⟨k_233, List.forall_mem_cons.mpr ⟨k_235, List.forall_mem_cons.mpr ⟨k_237, fun _ h => absurd h List.not_mem_nil⟩⟩⟩⟩⟩⟩
abbrev O_T (k0 : Int32) (k1 : Nat) (k2 : Int32) (k3 : Int32) (k4 : Int32) (k5 : Int32) : va_E := .inr (10, [.int k0, .ref k1, .int k2, .int k3, .int k4, .int k5])
def n_J : String := "JoinOrders"
def T_J : u_T := fun k => match k with
  | 0 => ("JoinOrders", "now", "LJoinOrders$State;", true)
  | 1 => ("JoinOrders", "images", "[LJoinOrders$State;", true)
  | 2 => ("JoinOrders", "pastGraphs", "[LJoinOrders$Graph;", true)
  | 3 => ("JoinOrders", "pastPlans", "[LJoinOrders$Plan;", true)
  | 4 => ("JoinOrders", "acts", "I", false)
  | 5 => ("JoinOrders", "nextAct", "I", false)
  | 6 => ("JoinOrders", "queryReading", "LJoinOrders$QueryReading;", true)
  | 7 => ("JoinOrders", "planReading", "LJoinOrders$PlanReading;", true)
  | 8 => ("JoinOrders", "sets", "LJoinOrders$Sets;", true)
  | 9 => ("JoinOrders", "bushy", "LJoinOrders$Best;", true)
  | 10 => ("JoinOrders", "line", "LJoinOrders$Best;", true)
  | 11 => ("JoinOrders", "parts", "LJoinOrders$Parts;", true)
  | 12 => ("JoinOrders", "mover", "LJoinOrders$Mover;", true)
  | 13 => ("JoinOrders", "walk", "LJoinOrders$Plan;", true)
  | 14 => ("JoinOrders", "words", "[I", true)
  | 15 => ("JoinOrders", "trial", "LJoinOrders$Graph;", true)
  | 16 => ("JoinOrders", "trialSets", "LJoinOrders$Sets;", true)
  | _ => ("JoinOrders", "trialBest", "LJoinOrders$Best;", true)
def ty_J : Nat → FieldType := fun k => match k with
  | 0 => .object "JoinOrders$State"
  | 1 => .array (.object "JoinOrders$State")
  | 2 => .array (.object "JoinOrders$Graph")
  | 3 => .array (.object "JoinOrders$Plan")
  | 4 => .int
  | 5 => .int
  | 6 => .object "JoinOrders$QueryReading"
  | 7 => .object "JoinOrders$PlanReading"
  | 8 => .object "JoinOrders$Sets"
  | 9 => .object "JoinOrders$Best"
  | 10 => .object "JoinOrders$Best"
  | 11 => .object "JoinOrders$Parts"
  | 12 => .object "JoinOrders$Mover"
  | 13 => .object "JoinOrders$Plan"
  | 14 => .array .int
  | 15 => .object "JoinOrders$Graph"
  | 16 => .object "JoinOrders$Sets"
  | _ => .object "JoinOrders$Best"
theorem nm_J : ∀ a, a < 18 → ∀ b, b < 18 → a ≠ b → (T_J a).2.1 ≠ (T_J b).2.1 := by decide +kernel
theorem ty_J_ok : ∀ k, k < 18 → parseFieldDescriptor (T_J k).2.2.1 = some (ty_J k) := by decide +kernel
theorem iw_J : ∀ w ∈ u_ws n_J T_J 18, w ∈ lg_w := List.forall_mem_cons.mpr ⟨k_472, List.forall_mem_cons.mpr ⟨k_474, List.forall_mem_cons.mpr ⟨k_476, List.forall_mem_cons.mpr ⟨k_478, List.forall_mem_cons.mpr ⟨k_480, List.forall_mem_cons.mpr ⟨k_482, List.forall_mem_cons.mpr ⟨k_484, List.forall_mem_cons.mpr ⟨k_486, List.forall_mem_cons.mpr ⟨k_488, List.forall_mem_cons.mpr ⟨k_490, List.forall_mem_cons.mpr ⟨k_492, List.forall_mem_cons.mpr ⟨k_494, List.forall_mem_cons.mpr ⟨k_496, List.forall_mem_cons.mpr ⟨k_498, List.forall_mem_cons.mpr ⟨k_500, List.forall_mem_cons.mpr ⟨k_502, List.forall_mem_cons.mpr ⟨k_504, List.forall_mem_cons.mpr ⟨k_506, fun _ h => absurd h List.not_mem_nil⟩⟩⟩⟩⟩⟩⟩⟩⟩⟩⟩⟩⟩⟩⟩⟩⟩⟩
abbrev O_J (k0 : Nat) (k1 : Nat) (k2 : Nat) (k3 : Nat) (k4 : Int32) (k5 : Int32) (k6 : Nat) (k7 : Nat) (k8 : Nat) (k9 : Nat) (k10 : Nat) (k11 : Nat) (k12 : Nat) (k13 : Nat) (k14 : Nat) (k15 : Nat) (k16 : Nat) (k17 : Nat) : va_E := .inr (11, [.ref k0, .ref k1, .ref k2, .ref k3, .int k4, .int k5, .ref k6, .ref k7, .ref k8, .ref k9, .ref k10, .ref k11, .ref k12, .ref k13, .ref k14, .ref k15, .ref k16, .ref k17])
def n_R : String := "JoinOrdersModel"
def T_R : u_T := fun k => match k with
  | 0 => ("JoinOrdersModel", "raised", "I", false)
  | 1 => ("JoinOrdersModel", "all", "[I", true)
  | 2 => ("JoinOrdersModel", "text", "[B", true)
  | 3 => ("JoinOrdersModel", "saved", "[Z", true)
  | 4 => ("JoinOrdersModel", "undone", "[I", true)
  | 5 => ("JoinOrdersModel", "undos", "I", false)
  | 6 => ("JoinOrdersModel", "reached", "I", false)
  | 7 => ("JoinOrdersModel", "length", "I", false)
  | 8 => ("JoinOrdersModel", "begin", "I", false)
  | 9 => ("JoinOrdersModel", "sort", "I", false)
  | 10 => ("JoinOrdersModel", "sign", "I", false)
  | 11 => ("JoinOrdersModel", "value", "I", false)
  | 12 => ("JoinOrdersModel", "word", "J", false)
  | 13 => ("JoinOrdersModel", "wrongAt", "I", false)
  | 14 => ("JoinOrdersModel", "badAt", "I", false)
  | 15 => ("JoinOrdersModel", "bad", "I", false)
  | 16 => ("JoinOrdersModel", "told", "[I", true)
  | 17 => ("JoinOrdersModel", "read", "I", false)
  | 18 => ("JoinOrdersModel", "side", "I", false)
  | 19 => ("JoinOrdersModel", "pile", "[I", true)
  | 20 => ("JoinOrdersModel", "piled", "I", false)
  | 21 => ("JoinOrdersModel", "open", "[I", true)
  | 22 => ("JoinOrdersModel", "opened", "I", false)
  | 23 => ("JoinOrdersModel", "joins", "I", false)
  | 24 => ("JoinOrdersModel", "had", "I", false)
  | 25 => ("JoinOrdersModel", "size", "[J", true)
  | 26 => ("JoinOrdersModel", "capped", "[Z", true)
  | 27 => ("JoinOrdersModel", "connected", "[Z", true)
  | 28 => ("JoinOrdersModel", "bestCost", "[J", true)
  | 29 => ("JoinOrdersModel", "bestCrosses", "[I", true)
  | 30 => ("JoinOrdersModel", "bestPart", "[I", true)
  | 31 => ("JoinOrdersModel", "part", "[I", true)
  | 32 => ("JoinOrdersModel", "trees", "[I", true)
  | 33 => ("JoinOrdersModel", "treeMany", "I", false)
  | 34 => ("JoinOrdersModel", "nodes", "[I", true)
  | 35 => ("JoinOrdersModel", "nodeMany", "I", false)
  | 36 => ("JoinOrdersModel", "moveNode", "I", false)
  | 37 => ("JoinOrdersModel", "movePart", "I", false)
  | 38 => ("JoinOrdersModel", "moveFirst", "I", false)
  | 39 => ("JoinOrdersModel", "moveThen", "I", false)
  | 40 => ("JoinOrdersModel", "moveOther", "I", false)
  | 41 => ("JoinOrdersModel", "out", "[B", true)
  | 42 => ("JoinOrdersModel", "outMany", "I", false)
  | _ => ("JoinOrdersModel", "kept", "[I", true)
def ty_R : Nat → FieldType := fun k => match k with
  | 0 => .int
  | 1 => .array .int
  | 2 => .array .byte
  | 3 => .array .boolean
  | 4 => .array .int
  | 5 => .int
  | 6 => .int
  | 7 => .int
  | 8 => .int
  | 9 => .int
  | 10 => .int
  | 11 => .int
  | 12 => .long
  | 13 => .int
  | 14 => .int
  | 15 => .int
  | 16 => .array .int
  | 17 => .int
  | 18 => .int
  | 19 => .array .int
  | 20 => .int
  | 21 => .array .int
  | 22 => .int
  | 23 => .int
  | 24 => .int
  | 25 => .array .long
  | 26 => .array .boolean
  | 27 => .array .boolean
  | 28 => .array .long
  | 29 => .array .int
  | 30 => .array .int
  | 31 => .array .int
  | 32 => .array .int
  | 33 => .int
  | 34 => .array .int
  | 35 => .int
  | 36 => .int
  | 37 => .int
  | 38 => .int
  | 39 => .int
  | 40 => .int
  | 41 => .array .byte
  | 42 => .int
  | _ => .array .int
theorem nm_R : ∀ a, a < 44 → ∀ b, b < 44 → a ≠ b → (T_R a).2.1 ≠ (T_R b).2.1 := by decide +kernel
theorem ty_R_ok : ∀ k, k < 44 → parseFieldDescriptor (T_R k).2.2.1 = some (ty_R k) := by decide +kernel
theorem iw_R : ∀ w ∈ u_ws n_R T_R 44, w ∈ lg_w := List.forall_mem_cons.mpr ⟨k_1240, List.forall_mem_cons.mpr ⟨k_1242, List.forall_mem_cons.mpr ⟨k_1244, List.forall_mem_cons.mpr ⟨k_1246, List.forall_mem_cons.mpr ⟨k_1248, List.forall_mem_cons.mpr ⟨k_1250, List.forall_mem_cons.mpr ⟨k_1252, List.forall_mem_cons.mpr ⟨k_1254, List.forall_mem_cons.mpr ⟨k_1256, List.forall_mem_cons.mpr ⟨k_1258, List.forall_mem_cons.mpr ⟨k_1260, List.forall_mem_cons.mpr ⟨k_1262, List.forall_mem_cons.mpr ⟨k_1264, List.forall_mem_cons.mpr ⟨k_1266, List.forall_mem_cons.mpr ⟨k_1268, List.forall_mem_cons.mpr ⟨k_1270, List.forall_mem_cons.mpr ⟨k_1272, List.forall_mem_cons.mpr ⟨k_1274, List.forall_mem_cons.mpr ⟨k_1276, List.forall_mem_cons.mpr ⟨k_1278, List.forall_mem_cons.mpr ⟨k_1280, List.forall_mem_cons.mpr ⟨k_1282, List.forall_mem_cons.mpr ⟨k_1284, List.forall_mem_cons.mpr ⟨k_1286, List.forall_mem_cons.mpr ⟨k_1288, List.forall_mem_cons.mpr ⟨k_1290, List.forall_mem_cons.mpr ⟨k_1292, List.forall_mem_cons.mpr ⟨k_1294, List.forall_mem_cons.mpr ⟨k_1296, List.forall_mem_cons.mpr ⟨k_1298, List.forall_mem_cons.mpr ⟨k_1300, List.forall_mem_cons.mpr ⟨k_1302, List.forall_mem_cons.mpr ⟨k_1304, List.forall_mem_cons.mpr ⟨k_1306, List.forall_mem_cons.mpr ⟨k_1308, List.forall_mem_cons.mpr ⟨k_1310, List.forall_mem_cons.mpr ⟨k_1312, List.forall_mem_cons.mpr ⟨k_1314, List.forall_mem_cons.mpr ⟨k_1316, List.forall_mem_cons.mpr ⟨k_1318, List.forall_mem_cons.mpr ⟨k_1320, List.forall_mem_cons.mpr ⟨k_1322, List.forall_mem_cons.mpr ⟨k_1324, List.forall_mem_cons.mpr ⟨k_1326, fun _ h => absurd h List.not_mem_nil⟩⟩⟩⟩⟩⟩⟩⟩⟩⟩⟩⟩⟩⟩⟩⟩⟩⟩⟩⟩⟩⟩⟩⟩⟩⟩⟩⟩⟩⟩⟩⟩⟩⟩⟩⟩⟩⟩⟩⟩⟩⟩⟩⟩
abbrev O_R (k0 : Int32) (k1 : Nat) (k2 : Nat) (k3 : Nat) (k4 : Nat) (k5 : Int32) (k6 : Int32) (k7 : Int32) (k8 : Int32) (k9 : Int32) (k10 : Int32) (k11 : Int32) (k12 : Int64) (k13 : Int32) (k14 : Int32) (k15 : Int32) (k16 : Nat) (k17 : Int32) (k18 : Int32) (k19 : Nat) (k20 : Int32) (k21 : Nat) (k22 : Int32) (k23 : Int32) (k24 : Int32) (k25 : Nat) (k26 : Nat) (k27 : Nat) (k28 : Nat) (k29 : Nat) (k30 : Nat) (k31 : Nat) (k32 : Nat) (k33 : Int32) (k34 : Nat) (k35 : Int32) (k36 : Int32) (k37 : Int32) (k38 : Int32) (k39 : Int32) (k40 : Int32) (k41 : Nat) (k42 : Int32) (k43 : Nat) : va_E := .inr (12, [.int k0, .ref k1, .ref k2, .ref k3, .ref k4, .int k5, .int k6, .int k7, .int k8, .int k9, .int k10, .int k11, .long k12, .int k13, .int k14, .int k15, .ref k16, .int k17, .int k18, .ref k19, .int k20, .ref k21, .int k22, .int k23, .int k24, .ref k25, .ref k26, .ref k27, .ref k28, .ref k29, .ref k30, .ref k31, .ref k32, .int k33, .ref k34, .int k35, .int k36, .int k37, .int k38, .int k39, .int k40, .ref k41, .int k42, .ref k43])
abbrev classes : List vw_C := [(n_B, T_B, 4), (n_G, T_G, 7), (n_V, T_V, 2), (n_A, T_A, 5), (n_P, T_P, 4), (n_L, T_L, 9), (n_Q, T_Q, 6), (n_B, T_B, 4), (n_S, T_S, 12), (n_U, T_U, 6), (n_T, T_T, 6), (n_J, T_J, 18), (n_R, T_R, 44)]
abbrev tyL (G : va_G × (Nat → ClassId)) : List (ClassId × FieldType) := [(G.2 0, .byte), (G.2 1, .int), (G.2 2, .long), (G.2 3, .boolean), (G.2 4, .object "JoinOrders$Graph"), (G.2 5, .object "JoinOrders$Plan"), (G.2 6, .object "JoinOrders$State")]
abbrev aB (G : va_G × (Nat → ClassId)) (n : Nat) (f : Nat → Int32) : va_E := .inl (G.2 0, n, .inl f)
abbrev aI (G : va_G × (Nat → ClassId)) (n : Nat) (f : Nat → Int32) : va_E := .inl (G.2 1, n, .inl f)
abbrev aJ (G : va_G × (Nat → ClassId)) (n : Nat) (f : Nat → Int64) : va_E := .inl (G.2 2, n, .inr (.inl f))
abbrev aZ (G : va_G × (Nat → ClassId)) (n : Nat) (f : Nat → Int32) : va_E := .inl (G.2 3, n, .inl f)
abbrev b_R_thrown : ByteArray := prog_14_method_2_code
def y_R_thrown : MethodName := ⟨"JoinOrdersModel", "thrown", "()I"⟩
theorem mv_R_thrown : mV y_R_thrown b_R_thrown 1 (some .int) n_R 0 := ⟨k_1332, k_1330, k_1331, k_105, rfl, by decide +kernel, by decide +kernel, by decide +kernel⟩
abbrev b_R_in : ByteArray := prog_14_method_3_code
def y_R_in : MethodName := ⟨"JoinOrdersModel", "in", "(JJJ)Z"⟩
theorem ms_R_in : mS y_R_in b_R_in 6 (some .boolean) 3 := ⟨k_1358, k_1357, k_105, by decide +kernel, by decide +kernel, by decide +kernel⟩
abbrev b_R_everything : ByteArray := prog_14_method_4_code
def y_R_everything : MethodName := ⟨"JoinOrdersModel", "everything", "()I"⟩
theorem mv_R_everything : mV y_R_everything b_R_everything 1 (some .int) n_R 0 := ⟨k_1469, k_1468, k_56, k_105, rfl, by decide +kernel, by decide +kernel, by decide +kernel⟩
abbrev b_R_isOne : ByteArray := prog_14_method_5_code
def y_R_isOne : MethodName := ⟨"JoinOrdersModel", "isOne", "(I)Z"⟩
theorem ms_R_isOne : mS y_R_isOne b_R_isOne 1 (some .boolean) 1 := ⟨k_1522, k_1521, k_105, by decide +kernel, by decide +kernel, by decide +kernel⟩
abbrev b_R_least : ByteArray := prog_14_method_6_code
def y_R_least : MethodName := ⟨"JoinOrdersModel", "least", "(I)I"⟩
theorem ms_R_least : mS y_R_least b_R_least 1 (some .int) 1 := ⟨k_1436, k_1435, k_105, by decide +kernel, by decide +kernel, by decide +kernel⟩
abbrev b_R_isIn : ByteArray := prog_14_method_7_code
def y_R_isIn : MethodName := ⟨"JoinOrdersModel", "isIn", "(II)Z"⟩
theorem ms_R_isIn : mS y_R_isIn b_R_isIn 2 (some .boolean) 2 := ⟨k_1472, k_1471, k_105, by decide +kernel, by decide +kernel, by decide +kernel⟩
abbrev b_R_isSet : ByteArray := prog_14_method_8_code
def y_R_isSet : MethodName := ⟨"JoinOrdersModel", "isSet", "(I)Z"⟩
theorem mv_R_isSet : mV y_R_isSet b_R_isSet 2 (some .boolean) n_R 1 := ⟨k_1465, k_1464, k_55, k_105, rfl, by decide +kernel, by decide +kernel, by decide +kernel⟩
abbrev b_R_leftOf : ByteArray := prog_14_method_9_code
def y_R_leftOf : MethodName := ⟨"JoinOrdersModel", "leftOf", "(I)I"⟩
theorem mv_R_leftOf : mV y_R_leftOf b_R_leftOf 2 (some .int) n_R 1 := ⟨k_1515, k_1514, k_62, k_105, rfl, by decide +kernel, by decide +kernel, by decide +kernel⟩
abbrev b_R_rightOf : ByteArray := prog_14_method_10_code
def y_R_rightOf : MethodName := ⟨"JoinOrdersModel", "rightOf", "(I)I"⟩
theorem mv_R_rightOf : mV y_R_rightOf b_R_rightOf 2 (some .int) n_R 1 := ⟨k_1519, k_1518, k_63, k_105, rfl, by decide +kernel, by decide +kernel, by decide +kernel⟩
abbrev b_R_byOf : ByteArray := prog_14_method_11_code
def y_R_byOf : MethodName := ⟨"JoinOrdersModel", "byOf", "(I)I"⟩
theorem mv_R_byOf : mV y_R_byOf b_R_byOf 2 (some .int) n_R 1 := ⟨k_1493, k_1492, k_59, k_105, rfl, by decide +kernel, by decide +kernel, by decide +kernel⟩
abbrev b_R_type : ByteArray := prog_14_method_12_code
def y_R_type : MethodName := ⟨"JoinOrdersModel", "type", "(J)I"⟩
theorem mv_R_type : mV y_R_type b_R_type 5 (some .int) n_R 1 := ⟨k_1336, k_1334, k_1335, k_105, rfl, by decide +kernel, by decide +kernel, by decide +kernel⟩
abbrev b_R_see : ByteArray := prog_14_method_13_code
def y_R_see : MethodName := ⟨"JoinOrdersModel", "see", "()I"⟩
theorem mv_R_see : mV y_R_see b_R_see 1 (some .int) n_R 0 := ⟨k_1353, k_1352, k_37, k_105, rfl, by decide +kernel, by decide +kernel, by decide +kernel⟩
abbrev b_R_token : ByteArray := prog_14_method_14_code
def y_R_token : MethodName := ⟨"JoinOrdersModel", "token", "()V"⟩
theorem mv_R_token : mV y_R_token b_R_token 3 none n_R 0 := ⟨k_1349, k_1348, k_36, k_105, rfl, by decide +kernel, by decide +kernel, by decide +kernel⟩
abbrev b_R_fails : ByteArray := prog_14_method_15_code
def y_R_fails : MethodName := ⟨"JoinOrdersModel", "fails", "()Z"⟩
theorem mv_R_fails : mV y_R_fails b_R_fails 1 (some .boolean) n_R 0 := ⟨k_1382, k_1381, k_42, k_105, rfl, by decide +kernel, by decide +kernel, by decide +kernel⟩
abbrev b_R_isBad : ByteArray := prog_14_method_16_code
def y_R_isBad : MethodName := ⟨"JoinOrdersModel", "isBad", "(II)V"⟩
theorem mv_R_isBad : mV y_R_isBad b_R_isBad 3 none n_R 2 := ⟨k_1373, k_1372, k_40, k_105, rfl, by decide +kernel, by decide +kernel, by decide +kernel⟩
abbrev b_R_takes : ByteArray := prog_14_method_17_code
def y_R_takes : MethodName := ⟨"JoinOrdersModel", "takes", "(II)Z"⟩
theorem mv_R_takes : mV y_R_takes b_R_takes 3 (some .boolean) n_R 2 := ⟨k_1378, k_1377, k_41, k_105, rfl, by decide +kernel, by decide +kernel, by decide +kernel⟩
abbrev b_R_takesSign : ByteArray := prog_14_method_18_code
def y_R_takesSign : MethodName := ⟨"JoinOrdersModel", "takesSign", "(I)Z"⟩
theorem mv_R_takesSign : mV y_R_takesSign b_R_takesSign 2 (some .boolean) n_R 1 := ⟨k_1395, k_1394, k_45, k_105, rfl, by decide +kernel, by decide +kernel, by decide +kernel⟩
abbrev b_R_starts : ByteArray := prog_14_method_19_code
def y_R_starts : MethodName := ⟨"JoinOrdersModel", "starts", "()V"⟩
theorem mv_R_starts : mV y_R_starts b_R_starts 1 none n_R 0 := ⟨k_1345, k_1344, k_35, k_105, rfl, by decide +kernel, by decide +kernel, by decide +kernel⟩
abbrev b_R_isFine : ByteArray := prog_14_method_20_code
def y_R_isFine : MethodName := ⟨"JoinOrdersModel", "isFine", "(Z)Z"⟩
theorem mv_R_isFine : mV y_R_isFine b_R_isFine 2 (some .boolean) n_R 1 := ⟨k_1402, k_1401, k_46, k_105, rfl, by decide +kernel, by decide +kernel, by decide +kernel⟩
abbrev b_R_relationLine : ByteArray := prog_14_method_21_code
def y_R_relationLine : MethodName := ⟨"JoinOrdersModel", "relationLine", "()Z"⟩
theorem mv_R_relationLine : mV y_R_relationLine b_R_relationLine 1 (some .boolean) n_R 0 := ⟨k_1369, k_1368, k_39, k_105, rfl, by decide +kernel, by decide +kernel, by decide +kernel⟩
abbrev b_R_takesSide : ByteArray := prog_14_method_22_code
def y_R_takesSide : MethodName := ⟨"JoinOrdersModel", "takesSide", "(I)Z"⟩
theorem mv_R_takesSide : mV y_R_takesSide b_R_takesSide 2 (some .boolean) n_R 1 := ⟨k_1391, k_1390, k_44, k_105, rfl, by decide +kernel, by decide +kernel, by decide +kernel⟩
abbrev b_R_edgeLine : ByteArray := prog_14_method_23_code
def y_R_edgeLine : MethodName := ⟨"JoinOrdersModel", "edgeLine", "()Z"⟩
theorem mv_R_edgeLine : mV y_R_edgeLine b_R_edgeLine 4 (some .boolean) n_R 0 := ⟨k_1387, k_1386, k_43, k_105, rfl, by decide +kernel, by decide +kernel, by decide +kernel⟩
abbrev b_R_line : ByteArray := prog_14_method_24_code
def y_R_line : MethodName := ⟨"JoinOrdersModel", "line", "()Z"⟩
theorem mv_R_line : mV y_R_line b_R_line 4 (some .boolean) n_R 0 := ⟨k_1364, k_1363, k_38, k_105, rfl, by decide +kernel, by decide +kernel, by decide +kernel⟩
abbrev b_R_query : ByteArray := prog_14_method_25_code
def y_R_query : MethodName := ⟨"JoinOrdersModel", "query", "()I"⟩
theorem mv_R_query : mV y_R_query b_R_query 3 (some .int) n_R 0 := ⟨k_1341, k_1339, k_1340, k_105, rfl, by decide +kernel, by decide +kernel, by decide +kernel⟩
abbrev b_R_fault : ByteArray := prog_14_method_26_code
def y_R_fault : MethodName := ⟨"JoinOrdersModel", "fault", "(Z)I"⟩
theorem mv_R_fault : mV y_R_fault b_R_fault 2 (some .int) n_R 1 := ⟨k_1406, k_1404, k_1405, k_105, rfl, by decide +kernel, by decide +kernel, by decide +kernel⟩
abbrev b_R_puts : ByteArray := prog_14_method_27_code
def y_R_puts : MethodName := ⟨"JoinOrdersModel", "puts", "(I)V"⟩
theorem mv_R_puts : mV y_R_puts b_R_puts 2 none n_R 1 := ⟨k_1422, k_1421, k_49, k_105, rfl, by decide +kernel, by decide +kernel, by decide +kernel⟩
abbrev b_R_takesNumber : ByteArray := prog_14_method_28_code
def y_R_takesNumber : MethodName := ⟨"JoinOrdersModel", "takesNumber", "()Z"⟩
theorem mv_R_takesNumber : mV y_R_takesNumber b_R_takesNumber 2 (some .boolean) n_R 0 := ⟨k_1418, k_1417, k_48, k_105, rfl, by decide +kernel, by decide +kernel, by decide +kernel⟩
abbrev b_R_joinsTwo : ByteArray := prog_14_method_29_code
def y_R_joinsTwo : MethodName := ⟨"JoinOrdersModel", "joinsTwo", "()V"⟩
theorem mv_R_joinsTwo : mV y_R_joinsTwo b_R_joinsTwo 3 none n_R 0 := ⟨k_1430, k_1429, k_51, k_105, rfl, by decide +kernel, by decide +kernel, by decide +kernel⟩
abbrev b_R_isAheadOf : ByteArray := prog_14_method_30_code
def y_R_isAheadOf : MethodName := ⟨"JoinOrdersModel", "isAheadOf", "(II)Z"⟩
theorem ms_R_isAheadOf : mS y_R_isAheadOf b_R_isAheadOf 2 (some .boolean) 2 := ⟨k_1433, k_1432, k_105, by decide +kernel, by decide +kernel, by decide +kernel⟩
abbrev b_R_closes : ByteArray := prog_14_method_31_code
def y_R_closes : MethodName := ⟨"JoinOrdersModel", "closes", "()Z"⟩
theorem mv_R_closes : mV y_R_closes b_R_closes 2 (some .boolean) n_R 0 := ⟨k_1426, k_1425, k_50, k_105, rfl, by decide +kernel, by decide +kernel, by decide +kernel⟩
abbrev b_R_isPlan : ByteArray := prog_14_method_32_code
def y_R_isPlan : MethodName := ⟨"JoinOrdersModel", "isPlan", "()Z"⟩
theorem mv_R_isPlan : mV y_R_isPlan b_R_isPlan 1 (some .boolean) n_R 0 := ⟨k_1414, k_1413, k_47, k_105, rfl, by decide +kernel, by decide +kernel, by decide +kernel⟩
abbrev b_R_plan : ByteArray := prog_14_method_33_code
def y_R_plan : MethodName := ⟨"JoinOrdersModel", "plan", "()I"⟩
theorem mv_R_plan : mV y_R_plan b_R_plan 2 (some .int) n_R 0 := ⟨k_1410, k_1408, k_1409, k_105, rfl, by decide +kernel, by decide +kernel, by decide +kernel⟩
abbrev b_R_isJoined : ByteArray := prog_14_method_34_code
def y_R_isJoined : MethodName := ⟨"JoinOrdersModel", "isJoined", "(II)Z"⟩
theorem mv_R_isJoined : mV y_R_isJoined b_R_isJoined 4 (some .boolean) n_R 2 := ⟨k_1534, k_1533, k_66, k_105, rfl, by decide +kernel, by decide +kernel, by decide +kernel⟩
abbrev b_R_laysSize : ByteArray := prog_14_method_35_code
def y_R_laysSize : MethodName := ⟨"JoinOrdersModel", "laysSize", "(I)V"⟩
theorem mv_R_laysSize : mV y_R_laysSize b_R_laysSize 11 none n_R 1 := ⟨k_1510, k_1509, k_61, k_105, rfl, by decide +kernel, by decide +kernel, by decide +kernel⟩
abbrev b_R_sum : ByteArray := prog_14_method_36_code
def y_R_sum : MethodName := ⟨"JoinOrdersModel", "sum", "(JJ)J"⟩
theorem ms_R_sum : mS y_R_sum b_R_sum 4 (some .long) 2 := ⟨k_1541, k_1540, k_105, by decide +kernel, by decide +kernel, by decide +kernel⟩
abbrev b_R_laysBest : ByteArray := prog_14_method_37_code
def y_R_laysBest : MethodName := ⟨"JoinOrdersModel", "laysBest", "(II)V"⟩
theorem mv_R_laysBest : mV y_R_laysBest b_R_laysBest 9 none n_R 2 := ⟨k_1538, k_1537, k_67, k_105, rfl, by decide +kernel, by decide +kernel, by decide +kernel⟩
abbrev b_R_isPair : ByteArray := prog_14_method_38_code
def y_R_isPair : MethodName := ⟨"JoinOrdersModel", "isPair", "(II)Z"⟩
theorem mv_R_isPair : mV y_R_isPair b_R_isPair 3 (some .boolean) n_R 2 := ⟨k_1530, k_1529, k_65, k_105, rfl, by decide +kernel, by decide +kernel, by decide +kernel⟩
abbrev b_R_pairsOf : ByteArray := prog_14_method_39_code
def y_R_pairsOf : MethodName := ⟨"JoinOrdersModel", "pairsOf", "(I)I"⟩
theorem mv_R_pairsOf : mV y_R_pairsOf b_R_pairsOf 4 (some .int) n_R 1 := ⟨k_1526, k_1525, k_64, k_105, rfl, by decide +kernel, by decide +kernel, by decide +kernel⟩
abbrev b_R_lays : ByteArray := prog_14_method_40_code
def y_R_lays : MethodName := ⟨"JoinOrdersModel", "lays", "()V"⟩
theorem mv_R_lays : mV y_R_lays b_R_lays 2 none n_R 0 := ⟨k_1506, k_1505, k_60, k_105, rfl, by decide +kernel, by decide +kernel, by decide +kernel⟩
abbrev b_R_pairMany : ByteArray := prog_14_method_41_code
def y_R_pairMany : MethodName := ⟨"JoinOrdersModel", "pairMany", "()I"⟩
theorem mv_R_pairMany : mV y_R_pairMany b_R_pairMany 3 (some .int) n_R 0 := ⟨k_1545, k_1544, k_68, k_105, rfl, by decide +kernel, by decide +kernel, by decide +kernel⟩
abbrev b_R_noParts : ByteArray := prog_14_method_42_code
def y_R_noParts : MethodName := ⟨"JoinOrdersModel", "noParts", "()V"⟩
theorem mv_R_noParts : mV y_R_noParts b_R_noParts 2 none n_R 0 := ⟨k_1553, k_1552, k_70, k_105, rfl, by decide +kernel, by decide +kernel, by decide +kernel⟩
abbrev b_R_partsOfBest : ByteArray := prog_14_method_43_code
def y_R_partsOfBest : MethodName := ⟨"JoinOrdersModel", "partsOfBest", "(I)V"⟩
theorem mv_R_partsOfBest : mV y_R_partsOfBest b_R_partsOfBest 3 none n_R 1 := ⟨k_1565, k_1564, k_73, k_105, rfl, by decide +kernel, by decide +kernel, by decide +kernel⟩
abbrev b_R_costOfParts : ByteArray := prog_14_method_44_code
def y_R_costOfParts : MethodName := ⟨"JoinOrdersModel", "costOfParts", "(I)J"⟩
theorem mv_R_costOfParts : mV y_R_costOfParts b_R_costOfParts 5 (some .long) n_R 1 := ⟨k_1593, k_1592, k_79, k_105, rfl, by decide +kernel, by decide +kernel, by decide +kernel⟩
abbrev b_R_crossesOfParts : ByteArray := prog_14_method_45_code
def y_R_crossesOfParts : MethodName := ⟨"JoinOrdersModel", "crossesOfParts", "()I"⟩
theorem mv_R_crossesOfParts : mV y_R_crossesOfParts b_R_crossesOfParts 3 (some .int) n_R 0 := ⟨k_1589, k_1588, k_78, k_105, rfl, by decide +kernel, by decide +kernel, by decide +kernel⟩
abbrev b_R_partsOfGreedy : ByteArray := prog_14_method_46_code
def y_R_partsOfGreedy : MethodName := ⟨"JoinOrdersModel", "partsOfGreedy", "()V"⟩
theorem mv_R_partsOfGreedy : mV y_R_partsOfGreedy b_R_partsOfGreedy 2 none n_R 0 := ⟨k_1549, k_1548, k_69, k_105, rfl, by decide +kernel, by decide +kernel, by decide +kernel⟩
abbrev b_R_joinsGreedily : ByteArray := prog_14_method_47_code
def y_R_joinsGreedily : MethodName := ⟨"JoinOrdersModel", "joinsGreedily", "()V"⟩
theorem mv_R_joinsGreedily : mV y_R_joinsGreedily b_R_joinsGreedily 9 none n_R 0 := ⟨k_1557, k_1556, k_71, k_105, rfl, by decide +kernel, by decide +kernel, by decide +kernel⟩
abbrev b_R_isLess : ByteArray := prog_14_method_48_code
def y_R_isLess : MethodName := ⟨"JoinOrdersModel", "isLess", "(IIII)Z"⟩
theorem mv_R_isLess : mV y_R_isLess b_R_isLess 7 (some .boolean) n_R 4 := ⟨k_1561, k_1560, k_72, k_105, rfl, by decide +kernel, by decide +kernel, by decide +kernel⟩
abbrev b_R_takesPlan : ByteArray := prog_14_method_49_code
def y_R_takesPlan : MethodName := ⟨"JoinOrdersModel", "takesPlan", "()V"⟩
theorem mv_R_takesPlan : mV y_R_takesPlan b_R_takesPlan 2 none n_R 0 := ⟨k_1577, k_1576, k_75, k_105, rfl, by decide +kernel, by decide +kernel, by decide +kernel⟩
abbrev b_R_laysNodes : ByteArray := prog_14_method_50_code
def y_R_laysNodes : MethodName := ⟨"JoinOrdersModel", "laysNodes", "(I)V"⟩
theorem mv_R_laysNodes : mV y_R_laysNodes b_R_laysNodes 3 none n_R 1 := ⟨k_1585, k_1584, k_77, k_105, rfl, by decide +kernel, by decide +kernel, by decide +kernel⟩
abbrev b_R_isMove : ByteArray := prog_14_method_51_code
def y_R_isMove : MethodName := ⟨"JoinOrdersModel", "isMove", "(I)Z"⟩
theorem mv_R_isMove : mV y_R_isMove b_R_isMove 7 (some .boolean) n_R 1 := ⟨k_1601, k_1600, k_81, k_105, rfl, by decide +kernel, by decide +kernel, by decide +kernel⟩
abbrev b_R_moveMany : ByteArray := prog_14_method_52_code
def y_R_moveMany : MethodName := ⟨"JoinOrdersModel", "moveMany", "()I"⟩
theorem mv_R_moveMany : mV y_R_moveMany b_R_moveMany 2 (some .int) n_R 0 := ⟨k_1597, k_1596, k_80, k_105, rfl, by decide +kernel, by decide +kernel, by decide +kernel⟩
abbrev b_R_goes : ByteArray := prog_14_method_53_code
def y_R_goes : MethodName := ⟨"JoinOrdersModel", "goes", "()V"⟩
theorem mv_R_goes : mV y_R_goes b_R_goes 2 none n_R 0 := ⟨k_1605, k_1604, k_82, k_105, rfl, by decide +kernel, by decide +kernel, by decide +kernel⟩
abbrev b_R_goesBack : ByteArray := prog_14_method_54_code
def y_R_goesBack : MethodName := ⟨"JoinOrdersModel", "goesBack", "()V"⟩
theorem mv_R_goesBack : mV y_R_goesBack b_R_goesBack 2 none n_R 0 := ⟨k_1609, k_1608, k_83, k_105, rfl, by decide +kernel, by decide +kernel, by decide +kernel⟩
abbrev b_R_bestMove : ByteArray := prog_14_method_55_code
def y_R_bestMove : MethodName := ⟨"JoinOrdersModel", "bestMove", "(I)I"⟩
theorem mv_R_bestMove : mV y_R_bestMove b_R_bestMove 12 (some .int) n_R 1 := ⟨k_1581, k_1580, k_76, k_105, rfl, by decide +kernel, by decide +kernel, by decide +kernel⟩
abbrev b_R_keeps : ByteArray := prog_14_method_56_code
def y_R_keeps : MethodName := ⟨"JoinOrdersModel", "keeps", "()V"⟩
theorem mv_R_keeps : mV y_R_keeps b_R_keeps 2 none n_R 0 := ⟨k_1440, k_1439, k_52, k_105, rfl, by decide +kernel, by decide +kernel, by decide +kernel⟩
abbrev b_R_noPlan : ByteArray := prog_14_method_57_code
def y_R_noPlan : MethodName := ⟨"JoinOrdersModel", "noPlan", "()V"⟩
theorem mv_R_noPlan : mV y_R_noPlan b_R_noPlan 2 none n_R 0 := ⟨k_1449, k_1448, k_53, k_105, rfl, by decide +kernel, by decide +kernel, by decide +kernel⟩
abbrev b_R_isRelation : ByteArray := prog_14_method_58_code
def y_R_isRelation : MethodName := ⟨"JoinOrdersModel", "isRelation", "(I)Z"⟩
theorem mv_R_isRelation : mV y_R_isRelation b_R_isRelation 2 (some .boolean) n_R 1 := ⟨k_1457, k_1456, k_54, k_105, rfl, by decide +kernel, by decide +kernel, by decide +kernel⟩
abbrev b_R_isEdge : ByteArray := prog_14_method_59_code
def y_R_isEdge : MethodName := ⟨"JoinOrdersModel", "isEdge", "(I)Z"⟩
theorem mv_R_isEdge : mV y_R_isEdge b_R_isEdge 2 (some .boolean) n_R 1 := ⟨k_1481, k_1480, k_57, k_105, rfl, by decide +kernel, by decide +kernel, by decide +kernel⟩
abbrev b_R_add : ByteArray := prog_14_method_60_code
def y_R_add : MethodName := ⟨"JoinOrdersModel", "add", "(I)I"⟩
theorem mv_R_add : mV y_R_add b_R_add 2 (some .int) n_R 1 := ⟨k_1444, k_1442, k_1443, k_105, rfl, by decide +kernel, by decide +kernel, by decide +kernel⟩
abbrev b_R_rows : ByteArray := prog_14_method_61_code
def y_R_rows : MethodName := ⟨"JoinOrdersModel", "rows", "(II)Z"⟩
theorem mv_R_rows : mV y_R_rows b_R_rows 3 (some .boolean) n_R 2 := ⟨k_1453, k_1451, k_1452, k_105, rfl, by decide +kernel, by decide +kernel, by decide +kernel⟩
abbrev b_R_link : ByteArray := prog_14_method_62_code
def y_R_link : MethodName := ⟨"JoinOrdersModel", "link", "(III)I"⟩
theorem mv_R_link : mV y_R_link b_R_link 5 (some .int) n_R 3 := ⟨k_1461, k_1459, k_1460, k_105, rfl, by decide +kernel, by decide +kernel, by decide +kernel⟩
abbrev b_R_takesOut : ByteArray := prog_14_method_63_code
def y_R_takesOut : MethodName := ⟨"JoinOrdersModel", "takesOut", "(I)V"⟩
theorem mv_R_takesOut : mV y_R_takesOut b_R_takesOut 3 none n_R 1 := ⟨k_1485, k_1484, k_58, k_105, rfl, by decide +kernel, by decide +kernel, by decide +kernel⟩
abbrev b_R_cut : ByteArray := prog_14_method_64_code
def y_R_cut : MethodName := ⟨"JoinOrdersModel", "cut", "(I)I"⟩
theorem mv_R_cut : mV y_R_cut b_R_cut 3 (some .int) n_R 1 := ⟨k_1477, k_1475, k_1476, k_105, rfl, by decide +kernel, by decide +kernel, by decide +kernel⟩
abbrev b_R_by : ByteArray := prog_14_method_65_code
def y_R_by : MethodName := ⟨"JoinOrdersModel", "by", "(II)Z"⟩
theorem mv_R_by : mV y_R_by b_R_by 3 (some .boolean) n_R 2 := ⟨k_1489, k_1487, k_1488, k_105, rfl, by decide +kernel, by decide +kernel, by decide +kernel⟩
abbrev b_R_limit : ByteArray := prog_14_method_66_code
def y_R_limit : MethodName := ⟨"JoinOrdersModel", "limit", "(I)Z"⟩
theorem mv_R_limit : mV y_R_limit b_R_limit 2 (some .boolean) n_R 1 := ⟨k_1497, k_1495, k_1496, k_105, rfl, by decide +kernel, by decide +kernel, by decide +kernel⟩
abbrev b_R_isPlanNow : ByteArray := prog_14_method_67_code
def y_R_isPlanNow : MethodName := ⟨"JoinOrdersModel", "isPlanNow", "(I)V"⟩
theorem mv_R_isPlanNow : mV y_R_isPlanNow b_R_isPlanNow 3 none n_R 1 := ⟨k_1569, k_1568, k_74, k_105, rfl, by decide +kernel, by decide +kernel, by decide +kernel⟩
abbrev b_R_choose : ByteArray := prog_14_method_68_code
def y_R_choose : MethodName := ⟨"JoinOrdersModel", "choose", "()I"⟩
theorem mv_R_choose : mV y_R_choose b_R_choose 2 (some .int) n_R 0 := ⟨k_1502, k_1500, k_1501, k_105, rfl, by decide +kernel, by decide +kernel, by decide +kernel⟩
abbrev b_R_step : ByteArray := prog_14_method_69_code
def y_R_step : MethodName := ⟨"JoinOrdersModel", "step", "()I"⟩
theorem mv_R_step : mV y_R_step b_R_step 4 (some .int) n_R 0 := ⟨k_1573, k_1571, k_1572, k_105, rfl, by decide +kernel, by decide +kernel, by decide +kernel⟩
abbrev b_R_undo : ByteArray := prog_14_method_70_code
def y_R_undo : MethodName := ⟨"JoinOrdersModel", "undo", "()I"⟩
theorem mv_R_undo : mV y_R_undo b_R_undo 2 (some .int) n_R 0 := ⟨k_1613, k_1611, k_1612, k_105, rfl, by decide +kernel, by decide +kernel, by decide +kernel⟩
abbrev b_R_connectedMany : ByteArray := prog_14_method_71_code
def y_R_connectedMany : MethodName := ⟨"JoinOrdersModel", "connectedMany", "(Z)I"⟩
theorem mv_R_connectedMany : mV y_R_connectedMany b_R_connectedMany 4 (some .int) n_R 1 := ⟨k_1621, k_1620, k_84, k_105, rfl, by decide +kernel, by decide +kernel, by decide +kernel⟩
abbrev b_R_partMany : ByteArray := prog_14_method_72_code
def y_R_partMany : MethodName := ⟨"JoinOrdersModel", "partMany", "()I"⟩
theorem mv_R_partMany : mV y_R_partMany b_R_partMany 4 (some .int) n_R 0 := ⟨k_1629, k_1628, k_86, k_105, rfl, by decide +kernel, by decide +kernel, by decide +kernel⟩
abbrev b_R_joinMany : ByteArray := prog_14_method_73_code
def y_R_joinMany : MethodName := ⟨"JoinOrdersModel", "joinMany", "()I"⟩
theorem mv_R_joinMany : mV y_R_joinMany b_R_joinMany 3 (some .int) n_R 0 := ⟨k_1625, k_1624, k_85, k_105, rfl, by decide +kernel, by decide +kernel, by decide +kernel⟩
abbrev b_R_count : ByteArray := prog_14_method_74_code
def y_R_count : MethodName := ⟨"JoinOrdersModel", "count", "(I)I"⟩
theorem mv_R_count : mV y_R_count b_R_count 3 (some .int) n_R 1 := ⟨k_1617, k_1615, k_1616, k_105, rfl, by decide +kernel, by decide +kernel, by decide +kernel⟩
abbrev b_R_edge : ByteArray := prog_14_method_75_code
def y_R_edge : MethodName := ⟨"JoinOrdersModel", "edge", "(II)I"⟩
theorem mv_R_edge : mV y_R_edge b_R_edge 3 (some .int) n_R 2 := ⟨k_1633, k_1631, k_1632, k_105, rfl, by decide +kernel, by decide +kernel, by decide +kernel⟩
abbrev b_R_size : ByteArray := prog_14_method_76_code
def y_R_size : MethodName := ⟨"JoinOrdersModel", "size", "(IZ)J"⟩
theorem mv_R_size : mV y_R_size b_R_size 3 (some .long) n_R 2 := ⟨k_1638, k_1636, k_1637, k_105, rfl, by decide +kernel, by decide +kernel, by decide +kernel⟩
abbrev b_R_connected : ByteArray := prog_14_method_77_code
def y_R_connected : MethodName := ⟨"JoinOrdersModel", "connected", "(I)Z"⟩
theorem mv_R_connected : mV y_R_connected b_R_connected 2 (some .boolean) n_R 1 := ⟨k_1643, k_1641, k_1642, k_105, rfl, by decide +kernel, by decide +kernel, by decide +kernel⟩
abbrev b_R_joined : ByteArray := prog_14_method_78_code
def y_R_joined : MethodName := ⟨"JoinOrdersModel", "joined", "(II)Z"⟩
theorem mv_R_joined : mV y_R_joined b_R_joined 3 (some .boolean) n_R 2 := ⟨k_1647, k_1645, k_1646, k_105, rfl, by decide +kernel, by decide +kernel, by decide +kernel⟩
abbrev b_R_pair : ByteArray := prog_14_method_79_code
def y_R_pair : MethodName := ⟨"JoinOrdersModel", "pair", "(IZ)I"⟩
theorem mv_R_pair : mV y_R_pair b_R_pair 6 (some .int) n_R 2 := ⟨k_1651, k_1649, k_1650, k_105, rfl, by decide +kernel, by decide +kernel, by decide +kernel⟩
abbrev b_R_best : ByteArray := prog_14_method_80_code
def y_R_best : MethodName := ⟨"JoinOrdersModel", "best", "(IZI)J"⟩
theorem mv_R_best : mV y_R_best b_R_best 5 (some .long) n_R 3 := ⟨k_1655, k_1653, k_1654, k_105, rfl, by decide +kernel, by decide +kernel, by decide +kernel⟩
abbrev b_R_greedy : ByteArray := prog_14_method_81_code
def y_R_greedy : MethodName := ⟨"JoinOrdersModel", "greedy", "(I)J"⟩
theorem mv_R_greedy : mV y_R_greedy b_R_greedy 2 (some .long) n_R 1 := ⟨k_1659, k_1657, k_1658, k_105, rfl, by decide +kernel, by decide +kernel, by decide +kernel⟩
abbrev b_R_node : ByteArray := prog_14_method_82_code
def y_R_node : MethodName := ⟨"JoinOrdersModel", "node", "(II)J"⟩
theorem mv_R_node : mV y_R_node b_R_node 4 (some .long) n_R 2 := ⟨k_1663, k_1661, k_1662, k_105, rfl, by decide +kernel, by decide +kernel, by decide +kernel⟩
abbrev b_R_cost : ByteArray := prog_14_method_83_code
def y_R_cost : MethodName := ⟨"JoinOrdersModel", "cost", "()J"⟩
theorem mv_R_cost : mV y_R_cost b_R_cost 1 (some .long) n_R 0 := ⟨k_1668, k_1666, k_1667, k_105, rfl, by decide +kernel, by decide +kernel, by decide +kernel⟩
abbrev b_R_says : ByteArray := prog_14_method_84_code
def y_R_says : MethodName := ⟨"JoinOrdersModel", "says", "(I)V"⟩
theorem mv_R_says : mV y_R_says b_R_says 2 none n_R 1 := ⟨k_1680, k_1679, k_88, k_105, rfl, by decide +kernel, by decide +kernel, by decide +kernel⟩
abbrev b_R_numberOf : ByteArray := prog_14_method_85_code
def y_R_numberOf : MethodName := ⟨"JoinOrdersModel", "numberOf", "(I)I"⟩
theorem ms_R_numberOf : mS y_R_numberOf b_R_numberOf 2 (some .int) 1 := ⟨k_1683, k_1682, k_105, by decide +kernel, by decide +kernel, by decide +kernel⟩
abbrev b_R_tells : ByteArray := prog_14_method_86_code
def y_R_tells : MethodName := ⟨"JoinOrdersModel", "tells", "(I)V"⟩
theorem mv_R_tells : mV y_R_tells b_R_tells 3 none n_R 1 := ⟨k_1676, k_1675, k_87, k_105, rfl, by decide +kernel, by decide +kernel, by decide +kernel⟩
abbrev b_R_told : ByteArray := prog_14_method_87_code
def y_R_told : MethodName := ⟨"JoinOrdersModel", "told", "(I)I"⟩
theorem mv_R_told : mV y_R_told b_R_told 2 (some .int) n_R 1 := ⟨k_1672, k_1670, k_1671, k_105, rfl, by decide +kernel, by decide +kernel, by decide +kernel⟩
abbrev b_R_move : ByteArray := prog_14_method_88_code
def y_R_move : MethodName := ⟨"JoinOrdersModel", "move", "(I)J"⟩
theorem mv_R_move : mV y_R_move b_R_move 3 (some .long) n_R 1 := ⟨k_1687, k_1685, k_1686, k_105, rfl, by decide +kernel, by decide +kernel, by decide +kernel⟩
abbrev b_R_steps : ByteArray := prog_14_method_89_code
def y_R_steps : MethodName := ⟨"JoinOrdersModel", "steps", "()I"⟩
theorem mv_R_steps : mV y_R_steps b_R_steps 5 (some .int) n_R 0 := ⟨k_1691, k_1689, k_1690, k_105, rfl, by decide +kernel, by decide +kernel, by decide +kernel⟩
abbrev b_R_copies : ByteArray := prog_14_method_90_code
def y_R_copies : MethodName := ⟨"JoinOrdersModel", "copies", "(II)V"⟩
theorem mv_R_copies : mV y_R_copies b_R_copies 4 none n_R 2 := ⟨k_1715, k_1714, k_91, k_105, rfl, by decide +kernel, by decide +kernel, by decide +kernel⟩
abbrev b_R_bestOfAll : ByteArray := prog_14_method_91_code
def y_R_bestOfAll : MethodName := ⟨"JoinOrdersModel", "bestOfAll", "()J"⟩
theorem mv_R_bestOfAll : mV y_R_bestOfAll b_R_bestOfAll 1 (some .long) n_R 0 := ⟨k_1699, k_1698, k_89, k_105, rfl, by decide +kernel, by decide +kernel, by decide +kernel⟩
abbrev b_R_would : ByteArray := prog_14_method_92_code
def y_R_would : MethodName := ⟨"JoinOrdersModel", "would", "(ZII)J"⟩
theorem mv_R_would : mV y_R_would b_R_would 8 (some .long) n_R 3 := ⟨k_1695, k_1693, k_1694, k_105, rfl, by decide +kernel, by decide +kernel, by decide +kernel⟩
abbrev b_R_needed : ByteArray := prog_14_method_93_code
def y_R_needed : MethodName := ⟨"JoinOrdersModel", "needed", "(Z)J"⟩
theorem mv_R_needed : mV y_R_needed b_R_needed 10 (some .long) n_R 1 := ⟨k_1703, k_1701, k_1702, k_105, rfl, by decide +kernel, by decide +kernel, by decide +kernel⟩
abbrev b_R_copiesText : ByteArray := prog_14_method_94_code
def y_R_copiesText : MethodName := ⟨"JoinOrdersModel", "copiesText", "(II)V"⟩
theorem mv_R_copiesText : mV y_R_copiesText b_R_copiesText 4 none n_R 2 := ⟨k_1711, k_1710, k_90, k_105, rfl, by decide +kernel, by decide +kernel, by decide +kernel⟩
abbrev b_R_image : ByteArray := prog_14_method_95_code
def y_R_image : MethodName := ⟨"JoinOrdersModel", "image", "(I)Z"⟩
theorem mv_R_image : mV y_R_image b_R_image 2 (some .boolean) n_R 1 := ⟨k_1707, k_1705, k_1706, k_105, rfl, by decide +kernel, by decide +kernel, by decide +kernel⟩
abbrev b_R_again : ByteArray := prog_14_method_96_code
def y_R_again : MethodName := ⟨"JoinOrdersModel", "again", "(I)Z"⟩
theorem mv_R_again : mV y_R_again b_R_again 2 (some .boolean) n_R 1 := ⟨k_1719, k_1717, k_1718, k_105, rfl, by decide +kernel, by decide +kernel, by decide +kernel⟩
theorem sw_out_0_3 {x : Int32} (h0 : ¬ x = (0 : Int32)) (h1 : ¬ x = (1 : Int32)) (h2 : ¬ x = (2 : Int32)) (h3 : ¬ x = (3 : Int32)) : x.toInt < 0 ∨ 3 < x.toInt := by
  have g0 : ¬ x.toInt = 0 := fun e => h0 (Int32.toInt_inj.mp (e.trans (by decide)))
  have g1 : ¬ x.toInt = 1 := fun e => h1 (Int32.toInt_inj.mp (e.trans (by decide)))
  have g2 : ¬ x.toInt = 2 := fun e => h2 (Int32.toInt_inj.mp (e.trans (by decide)))
  have g3 : ¬ x.toInt = 3 := fun e => h3 (Int32.toInt_inj.mp (e.trans (by decide)))
  omega
theorem sw_out_0_11 {x : Int32} (h0 : ¬ x = (0 : Int32)) (h1 : ¬ x = (1 : Int32)) (h2 : ¬ x = (2 : Int32)) (h3 : ¬ x = (3 : Int32)) (h4 : ¬ x = (4 : Int32)) (h5 : ¬ x = (5 : Int32)) (h6 : ¬ x = (6 : Int32)) (h7 : ¬ x = (7 : Int32)) (h8 : ¬ x = (8 : Int32)) (h9 : ¬ x = (9 : Int32)) (h10 : ¬ x = (10 : Int32)) (h11 : ¬ x = (11 : Int32)) : x.toInt < 0 ∨ 11 < x.toInt := by
  have g0 : ¬ x.toInt = 0 := fun e => h0 (Int32.toInt_inj.mp (e.trans (by decide)))
  have g1 : ¬ x.toInt = 1 := fun e => h1 (Int32.toInt_inj.mp (e.trans (by decide)))
  have g2 : ¬ x.toInt = 2 := fun e => h2 (Int32.toInt_inj.mp (e.trans (by decide)))
  have g3 : ¬ x.toInt = 3 := fun e => h3 (Int32.toInt_inj.mp (e.trans (by decide)))
  have g4 : ¬ x.toInt = 4 := fun e => h4 (Int32.toInt_inj.mp (e.trans (by decide)))
  have g5 : ¬ x.toInt = 5 := fun e => h5 (Int32.toInt_inj.mp (e.trans (by decide)))
  have g6 : ¬ x.toInt = 6 := fun e => h6 (Int32.toInt_inj.mp (e.trans (by decide)))
  have g7 : ¬ x.toInt = 7 := fun e => h7 (Int32.toInt_inj.mp (e.trans (by decide)))
  have g8 : ¬ x.toInt = 8 := fun e => h8 (Int32.toInt_inj.mp (e.trans (by decide)))
  have g9 : ¬ x.toInt = 9 := fun e => h9 (Int32.toInt_inj.mp (e.trans (by decide)))
  have g10 : ¬ x.toInt = 10 := fun e => h10 (Int32.toInt_inj.mp (e.trans (by decide)))
  have g11 : ¬ x.toInt = 11 := fun e => h11 (Int32.toInt_inj.mp (e.trans (by decide)))
  omega
