theorem k_121 : (.instanceMethod ⟨"JoinOrders", "<init>", "()V"⟩ : Cond) ∈ lg_w := inG (List.mem_of_getElem? (i := 121) (by decide +kernel)) (by decide +kernel)
theorem k_122 : (.code ⟨"JoinOrders", "<init>", "()V"⟩ prog_1_method_1_code 2 (Option.none : Option FieldType) : Cond) ∈ lg_w := inG (List.mem_of_getElem? (i := 122) (by decide +kernel)) (by decide +kernel)
theorem k_123 : (.methodLink "JoinOrders" 3 ⟨"java/lang/Object", "<init>", "()V"⟩ : Cond) ∈ lg_w := inG (List.mem_of_getElem? (i := 123) (by decide +kernel)) (by decide +kernel)
theorem k_124 : (.instanceMethod ⟨"java/lang/Object", "<init>", "()V"⟩ : Cond) ∈ lg_w := inG (List.mem_of_getElem? (i := 124) (by decide +kernel)) (by decide +kernel)
theorem k_125 : (.code ⟨"java/lang/Object", "<init>", "()V"⟩ object_method_1_code 1 (Option.none : Option FieldType) : Cond) ∈ lg_w := inG (List.mem_of_getElem? (i := 125) (by decide +kernel)) (by decide +kernel)
theorem k_126 : (.classLink "JoinOrders" 9 "JoinOrders$State" : Cond) ∈ lg_w := inG (List.mem_of_getElem? (i := 126) (by decide +kernel)) (by decide +kernel)
theorem k_127 : (.instantiable "JoinOrders$State" 6 : Cond) ∈ lg_w := inG (List.mem_of_getElem? (i := 127) (by decide +kernel)) (by decide +kernel)
theorem k_128 : (.methodLink "JoinOrders" 11 ⟨"JoinOrders$State", "<init>", "()V"⟩ : Cond) ∈ lg_w := inG (List.mem_of_getElem? (i := 128) (by decide +kernel)) (by decide +kernel)
theorem k_129 : (.instanceMethod ⟨"JoinOrders$State", "<init>", "()V"⟩ : Cond) ∈ lg_w := inG (List.mem_of_getElem? (i := 129) (by decide +kernel)) (by decide +kernel)
theorem k_130 : (.code ⟨"JoinOrders$State", "<init>", "()V"⟩ prog_11_method_1_code 1 (Option.none : Option FieldType) : Cond) ∈ lg_w := inG (List.mem_of_getElem? (i := 130) (by decide +kernel)) (by decide +kernel)
theorem k_131 : (.methodLink "JoinOrders$State" 3 ⟨"java/lang/Object", "<init>", "()V"⟩ : Cond) ∈ lg_w := inG (List.mem_of_getElem? (i := 131) (by decide +kernel)) (by decide +kernel)
theorem k_132 : (.classLink "JoinOrders$State" 9 "JoinOrders$Graph" : Cond) ∈ lg_w := inG (List.mem_of_getElem? (i := 132) (by decide +kernel)) (by decide +kernel)
theorem k_133 : (.instantiable "JoinOrders$Graph" 7 : Cond) ∈ lg_w := inG (List.mem_of_getElem? (i := 133) (by decide +kernel)) (by decide +kernel)
theorem k_134 : (.methodLink "JoinOrders$State" 11 ⟨"JoinOrders$Graph", "<init>", "()V"⟩ : Cond) ∈ lg_w := inG (List.mem_of_getElem? (i := 134) (by decide +kernel)) (by decide +kernel)
theorem k_135 : (.instanceMethod ⟨"JoinOrders$Graph", "<init>", "()V"⟩ : Cond) ∈ lg_w := inG (List.mem_of_getElem? (i := 135) (by decide +kernel)) (by decide +kernel)
theorem k_136 : (.code ⟨"JoinOrders$Graph", "<init>", "()V"⟩ prog_3_method_1_code 1 (Option.none : Option FieldType) : Cond) ∈ lg_w := inG (List.mem_of_getElem? (i := 136) (by decide +kernel)) (by decide +kernel)
theorem k_137 : (.methodLink "JoinOrders$Graph" 3 ⟨"java/lang/Object", "<init>", "()V"⟩ : Cond) ∈ lg_w := inG (List.mem_of_getElem? (i := 137) (by decide +kernel)) (by decide +kernel)
theorem k_177 : (.arrayClass FieldType.int : Cond) ∈ lg_w := inG (List.mem_of_getElem? (i := 177) (by decide +kernel)) (by decide +kernel)
theorem k_178 : (.classLink "JoinOrders$State" 18 "JoinOrders$Plan" : Cond) ∈ lg_w := inG (List.mem_of_getElem? (i := 178) (by decide +kernel)) (by decide +kernel)
theorem k_179 : (.instantiable "JoinOrders$Plan" 4 : Cond) ∈ lg_w := inG (List.mem_of_getElem? (i := 179) (by decide +kernel)) (by decide +kernel)
theorem k_180 : (.methodLink "JoinOrders$State" 20 ⟨"JoinOrders$Plan", "<init>", "()V"⟩ : Cond) ∈ lg_w := inG (List.mem_of_getElem? (i := 180) (by decide +kernel)) (by decide +kernel)
theorem k_181 : (.instanceMethod ⟨"JoinOrders$Plan", "<init>", "()V"⟩ : Cond) ∈ lg_w := inG (List.mem_of_getElem? (i := 181) (by decide +kernel)) (by decide +kernel)
theorem k_182 : (.code ⟨"JoinOrders$Plan", "<init>", "()V"⟩ prog_6_method_1_code 1 (Option.none : Option FieldType) : Cond) ∈ lg_w := inG (List.mem_of_getElem? (i := 182) (by decide +kernel)) (by decide +kernel)
theorem k_183 : (.methodLink "JoinOrders$Plan" 3 ⟨"java/lang/Object", "<init>", "()V"⟩ : Cond) ∈ lg_w := inG (List.mem_of_getElem? (i := 183) (by decide +kernel)) (by decide +kernel)
theorem k_208 : (.classLink "JoinOrders$State" 25 "JoinOrders$Text" : Cond) ∈ lg_w := inG (List.mem_of_getElem? (i := 208) (by decide +kernel)) (by decide +kernel)
theorem k_209 : (.instantiable "JoinOrders$Text" 6 : Cond) ∈ lg_w := inG (List.mem_of_getElem? (i := 209) (by decide +kernel)) (by decide +kernel)
theorem k_210 : (.methodLink "JoinOrders$State" 27 ⟨"JoinOrders$Text", "<init>", "()V"⟩ : Cond) ∈ lg_w := inG (List.mem_of_getElem? (i := 210) (by decide +kernel)) (by decide +kernel)
theorem k_211 : (.instanceMethod ⟨"JoinOrders$Text", "<init>", "()V"⟩ : Cond) ∈ lg_w := inG (List.mem_of_getElem? (i := 211) (by decide +kernel)) (by decide +kernel)
theorem k_212 : (.code ⟨"JoinOrders$Text", "<init>", "()V"⟩ prog_12_method_1_code 1 (Option.none : Option FieldType) : Cond) ∈ lg_w := inG (List.mem_of_getElem? (i := 212) (by decide +kernel)) (by decide +kernel)
theorem k_213 : (.methodLink "JoinOrders$Text" 3 ⟨"java/lang/Object", "<init>", "()V"⟩ : Cond) ∈ lg_w := inG (List.mem_of_getElem? (i := 213) (by decide +kernel)) (by decide +kernel)
theorem k_265 : (.classLink "JoinOrders" 20 "JoinOrders$Graph" : Cond) ∈ lg_w := inG (List.mem_of_getElem? (i := 265) (by decide +kernel)) (by decide +kernel)
theorem k_267 : (.classLink "JoinOrders" 26 "JoinOrders$Plan" : Cond) ∈ lg_w := inG (List.mem_of_getElem? (i := 267) (by decide +kernel)) (by decide +kernel)
theorem k_269 : (.methodLink "JoinOrders" 32 ⟨"JoinOrders$Graph", "<init>", "()V"⟩ : Cond) ∈ lg_w := inG (List.mem_of_getElem? (i := 269) (by decide +kernel)) (by decide +kernel)
theorem k_270 : (.methodLink "JoinOrders" 33 ⟨"JoinOrders$Plan", "<init>", "()V"⟩ : Cond) ∈ lg_w := inG (List.mem_of_getElem? (i := 270) (by decide +kernel)) (by decide +kernel)
theorem k_271 : (.classLink "JoinOrders" 34 "JoinOrders$QueryReading" : Cond) ∈ lg_w := inG (List.mem_of_getElem? (i := 271) (by decide +kernel)) (by decide +kernel)
theorem k_272 : (.instantiable "JoinOrders$QueryReading" 6 : Cond) ∈ lg_w := inG (List.mem_of_getElem? (i := 272) (by decide +kernel)) (by decide +kernel)
theorem k_273 : (.methodLink "JoinOrders" 36 ⟨"JoinOrders$QueryReading", "<init>", "()V"⟩ : Cond) ∈ lg_w := inG (List.mem_of_getElem? (i := 273) (by decide +kernel)) (by decide +kernel)
theorem k_274 : (.instanceMethod ⟨"JoinOrders$QueryReading", "<init>", "()V"⟩ : Cond) ∈ lg_w := inG (List.mem_of_getElem? (i := 274) (by decide +kernel)) (by decide +kernel)
theorem k_275 : (.code ⟨"JoinOrders$QueryReading", "<init>", "()V"⟩ prog_8_method_1_code 1 (Option.none : Option FieldType) : Cond) ∈ lg_w := inG (List.mem_of_getElem? (i := 275) (by decide +kernel)) (by decide +kernel)
theorem k_276 : (.methodLinkNest "JoinOrders$QueryReading" 3 ⟨"JoinOrders$Reading", "<init>", "()V"⟩ "JoinOrders" : Cond) ∈ nsW := inN (List.mem_of_getElem? (i := 276) (by decide +kernel)) (by decide +kernel)
theorem k_277 : (.instanceMethod ⟨"JoinOrders$Reading", "<init>", "()V"⟩ : Cond) ∈ lg_w := inG (List.mem_of_getElem? (i := 277) (by decide +kernel)) (by decide +kernel)
theorem k_278 : (.code ⟨"JoinOrders$Reading", "<init>", "()V"⟩ prog_9_method_1_code 1 (Option.none : Option FieldType) : Cond) ∈ lg_w := inG (List.mem_of_getElem? (i := 278) (by decide +kernel)) (by decide +kernel)
theorem k_279 : (.methodLink "JoinOrders$Reading" 3 ⟨"java/lang/Object", "<init>", "()V"⟩ : Cond) ∈ lg_w := inG (List.mem_of_getElem? (i := 279) (by decide +kernel)) (by decide +kernel)
theorem k_280 : (.classLink "JoinOrders$QueryReading" 9 "JoinOrders$Graph" : Cond) ∈ lg_w := inG (List.mem_of_getElem? (i := 280) (by decide +kernel)) (by decide +kernel)
theorem k_281 : (.methodLink "JoinOrders$QueryReading" 11 ⟨"JoinOrders$Graph", "<init>", "()V"⟩ : Cond) ∈ lg_w := inG (List.mem_of_getElem? (i := 281) (by decide +kernel)) (by decide +kernel)
theorem k_304 : (.classLink "JoinOrders" 41 "JoinOrders$PlanReading" : Cond) ∈ lg_w := inG (List.mem_of_getElem? (i := 304) (by decide +kernel)) (by decide +kernel)
theorem k_305 : (.instantiable "JoinOrders$PlanReading" 9 : Cond) ∈ lg_w := inG (List.mem_of_getElem? (i := 305) (by decide +kernel)) (by decide +kernel)
theorem k_306 : (.methodLink "JoinOrders" 43 ⟨"JoinOrders$PlanReading", "<init>", "()V"⟩ : Cond) ∈ lg_w := inG (List.mem_of_getElem? (i := 306) (by decide +kernel)) (by decide +kernel)
theorem k_307 : (.instanceMethod ⟨"JoinOrders$PlanReading", "<init>", "()V"⟩ : Cond) ∈ lg_w := inG (List.mem_of_getElem? (i := 307) (by decide +kernel)) (by decide +kernel)
theorem k_308 : (.code ⟨"JoinOrders$PlanReading", "<init>", "()V"⟩ prog_7_method_1_code 1 (Option.none : Option FieldType) : Cond) ∈ lg_w := inG (List.mem_of_getElem? (i := 308) (by decide +kernel)) (by decide +kernel)
theorem k_309 : (.methodLinkNest "JoinOrders$PlanReading" 3 ⟨"JoinOrders$Reading", "<init>", "()V"⟩ "JoinOrders" : Cond) ∈ nsW := inN (List.mem_of_getElem? (i := 309) (by decide +kernel)) (by decide +kernel)
theorem k_336 : (.classLink "JoinOrders" 48 "JoinOrders$Sets" : Cond) ∈ lg_w := inG (List.mem_of_getElem? (i := 336) (by decide +kernel)) (by decide +kernel)
theorem k_337 : (.instantiable "JoinOrders$Sets" 12 : Cond) ∈ lg_w := inG (List.mem_of_getElem? (i := 337) (by decide +kernel)) (by decide +kernel)
theorem k_338 : (.methodLink "JoinOrders" 50 ⟨"JoinOrders$Sets", "<init>", "()V"⟩ : Cond) ∈ lg_w := inG (List.mem_of_getElem? (i := 338) (by decide +kernel)) (by decide +kernel)
theorem k_339 : (.instanceMethod ⟨"JoinOrders$Sets", "<init>", "()V"⟩ : Cond) ∈ lg_w := inG (List.mem_of_getElem? (i := 339) (by decide +kernel)) (by decide +kernel)
theorem k_340 : (.code ⟨"JoinOrders$Sets", "<init>", "()V"⟩ prog_10_method_1_code 1 (Option.none : Option FieldType) : Cond) ∈ lg_w := inG (List.mem_of_getElem? (i := 340) (by decide +kernel)) (by decide +kernel)
theorem k_341 : (.methodLink "JoinOrders$Sets" 3 ⟨"java/lang/Object", "<init>", "()V"⟩ : Cond) ∈ lg_w := inG (List.mem_of_getElem? (i := 341) (by decide +kernel)) (by decide +kernel)
theorem k_390 : (.arrayClass FieldType.long : Cond) ∈ lg_w := inG (List.mem_of_getElem? (i := 390) (by decide +kernel)) (by decide +kernel)
theorem k_391 : (.arrayClass FieldType.boolean : Cond) ∈ lg_w := inG (List.mem_of_getElem? (i := 391) (by decide +kernel)) (by decide +kernel)
theorem k_392 : (.classLink "JoinOrders" 55 "JoinOrders$Best" : Cond) ∈ lg_w := inG (List.mem_of_getElem? (i := 392) (by decide +kernel)) (by decide +kernel)
theorem k_393 : (.instantiable "JoinOrders$Best" 4 : Cond) ∈ lg_w := inG (List.mem_of_getElem? (i := 393) (by decide +kernel)) (by decide +kernel)
theorem k_394 : (.methodLink "JoinOrders" 57 ⟨"JoinOrders$Best", "<init>", "()V"⟩ : Cond) ∈ lg_w := inG (List.mem_of_getElem? (i := 394) (by decide +kernel)) (by decide +kernel)
theorem k_395 : (.instanceMethod ⟨"JoinOrders$Best", "<init>", "()V"⟩ : Cond) ∈ lg_w := inG (List.mem_of_getElem? (i := 395) (by decide +kernel)) (by decide +kernel)
theorem k_396 : (.code ⟨"JoinOrders$Best", "<init>", "()V"⟩ prog_2_method_1_code 1 (Option.none : Option FieldType) : Cond) ∈ lg_w := inG (List.mem_of_getElem? (i := 396) (by decide +kernel)) (by decide +kernel)
theorem k_397 : (.methodLink "JoinOrders$Best" 3 ⟨"java/lang/Object", "<init>", "()V"⟩ : Cond) ∈ lg_w := inG (List.mem_of_getElem? (i := 397) (by decide +kernel)) (by decide +kernel)
theorem k_415 : (.classLink "JoinOrders" 65 "JoinOrders$Parts" : Cond) ∈ lg_w := inG (List.mem_of_getElem? (i := 415) (by decide +kernel)) (by decide +kernel)
theorem k_416 : (.instantiable "JoinOrders$Parts" 5 : Cond) ∈ lg_w := inG (List.mem_of_getElem? (i := 416) (by decide +kernel)) (by decide +kernel)
theorem k_417 : (.methodLink "JoinOrders" 67 ⟨"JoinOrders$Parts", "<init>", "()V"⟩ : Cond) ∈ lg_w := inG (List.mem_of_getElem? (i := 417) (by decide +kernel)) (by decide +kernel)
theorem k_418 : (.instanceMethod ⟨"JoinOrders$Parts", "<init>", "()V"⟩ : Cond) ∈ lg_w := inG (List.mem_of_getElem? (i := 418) (by decide +kernel)) (by decide +kernel)
theorem k_419 : (.code ⟨"JoinOrders$Parts", "<init>", "()V"⟩ prog_5_method_1_code 1 (Option.none : Option FieldType) : Cond) ∈ lg_w := inG (List.mem_of_getElem? (i := 419) (by decide +kernel)) (by decide +kernel)
theorem k_420 : (.methodLink "JoinOrders$Parts" 3 ⟨"java/lang/Object", "<init>", "()V"⟩ : Cond) ∈ lg_w := inG (List.mem_of_getElem? (i := 420) (by decide +kernel)) (by decide +kernel)
theorem k_438 : (.classLink "JoinOrders" 72 "JoinOrders$Mover" : Cond) ∈ lg_w := inG (List.mem_of_getElem? (i := 438) (by decide +kernel)) (by decide +kernel)
theorem k_439 : (.instantiable "JoinOrders$Mover" 2 : Cond) ∈ lg_w := inG (List.mem_of_getElem? (i := 439) (by decide +kernel)) (by decide +kernel)
theorem k_440 : (.methodLink "JoinOrders" 74 ⟨"JoinOrders$Mover", "<init>", "()V"⟩ : Cond) ∈ lg_w := inG (List.mem_of_getElem? (i := 440) (by decide +kernel)) (by decide +kernel)
theorem k_441 : (.instanceMethod ⟨"JoinOrders$Mover", "<init>", "()V"⟩ : Cond) ∈ lg_w := inG (List.mem_of_getElem? (i := 441) (by decide +kernel)) (by decide +kernel)
theorem k_442 : (.code ⟨"JoinOrders$Mover", "<init>", "()V"⟩ prog_4_method_1_code 1 (Option.none : Option FieldType) : Cond) ∈ lg_w := inG (List.mem_of_getElem? (i := 442) (by decide +kernel)) (by decide +kernel)
theorem k_443 : (.methodLink "JoinOrders$Mover" 3 ⟨"java/lang/Object", "<init>", "()V"⟩ : Cond) ∈ lg_w := inG (List.mem_of_getElem? (i := 443) (by decide +kernel)) (by decide +kernel)
theorem k_444 : (.classLink "JoinOrders$Mover" 9 "JoinOrders$Plan" : Cond) ∈ lg_w := inG (List.mem_of_getElem? (i := 444) (by decide +kernel)) (by decide +kernel)
theorem k_445 : (.methodLink "JoinOrders$Mover" 11 ⟨"JoinOrders$Plan", "<init>", "()V"⟩ : Cond) ∈ lg_w := inG (List.mem_of_getElem? (i := 445) (by decide +kernel)) (by decide +kernel)
theorem k_734 : (.arrayClass FieldType.byte : Cond) ∈ lg_w := inG (List.mem_of_getElem? (i := 734) (by decide +kernel)) (by decide +kernel)
theorem k_1193 : (.instanceMethod ⟨"JoinOrdersModel", "<init>", "()V"⟩ : Cond) ∈ lg_w := inG (List.mem_of_getElem? (i := 1193) (by decide +kernel)) (by decide +kernel)
theorem k_1194 : (.code ⟨"JoinOrdersModel", "<init>", "()V"⟩ prog_14_method_1_code 1 (Option.none : Option FieldType) : Cond) ∈ lg_w := inG (List.mem_of_getElem? (i := 1194) (by decide +kernel)) (by decide +kernel)
theorem k_1195 : (.methodLink "JoinOrdersModel" 1 ⟨"java/lang/Object", "<init>", "()V"⟩ : Cond) ∈ lg_w := inG (List.mem_of_getElem? (i := 1195) (by decide +kernel)) (by decide +kernel)
abbrev b_R_init : ByteArray := prog_14_method_1_code
def y_R_init : MethodName := ⟨"JoinOrdersModel", "<init>", "()V"⟩
theorem d_R_init_0 : decode b_R_init 0 = .ok (.aload_n 0, 1) := by decide +kernel
theorem d_R_init_1 : decode b_R_init 1 = .ok (.invokespecial 1, 3) := by decide +kernel
theorem d_R_init_4 : decode b_R_init 4 = .ok (.aload_n 0, 1) := by decide +kernel
theorem d_R_init_5 : decode b_R_init 5 = .ok (.sipush 1276, 3) := by decide +kernel
theorem d_R_init_8 : decode b_R_init 8 = .ok (.newarray .int, 2) := by decide +kernel
theorem d_R_init_10 : decode b_R_init 10 = .ok (.putfield 7, 3) := by decide +kernel
theorem d_R_init_13 : decode b_R_init 13 = .ok (.aload_n 0, 1) := by decide +kernel
theorem d_R_init_14 : decode b_R_init 14 = .ok (.sipush 2000, 3) := by decide +kernel
theorem d_R_init_17 : decode b_R_init 17 = .ok (.newarray .byte, 2) := by decide +kernel
theorem d_R_init_19 : decode b_R_init 19 = .ok (.putfield 13, 3) := by decide +kernel
theorem d_R_init_22 : decode b_R_init 22 = .ok (.aload_n 0, 1) := by decide +kernel
theorem d_R_init_23 : decode b_R_init 23 = .ok (.iconst 3, 1) := by decide +kernel
theorem d_R_init_24 : decode b_R_init 24 = .ok (.newarray .boolean, 2) := by decide +kernel
theorem d_R_init_26 : decode b_R_init 26 = .ok (.putfield 17, 3) := by decide +kernel
theorem d_R_init_29 : decode b_R_init 29 = .ok (.aload_n 0, 1) := by decide +kernel
theorem d_R_init_30 : decode b_R_init 30 = .ok (.sipush 2528, 3) := by decide +kernel
theorem d_R_init_33 : decode b_R_init 33 = .ok (.newarray .int, 2) := by decide +kernel
theorem d_R_init_35 : decode b_R_init 35 = .ok (.putfield 21, 3) := by decide +kernel
theorem d_R_init_38 : decode b_R_init 38 = .ok (.aload_n 0, 1) := by decide +kernel
theorem d_R_init_39 : decode b_R_init 39 = .ok (.sipush 316, 3) := by decide +kernel
theorem d_R_init_42 : decode b_R_init 42 = .ok (.newarray .int, 2) := by decide +kernel
theorem d_R_init_44 : decode b_R_init 44 = .ok (.putfield 24, 3) := by decide +kernel
theorem d_R_init_47 : decode b_R_init 47 = .ok (.aload_n 0, 1) := by decide +kernel
theorem d_R_init_48 : decode b_R_init 48 = .ok (.sipush 502, 3) := by decide +kernel
theorem d_R_init_51 : decode b_R_init 51 = .ok (.newarray .int, 2) := by decide +kernel
theorem d_R_init_53 : decode b_R_init 53 = .ok (.putfield 27, 3) := by decide +kernel
theorem d_R_init_56 : decode b_R_init 56 = .ok (.aload_n 0, 1) := by decide +kernel
theorem d_R_init_57 : decode b_R_init 57 = .ok (.sipush 502, 3) := by decide +kernel
theorem d_R_init_60 : decode b_R_init 60 = .ok (.newarray .int, 2) := by decide +kernel
theorem d_R_init_62 : decode b_R_init 62 = .ok (.putfield 30, 3) := by decide +kernel
theorem d_R_init_65 : decode b_R_init 65 = .ok (.aload_n 0, 1) := by decide +kernel
theorem d_R_init_66 : decode b_R_init 66 = .ok (.sipush 256, 3) := by decide +kernel
theorem d_R_init_69 : decode b_R_init 69 = .ok (.newarray .long, 2) := by decide +kernel
theorem d_R_init_71 : decode b_R_init 71 = .ok (.putfield 33, 3) := by decide +kernel
theorem d_R_init_74 : decode b_R_init 74 = .ok (.aload_n 0, 1) := by decide +kernel
theorem d_R_init_75 : decode b_R_init 75 = .ok (.sipush 256, 3) := by decide +kernel
theorem d_R_init_78 : decode b_R_init 78 = .ok (.newarray .boolean, 2) := by decide +kernel
theorem d_R_init_80 : decode b_R_init 80 = .ok (.putfield 37, 3) := by decide +kernel
theorem d_R_init_83 : decode b_R_init 83 = .ok (.aload_n 0, 1) := by decide +kernel
theorem d_R_init_84 : decode b_R_init 84 = .ok (.sipush 256, 3) := by decide +kernel
theorem d_R_init_87 : decode b_R_init 87 = .ok (.newarray .boolean, 2) := by decide +kernel
theorem d_R_init_89 : decode b_R_init 89 = .ok (.putfield 40, 3) := by decide +kernel
theorem d_R_init_92 : decode b_R_init 92 = .ok (.aload_n 0, 1) := by decide +kernel
theorem d_R_init_93 : decode b_R_init 93 = .ok (.sipush 512, 3) := by decide +kernel
theorem d_R_init_96 : decode b_R_init 96 = .ok (.newarray .long, 2) := by decide +kernel
theorem d_R_init_98 : decode b_R_init 98 = .ok (.putfield 43, 3) := by decide +kernel
theorem d_R_init_101 : decode b_R_init 101 = .ok (.aload_n 0, 1) := by decide +kernel
theorem d_R_init_102 : decode b_R_init 102 = .ok (.sipush 512, 3) := by decide +kernel
theorem d_R_init_105 : decode b_R_init 105 = .ok (.newarray .int, 2) := by decide +kernel
theorem d_R_init_107 : decode b_R_init 107 = .ok (.putfield 46, 3) := by decide +kernel
theorem d_R_init_110 : decode b_R_init 110 = .ok (.aload_n 0, 1) := by decide +kernel
theorem d_R_init_111 : decode b_R_init 111 = .ok (.sipush 512, 3) := by decide +kernel
theorem d_R_init_114 : decode b_R_init 114 = .ok (.newarray .int, 2) := by decide +kernel
theorem d_R_init_116 : decode b_R_init 116 = .ok (.putfield 49, 3) := by decide +kernel
theorem d_R_init_119 : decode b_R_init 119 = .ok (.aload_n 0, 1) := by decide +kernel
theorem d_R_init_120 : decode b_R_init 120 = .ok (.sipush 256, 3) := by decide +kernel
theorem d_R_init_123 : decode b_R_init 123 = .ok (.newarray .int, 2) := by decide +kernel
theorem d_R_init_125 : decode b_R_init 125 = .ok (.putfield 52, 3) := by decide +kernel
theorem d_R_init_128 : decode b_R_init 128 = .ok (.aload_n 0, 1) := by decide +kernel
theorem d_R_init_129 : decode b_R_init 129 = .ok (.bipush 8, 2) := by decide +kernel
theorem d_R_init_131 : decode b_R_init 131 = .ok (.newarray .int, 2) := by decide +kernel
theorem d_R_init_133 : decode b_R_init 133 = .ok (.putfield 55, 3) := by decide +kernel
theorem d_R_init_136 : decode b_R_init 136 = .ok (.aload_n 0, 1) := by decide +kernel
theorem d_R_init_137 : decode b_R_init 137 = .ok (.bipush 8, 2) := by decide +kernel
theorem d_R_init_139 : decode b_R_init 139 = .ok (.newarray .int, 2) := by decide +kernel
theorem d_R_init_141 : decode b_R_init 141 = .ok (.putfield 58, 3) := by decide +kernel
theorem d_R_init_144 : decode b_R_init 144 = .ok (.aload_n 0, 1) := by decide +kernel
theorem d_R_init_145 : decode b_R_init 145 = .ok (.bipush 80, 2) := by decide +kernel
theorem d_R_init_147 : decode b_R_init 147 = .ok (.newarray .byte, 2) := by decide +kernel
theorem d_R_init_149 : decode b_R_init 149 = .ok (.putfield 61, 3) := by decide +kernel
theorem d_R_init_152 : decode b_R_init 152 = .ok (.aload_n 0, 1) := by decide +kernel
theorem d_R_init_153 : decode b_R_init 153 = .ok (.bipush 64, 2) := by decide +kernel
theorem d_R_init_155 : decode b_R_init 155 = .ok (.newarray .int, 2) := by decide +kernel
theorem d_R_init_157 : decode b_R_init 157 = .ok (.putfield 64, 3) := by decide +kernel
theorem d_R_init_160 : decode b_R_init 160 = .ok (.aload_n 0, 1) := by decide +kernel
theorem d_R_init_161 : decode b_R_init 161 = .ok (.getfield 7, 3) := by decide +kernel
theorem d_R_init_164 : decode b_R_init 164 = .ok (.bipush 58, 2) := by decide +kernel
theorem d_R_init_166 : decode b_R_init 166 = .ok (.sipush 1000, 3) := by decide +kernel
theorem d_R_init_169 : decode b_R_init 169 = .ok (.iastore, 1) := by decide +kernel
theorem d_R_init_170 : decode b_R_init 170 = .ok (.aload_n 0, 1) := by decide +kernel
theorem d_R_init_171 : decode b_R_init 171 = .ok (.getfield 7, 3) := by decide +kernel
theorem d_R_init_174 : decode b_R_init 174 = .ok (.sipush 318, 3) := by decide +kernel
theorem d_R_init_177 : decode b_R_init 177 = .ok (.iconst (-1), 1) := by decide +kernel
theorem d_R_init_178 : decode b_R_init 178 = .ok (.iastore, 1) := by decide +kernel
theorem d_R_init_179 : decode b_R_init 179 = .ok (.return_, 1) := by decide +kernel
theorem mi_E_init : mI y_E_init b_E_init 1 := ⟨k_278, k_277, k_98, rfl, by decide +kernel, by decide +kernel, by decide +kernel⟩
abbrev w_G (G : va_G × (Nat → ClassId)) (a : Nat → Nat) : va_W := [(a 0, O_G (0) (0) (1000) (a 4) (a 2) (a 3) (a 1)), (a 1, aI G 16 (fun _ => 0)), (a 2, aI G 16 (fun _ => 0)), (a 3, aI G 16 (fun _ => 0)), (a 4, aI G 8 (fun _ => 0))]
abbrev w_P (G : va_G × (Nat → ClassId)) (a : Nat → Nat) : va_W := [(a 0, O_P (0) (0) (a 2) (a 1)), (a 1, aI G 7 (fun _ => 0)), (a 2, aI G 7 (fun _ => 0))]
abbrev w_T (G : va_G × (Nat → ClassId)) (a : Nat → Nat) : va_W := [(a 0, O_T (0) (a 1) (0) (0) (0) (0)), (a 1, aI G 500 (fun _ => 0))]
abbrev w_U (G : va_G × (Nat → ClassId)) (a : Nat → Nat) : va_W := [(a 0, O_U (a 1) (a 2) (a 3) (0) (-1) (0)), (a 1, O_G (0) (0) (1000) (a 7) (a 5) (a 6) (a 4)), (a 2, O_P (0) (0) (a 9) (a 8)), (a 3, O_T (0) (a 10) (0) (0) (0) (0)), (a 4, aI G 16 (fun _ => 0)), (a 5, aI G 16 (fun _ => 0)), (a 6, aI G 16 (fun _ => 0)), (a 7, aI G 8 (fun _ => 0)), (a 8, aI G 7 (fun _ => 0)), (a 9, aI G 7 (fun _ => 0)), (a 10, aI G 500 (fun _ => 0))]
abbrev w_Q (G : va_G × (Nat → ClassId)) (a : Nat → Nat) : va_W := [(a 0, O_Q (0) (0) (a 1) (0) (0) (0)), (a 1, O_G (0) (0) (1000) (a 5) (a 3) (a 4) (a 2)), (a 2, aI G 16 (fun _ => 0)), (a 3, aI G 16 (fun _ => 0)), (a 4, aI G 16 (fun _ => 0)), (a 5, aI G 8 (fun _ => 0))]
abbrev w_L (G : va_G × (Nat → ClassId)) (a : Nat → Nat) : va_W := [(a 0, O_L (0) (0) (0) (a 1) (a 3) (0) (a 2) (0) (0)), (a 1, aI G 256 (fun _ => 0)), (a 2, aI G 8 (fun _ => 0)), (a 3, aI G 501 (fun _ => 0))]
abbrev w_S (G : va_G × (Nat → ClassId)) (a : Nat → Nat) : va_W := [(a 0, O_S (0) (0) (0) (0) (0) (a 6) (a 1) (a 2) (0) (a 3) (a 5) (a 4)), (a 1, aZ G 256 (fun _ => 0)), (a 2, aZ G 256 (fun _ => 0)), (a 3, aI G 256 (fun _ => 0)), (a 4, aI G 256 (fun _ => 0)), (a 5, aI G 256 (fun _ => 0)), (a 6, aJ G 256 (fun _ => 0))]
abbrev w_B (G : va_G × (Nat → ClassId)) (a : Nat → Nat) : va_W := [(a 0, O_B (0) (a 1) (a 2) (a 3)), (a 1, aJ G 256 (fun _ => 0)), (a 2, aI G 256 (fun _ => 0)), (a 3, aI G 256 (fun _ => 0))]
abbrev w_A (G : va_G × (Nat → ClassId)) (a : Nat → Nat) : va_W := [(a 0, O_A (a 2) (a 1) (0) (0) (0)), (a 1, aI G 8 (fun _ => 0)), (a 2, aI G 256 (fun _ => 0))]
abbrev w_V (G : va_G × (Nat → ClassId)) (a : Nat → Nat) : va_W := [(a 0, O_V (a 1) (a 2)), (a 1, O_P (0) (0) (a 4) (a 3)), (a 2, aI G 256 (fun _ => 0)), (a 3, aI G 7 (fun _ => 0)), (a 4, aI G 7 (fun _ => 0))]
abbrev w_J (G : va_G × (Nat → ClassId)) (a : Nat → Nat) : va_W := [(a 0, O_J (a 5) (a 2) (a 7) (a 8) (0) (0) (a 10) (a 9) (a 11) (a 1) (a 3) (a 6) (a 4) (a 15) (a 16) (a 12) (a 14) (a 13)), (a 1, O_B (0) (a 17) (a 18) (a 19)), (a 2, aU G [a 20, a 21, a 22]), (a 3, O_B (0) (a 23) (a 24) (a 25)), (a 4, O_V (a 26) (a 27)), (a 5, O_U (a 28) (a 29) (a 30) (0) (-1) (0)), (a 6, O_A (a 32) (a 31) (0) (0) (0)), (a 7, aG G [a 33, a 34, a 35, a 36, a 37, a 38, a 39, a 40]), (a 8, aP G [a 41, a 42, a 43, a 44, a 45, a 46, a 47, a 48]), (a 9, O_L (0) (0) (0) (a 49) (a 51) (0) (a 50) (0) (0)), (a 10, O_Q (0) (0) (a 52) (0) (0) (0)), (a 11, O_S (0) (0) (0) (0) (0) (a 58) (a 53) (a 54) (0) (a 55) (a 57) (a 56)), (a 12, O_G (0) (0) (1000) (a 62) (a 60) (a 61) (a 59)), (a 13, O_B (0) (a 63) (a 64) (a 65)), (a 14, O_S (0) (0) (0) (0) (0) (a 71) (a 66) (a 67) (0) (a 68) (a 70) (a 69)), (a 15, O_P (0) (0) (a 73) (a 72)), (a 16, aI G 29 (fun _ => 0)), (a 17, aJ G 256 (fun _ => 0)), (a 18, aI G 256 (fun _ => 0)), (a 19, aI G 256 (fun _ => 0)), (a 20, O_U (a 74) (a 75) (a 76) (0) (-1) (0)), (a 21, O_U (a 77) (a 78) (a 79) (0) (-1) (0)), (a 22, O_U (a 80) (a 81) (a 82) (0) (-1) (0)), (a 23, aJ G 256 (fun _ => 0)), (a 24, aI G 256 (fun _ => 0)), (a 25, aI G 256 (fun _ => 0)), (a 26, O_P (0) (0) (a 84) (a 83)), (a 27, aI G 256 (fun _ => 0)), (a 28, O_G (0) (0) (1000) (a 88) (a 86) (a 87) (a 85)), (a 29, O_P (0) (0) (a 90) (a 89)), (a 30, O_T (0) (a 91) (0) (0) (0) (0)), (a 31, aI G 8 (fun _ => 0)), (a 32, aI G 256 (fun _ => 0)), (a 33, O_G (0) (0) (1000) (a 95) (a 93) (a 94) (a 92)), (a 34, O_G (0) (0) (1000) (a 99) (a 97) (a 98) (a 96)), (a 35, O_G (0) (0) (1000) (a 103) (a 101) (a 102) (a 100)), (a 36, O_G (0) (0) (1000) (a 107) (a 105) (a 106) (a 104)), (a 37, O_G (0) (0) (1000) (a 111) (a 109) (a 110) (a 108)), (a 38, O_G (0) (0) (1000) (a 115) (a 113) (a 114) (a 112)), (a 39, O_G (0) (0) (1000) (a 119) (a 117) (a 118) (a 116)), (a 40, O_G (0) (0) (1000) (a 123) (a 121) (a 122) (a 120)), (a 41, O_P (0) (0) (a 125) (a 124)), (a 42, O_P (0) (0) (a 127) (a 126)), (a 43, O_P (0) (0) (a 129) (a 128)), (a 44, O_P (0) (0) (a 131) (a 130)), (a 45, O_P (0) (0) (a 133) (a 132)), (a 46, O_P (0) (0) (a 135) (a 134)), (a 47, O_P (0) (0) (a 137) (a 136)), (a 48, O_P (0) (0) (a 139) (a 138)), (a 49, aI G 256 (fun _ => 0)), (a 50, aI G 8 (fun _ => 0)), (a 51, aI G 501 (fun _ => 0)), (a 52, O_G (0) (0) (1000) (a 143) (a 141) (a 142) (a 140)), (a 53, aZ G 256 (fun _ => 0)), (a 54, aZ G 256 (fun _ => 0)), (a 55, aI G 256 (fun _ => 0)), (a 56, aI G 256 (fun _ => 0)), (a 57, aI G 256 (fun _ => 0)), (a 58, aJ G 256 (fun _ => 0)), (a 59, aI G 16 (fun _ => 0)), (a 60, aI G 16 (fun _ => 0)), (a 61, aI G 16 (fun _ => 0)), (a 62, aI G 8 (fun _ => 0)), (a 63, aJ G 256 (fun _ => 0)), (a 64, aI G 256 (fun _ => 0)), (a 65, aI G 256 (fun _ => 0)), (a 66, aZ G 256 (fun _ => 0)), (a 67, aZ G 256 (fun _ => 0)), (a 68, aI G 256 (fun _ => 0)), (a 69, aI G 256 (fun _ => 0)), (a 70, aI G 256 (fun _ => 0)), (a 71, aJ G 256 (fun _ => 0)), (a 72, aI G 7 (fun _ => 0)), (a 73, aI G 7 (fun _ => 0)), (a 74, O_G (0) (0) (1000) (a 147) (a 145) (a 146) (a 144)), (a 75, O_P (0) (0) (a 149) (a 148)), (a 76, O_T (0) (a 150) (0) (0) (0) (0)), (a 77, O_G (0) (0) (1000) (a 154) (a 152) (a 153) (a 151)), (a 78, O_P (0) (0) (a 156) (a 155)), (a 79, O_T (0) (a 157) (0) (0) (0) (0)), (a 80, O_G (0) (0) (1000) (a 161) (a 159) (a 160) (a 158)), (a 81, O_P (0) (0) (a 163) (a 162)), (a 82, O_T (0) (a 164) (0) (0) (0) (0)), (a 83, aI G 7 (fun _ => 0)), (a 84, aI G 7 (fun _ => 0)), (a 85, aI G 16 (fun _ => 0)), (a 86, aI G 16 (fun _ => 0)), (a 87, aI G 16 (fun _ => 0)), (a 88, aI G 8 (fun _ => 0)), (a 89, aI G 7 (fun _ => 0)), (a 90, aI G 7 (fun _ => 0)), (a 91, aI G 500 (fun _ => 0)), (a 92, aI G 16 (fun _ => 0)), (a 93, aI G 16 (fun _ => 0)), (a 94, aI G 16 (fun _ => 0)), (a 95, aI G 8 (fun _ => 0)), (a 96, aI G 16 (fun _ => 0)), (a 97, aI G 16 (fun _ => 0)), (a 98, aI G 16 (fun _ => 0)), (a 99, aI G 8 (fun _ => 0)), (a 100, aI G 16 (fun _ => 0)), (a 101, aI G 16 (fun _ => 0)), (a 102, aI G 16 (fun _ => 0)), (a 103, aI G 8 (fun _ => 0)), (a 104, aI G 16 (fun _ => 0)), (a 105, aI G 16 (fun _ => 0)), (a 106, aI G 16 (fun _ => 0)), (a 107, aI G 8 (fun _ => 0)), (a 108, aI G 16 (fun _ => 0)), (a 109, aI G 16 (fun _ => 0)), (a 110, aI G 16 (fun _ => 0)), (a 111, aI G 8 (fun _ => 0)), (a 112, aI G 16 (fun _ => 0)), (a 113, aI G 16 (fun _ => 0)), (a 114, aI G 16 (fun _ => 0)), (a 115, aI G 8 (fun _ => 0)), (a 116, aI G 16 (fun _ => 0)), (a 117, aI G 16 (fun _ => 0)), (a 118, aI G 16 (fun _ => 0)), (a 119, aI G 8 (fun _ => 0)), (a 120, aI G 16 (fun _ => 0)), (a 121, aI G 16 (fun _ => 0)), (a 122, aI G 16 (fun _ => 0)), (a 123, aI G 8 (fun _ => 0)), (a 124, aI G 7 (fun _ => 0)), (a 125, aI G 7 (fun _ => 0)), (a 126, aI G 7 (fun _ => 0)), (a 127, aI G 7 (fun _ => 0)), (a 128, aI G 7 (fun _ => 0)), (a 129, aI G 7 (fun _ => 0)), (a 130, aI G 7 (fun _ => 0)), (a 131, aI G 7 (fun _ => 0)), (a 132, aI G 7 (fun _ => 0)), (a 133, aI G 7 (fun _ => 0)), (a 134, aI G 7 (fun _ => 0)), (a 135, aI G 7 (fun _ => 0)), (a 136, aI G 7 (fun _ => 0)), (a 137, aI G 7 (fun _ => 0)), (a 138, aI G 7 (fun _ => 0)), (a 139, aI G 7 (fun _ => 0)), (a 140, aI G 16 (fun _ => 0)), (a 141, aI G 16 (fun _ => 0)), (a 142, aI G 16 (fun _ => 0)), (a 143, aI G 8 (fun _ => 0)), (a 144, aI G 16 (fun _ => 0)), (a 145, aI G 16 (fun _ => 0)), (a 146, aI G 16 (fun _ => 0)), (a 147, aI G 8 (fun _ => 0)), (a 148, aI G 7 (fun _ => 0)), (a 149, aI G 7 (fun _ => 0)), (a 150, aI G 500 (fun _ => 0)), (a 151, aI G 16 (fun _ => 0)), (a 152, aI G 16 (fun _ => 0)), (a 153, aI G 16 (fun _ => 0)), (a 154, aI G 8 (fun _ => 0)), (a 155, aI G 7 (fun _ => 0)), (a 156, aI G 7 (fun _ => 0)), (a 157, aI G 500 (fun _ => 0)), (a 158, aI G 16 (fun _ => 0)), (a 159, aI G 16 (fun _ => 0)), (a 160, aI G 16 (fun _ => 0)), (a 161, aI G 8 (fun _ => 0)), (a 162, aI G 7 (fun _ => 0)), (a 163, aI G 7 (fun _ => 0)), (a 164, aI G 500 (fun _ => 0))]
abbrev w_R (G : va_G × (Nat → ClassId)) (a : Nat → Nat) : va_W := [(a 0, O_R (0) (a 1) (a 15) (a 13) (a 18) (0) (0) (0) (0) (0) (0) (0) (0) (0) (0) (0) (a 16) (0) (0) (a 12) (0) (a 9) (0) (0) (0) (a 14) (a 5) (a 6) (a 2) (a 3) (a 4) (a 11) (a 17) (0) (a 8) (0) (0) (0) (0) (0) (0) (a 10) (0) (a 7)), (a 1, aI G 1276 (upd (upd (fun _ => 0) (58 : Int32).toNatClampNeg 1000) (318 : Int32).toNatClampNeg (-1))), (a 2, aJ G 512 (fun _ => 0)), (a 3, aI G 512 (fun _ => 0)), (a 4, aI G 512 (fun _ => 0)), (a 5, aZ G 256 (fun _ => 0)), (a 6, aZ G 256 (fun _ => 0)), (a 7, aI G 64 (fun _ => 0)), (a 8, aI G 8 (fun _ => 0)), (a 9, aI G 502 (fun _ => 0)), (a 10, aB G 80 (fun _ => 0)), (a 11, aI G 256 (fun _ => 0)), (a 12, aI G 502 (fun _ => 0)), (a 13, aZ G 3 (fun _ => 0)), (a 14, aJ G 256 (fun _ => 0)), (a 15, aB G 2000 (fun _ => 0)), (a 16, aI G 316 (fun _ => 0)), (a 17, aI G 8 (fun _ => 0)), (a 18, aI G 2528 (fun _ => 0))]
theorem mi_G_init : mI y_G_init b_G_init 1 := ⟨k_136, k_135, k_95, rfl, by decide +kernel, by decide +kernel, by decide +kernel⟩
theorem mi_P_init : mI y_P_init b_P_init 1 := ⟨k_182, k_181, k_96, rfl, by decide +kernel, by decide +kernel, by decide +kernel⟩
theorem mi_T_init : mI y_T_init b_T_init 1 := ⟨k_212, k_211, k_97, rfl, by decide +kernel, by decide +kernel, by decide +kernel⟩
theorem mi_U_init : mI y_U_init b_U_init 1 := ⟨k_130, k_129, k_94, rfl, by decide +kernel, by decide +kernel, by decide +kernel⟩
theorem mi_Q_init : mI y_Q_init b_Q_init 1 := ⟨k_275, k_274, k_99, rfl, by decide +kernel, by decide +kernel, by decide +kernel⟩
theorem mi_L_init : mI y_L_init b_L_init 1 := ⟨k_308, k_307, k_100, rfl, by decide +kernel, by decide +kernel, by decide +kernel⟩
theorem mi_S_init : mI y_S_init b_S_init 1 := ⟨k_340, k_339, k_101, rfl, by decide +kernel, by decide +kernel, by decide +kernel⟩
theorem mi_B_init : mI y_B_init b_B_init 1 := ⟨k_396, k_395, k_102, rfl, by decide +kernel, by decide +kernel, by decide +kernel⟩
theorem mi_A_init : mI y_A_init b_A_init 1 := ⟨k_419, k_418, k_103, rfl, by decide +kernel, by decide +kernel, by decide +kernel⟩
theorem mi_V_init : mI y_V_init b_V_init 1 := ⟨k_442, k_441, k_104, rfl, by decide +kernel, by decide +kernel, by decide +kernel⟩
theorem mi_J_init : mI y_J_init b_J_init 2 := ⟨k_122, k_121, k_93, rfl, by decide +kernel, by decide +kernel, by decide +kernel⟩
theorem mi_R_init : mI y_R_init b_R_init 1 := ⟨k_1194, k_1193, k_105, rfl, by decide +kernel, by decide +kernel, by decide +kernel⟩
theorem df_G : ∀ j, j < 7 → defaultValue (ty_G j) = vp_V [.int 0, .int 0, .int 0, .null, .null, .null, .null] j := by decide +kernel
theorem df_P : ∀ j, j < 4 → defaultValue (ty_P j) = vp_V [.int 0, .int 0, .null, .null] j := by decide +kernel
theorem df_T : ∀ j, j < 6 → defaultValue (ty_T j) = vp_V [.int 0, .null, .int 0, .int 0, .int 0, .int 0] j := by decide +kernel
theorem df_U : ∀ j, j < 6 → defaultValue (ty_U j) = vp_V [.null, .null, .null, .int 0, .int 0, .int 0] j := by decide +kernel
theorem df_Q : ∀ j, j < 6 → defaultValue (ty_Q j) = vp_V [.int 0, .int 0, .null, .int 0, .int 0, .int 0] j := by decide +kernel
theorem df_L : ∀ j, j < 9 → defaultValue (ty_L j) = vp_V [.int 0, .int 0, .int 0, .null, .null, .int 0, .null, .int 0, .int 0] j := by decide +kernel
theorem df_S : ∀ j, j < 12 → defaultValue (ty_S j) = vp_V [.int 0, .int 0, .int 0, .int 0, .int 0, .null, .null, .null, .int 0, .null, .null, .null] j := by decide +kernel
theorem df_B : ∀ j, j < 4 → defaultValue (ty_B j) = vp_V [.int 0, .null, .null, .null] j := by decide +kernel
theorem df_A : ∀ j, j < 5 → defaultValue (ty_A j) = vp_V [.null, .null, .int 0, .int 0, .int 0] j := by decide +kernel
theorem df_V : ∀ j, j < 2 → defaultValue (ty_V j) = vp_V [.null, .null] j := by decide +kernel
theorem df_J : ∀ j, j < 18 → defaultValue (ty_J j) = vp_V [.null, .null, .null, .null, .int 0, .int 0, .null, .null, .null, .null, .null, .null, .null, .null, .null, .null, .null, .null] j := by decide +kernel
theorem df_R : ∀ j, j < 44 → defaultValue (ty_R j) = vp_V [.int 0, .null, .null, .null, .null, .int 0, .int 0, .int 0, .int 0, .int 0, .int 0, .int 0, .long 0, .int 0, .int 0, .int 0, .null, .int 0, .int 0, .null, .int 0, .null, .int 0, .int 0, .int 0, .null, .null, .null, .null, .null, .null, .null, .null, .int 0, .null, .int 0, .int 0, .int 0, .int 0, .int 0, .int 0, .null, .int 0, .null] j := by decide +kernel
set_option maxRecDepth 100000 in
theorem n_E_init (l : Launch) (G : va_G × (Nat → ClassId)) (E : va_E) : Cn l classes y_E_init b_E_init 1 (rmc 1 0 0) G.1 (tyL G) (fun _ => True) E (fun a => [(a 0, E)]) 0 0 := by
  refine entC (by decide) rfl (Nat.le_of_ble_eq_true rfl) ?_
  intro h0 p e s m args below meth c ls A Q hx hb hml hown htl hK hX hin hA hP hD hS hl hret
  refine lv_aload_n hx hb d_E_init_0 rfl (lv_at hl 0 rfl) ?_
  refine W.objInit hx hb hown (htl _ k_279) (htl _ k_124) (htl _ k_125) rfl (by rw [hml]; exact hl.1) rfl d_E_init_1 (Nat.le_of_ble_eq_true rfl) (Nat.le_of_ble_eq_true rfl) ?_
  refine W.eq (g2 := F0 m 4 ls []) rfl ?_
  exact hret 4 ls _ _ (fun _ => 0) hP hD hS d_E_init_4
set_option maxHeartbeats 4000000 in
set_option maxRecDepth 100000 in
theorem n_G_init (l : Launch) (G : va_G × (Nat → ClassId)) : Cn l classes y_G_init b_G_init 1 (rmc 1 4 56) G.1 (tyL G) (fun _ => True) (.inr (1, [.int 0, .int 0, .int 0, .null, .null, .null, .null])) (w_G G) 4 56 := by
  refine entC (by decide) rfl (Nat.le_of_ble_eq_true rfl) ?_
  intro h0 p e s m args below meth c ls A Q hx hb hml hown htl hK hX hin hA hP hD hS hl hret
  obtain ⟨dz0, hdz0⟩ : ∃ z : va_W, z = [] := ⟨_, rfl⟩
  have hP : va_P G.1 classes ((h0, .inr (1, [.int 0, .int 0, .int 0, .null, .null, .null, .null])) :: dz0) s.heap := by rw [hdz0]; exact hP
  have hD : va_D A ((h0, .inr (1, [.int 0, .int 0, .int 0, .null, .null, .null, .null])) :: dz0) := by rw [hdz0]; exact hD
  refine lv_aload_n hx hb d_G_init_0 rfl (lv_at hl 0 rfl) ?_
  refine W.objInit hx hb hown (htl _ k_137) (htl _ k_124) (htl _ k_125) rfl (by rw [hml]; exact hl.1) rfl d_G_init_1 (Nat.le_of_ble_eq_true rfl) (Nat.le_of_ble_eq_true rfl) ?_
  refine W.eq (g2 := F0 m 4 ls []) rfl ?_
  refine lv_aload_n hx hb d_G_init_4 rfl (lv_at hl 0 rfl) ?_
  refine lv_sipush (v := (1000 : Int32)) hx hb d_G_init_5 (by decide) ?_
  refine va_put (D := G.1) (ci := 1) (v := .int (1000 : Int32)) (ty := .int) (C := n_G) (T := T_G) (N := 7) hx hb htl iw_G ty_G ty_G_ok nm_G hown hK hP hD hS 0 rfl rfl 2 (by decide) (htl _ k_147) (fun _ h9 => h9) rfl (by decide +kernel) rfl rfl (Nat.le_of_ble_eq_true rfl) d_G_init_8 (fun H locs hP hD hS => ?_)
  have hP : va_P G.1 classes ((h0, .inr (1, [.int 0, .int 0, .int (1000 : Int32), .null, .null, .null, .null])) :: dz0) H := hP
  have hD : va_D A ((h0, .inr (1, [.int 0, .int 0, .int (1000 : Int32), .null, .null, .null, .null])) :: dz0) := hD
  refine lv_aload_n hx hb d_G_init_11 rfl (lv_at hl 0 rfl) ?_
  refine lv_bipush (v := (8 : Int32)) hx hb d_G_init_12 (by decide) ?_
  refine newA (atype := .int) (a0 := (8, .inl (fun _ => 0))) hx hb (htl _ k_177) rfl hK 1 rfl hP hD hS hA (fun _ => rfl) (by decide) (by decide) (by decide) (Nat.le_of_ble_eq_true rfl) (Nat.le_of_ble_eq_true rfl) d_G_init_14 (fun q1 H hP hD hS => ?_)
  refine W.widen (k := 1) (n := 8) (Nat.le_of_ble_eq_true rfl) (Nat.le_of_ble_eq_true rfl) ?_
  have hP : va_P G.1 classes ((q1, aI G 8 (fun _ => 0)) :: (h0, .inr (1, [.int 0, .int 0, .int (1000 : Int32), .null, .null, .null, .null])) :: dz0) H := hP
  have hD : va_D A ((q1, aI G 8 (fun _ => 0)) :: (h0, .inr (1, [.int 0, .int 0, .int (1000 : Int32), .null, .null, .null, .null])) :: dz0) := hD
  refine va_putF (D := G.1) (ci := 1) (v := .ref q1) (ty := .array .int) (C := n_G) (T := T_G) (N := 7) hx hb htl iw_G ty_G ty_G_ok nm_G hown hK hP hD hS 1 rfl rfl 3 (by decide) (htl _ k_150) (fun _ h9 => h9) rfl hin rfl (by decide +kernel) rfl rfl (Nat.le_of_ble_eq_true rfl) d_G_init_16 (fun H locs hP hD hS => ?_)
  have hP : va_P G.1 classes ((q1, aI G 8 (fun _ => 0)) :: (h0, .inr (1, [.int 0, .int 0, .int (1000 : Int32), .ref q1, .null, .null, .null])) :: dz0) H := hP
  have hD : va_D A ((q1, aI G 8 (fun _ => 0)) :: (h0, .inr (1, [.int 0, .int 0, .int (1000 : Int32), .ref q1, .null, .null, .null])) :: dz0) := hD
  refine lv_aload_n hx hb d_G_init_19 rfl (lv_at hl 0 rfl) ?_
  refine lv_bipush (v := (16 : Int32)) hx hb d_G_init_20 (by decide) ?_
  refine newA (atype := .int) (a0 := (16, .inl (fun _ => 0))) hx hb (htl _ k_177) rfl hK 1 rfl hP hD hS hA (fun _ => rfl) (by decide) (by decide) (by decide) (Nat.le_of_ble_eq_true rfl) (Nat.le_of_ble_eq_true rfl) d_G_init_22 (fun q2 H hP hD hS => ?_)
  refine W.widen (k := 2) (n := 24) (Nat.le_of_ble_eq_true rfl) (Nat.le_of_ble_eq_true rfl) ?_
  have hP : va_P G.1 classes ((q2, aI G 16 (fun _ => 0)) :: (q1, aI G 8 (fun _ => 0)) :: (h0, .inr (1, [.int 0, .int 0, .int (1000 : Int32), .ref q1, .null, .null, .null])) :: dz0) H := hP
  have hD : va_D A ((q2, aI G 16 (fun _ => 0)) :: (q1, aI G 8 (fun _ => 0)) :: (h0, .inr (1, [.int 0, .int 0, .int (1000 : Int32), .ref q1, .null, .null, .null])) :: dz0) := hD
  refine va_putF (D := G.1) (ci := 1) (v := .ref q2) (ty := .array .int) (C := n_G) (T := T_G) (N := 7) hx hb htl iw_G ty_G ty_G_ok nm_G hown hK hP hD hS 2 rfl rfl 4 (by decide) (htl _ k_153) (fun _ h9 => h9) rfl hin rfl (by decide +kernel) rfl rfl (Nat.le_of_ble_eq_true rfl) d_G_init_24 (fun H locs hP hD hS => ?_)
  have hP : va_P G.1 classes ((q2, aI G 16 (fun _ => 0)) :: (q1, aI G 8 (fun _ => 0)) :: (h0, .inr (1, [.int 0, .int 0, .int (1000 : Int32), .ref q1, .ref q2, .null, .null])) :: dz0) H := hP
  have hD : va_D A ((q2, aI G 16 (fun _ => 0)) :: (q1, aI G 8 (fun _ => 0)) :: (h0, .inr (1, [.int 0, .int 0, .int (1000 : Int32), .ref q1, .ref q2, .null, .null])) :: dz0) := hD
  refine lv_aload_n hx hb d_G_init_27 rfl (lv_at hl 0 rfl) ?_
  refine lv_bipush (v := (16 : Int32)) hx hb d_G_init_28 (by decide) ?_
  refine newA (atype := .int) (a0 := (16, .inl (fun _ => 0))) hx hb (htl _ k_177) rfl hK 1 rfl hP hD hS hA (fun _ => rfl) (by decide) (by decide) (by decide) (Nat.le_of_ble_eq_true rfl) (Nat.le_of_ble_eq_true rfl) d_G_init_30 (fun q3 H hP hD hS => ?_)
  refine W.widen (k := 3) (n := 40) (Nat.le_of_ble_eq_true rfl) (Nat.le_of_ble_eq_true rfl) ?_
  have hP : va_P G.1 classes ((q3, aI G 16 (fun _ => 0)) :: (q2, aI G 16 (fun _ => 0)) :: (q1, aI G 8 (fun _ => 0)) :: (h0, .inr (1, [.int 0, .int 0, .int (1000 : Int32), .ref q1, .ref q2, .null, .null])) :: dz0) H := hP
  have hD : va_D A ((q3, aI G 16 (fun _ => 0)) :: (q2, aI G 16 (fun _ => 0)) :: (q1, aI G 8 (fun _ => 0)) :: (h0, .inr (1, [.int 0, .int 0, .int (1000 : Int32), .ref q1, .ref q2, .null, .null])) :: dz0) := hD
  refine va_putF (D := G.1) (ci := 1) (v := .ref q3) (ty := .array .int) (C := n_G) (T := T_G) (N := 7) hx hb htl iw_G ty_G ty_G_ok nm_G hown hK hP hD hS 3 rfl rfl 5 (by decide) (htl _ k_156) (fun _ h9 => h9) rfl hin rfl (by decide +kernel) rfl rfl (Nat.le_of_ble_eq_true rfl) d_G_init_32 (fun H locs hP hD hS => ?_)
  have hP : va_P G.1 classes ((q3, aI G 16 (fun _ => 0)) :: (q2, aI G 16 (fun _ => 0)) :: (q1, aI G 8 (fun _ => 0)) :: (h0, .inr (1, [.int 0, .int 0, .int (1000 : Int32), .ref q1, .ref q2, .ref q3, .null])) :: dz0) H := hP
  have hD : va_D A ((q3, aI G 16 (fun _ => 0)) :: (q2, aI G 16 (fun _ => 0)) :: (q1, aI G 8 (fun _ => 0)) :: (h0, .inr (1, [.int 0, .int 0, .int (1000 : Int32), .ref q1, .ref q2, .ref q3, .null])) :: dz0) := hD
  refine lv_aload_n hx hb d_G_init_35 rfl (lv_at hl 0 rfl) ?_
  refine lv_bipush (v := (16 : Int32)) hx hb d_G_init_36 (by decide) ?_
  refine newA (atype := .int) (a0 := (16, .inl (fun _ => 0))) hx hb (htl _ k_177) rfl hK 1 rfl hP hD hS hA (fun _ => rfl) (by decide) (by decide) (by decide) (Nat.le_of_ble_eq_true rfl) (Nat.le_of_ble_eq_true rfl) d_G_init_38 (fun q4 H hP hD hS => ?_)
  refine W.widen (k := 4) (n := 56) (Nat.le_of_ble_eq_true rfl) (Nat.le_of_ble_eq_true rfl) ?_
  have hP : va_P G.1 classes ((q4, aI G 16 (fun _ => 0)) :: (q3, aI G 16 (fun _ => 0)) :: (q2, aI G 16 (fun _ => 0)) :: (q1, aI G 8 (fun _ => 0)) :: (h0, .inr (1, [.int 0, .int 0, .int (1000 : Int32), .ref q1, .ref q2, .ref q3, .null])) :: dz0) H := hP
  have hD : va_D A ((q4, aI G 16 (fun _ => 0)) :: (q3, aI G 16 (fun _ => 0)) :: (q2, aI G 16 (fun _ => 0)) :: (q1, aI G 8 (fun _ => 0)) :: (h0, .inr (1, [.int 0, .int 0, .int (1000 : Int32), .ref q1, .ref q2, .ref q3, .null])) :: dz0) := hD
  refine va_putF (D := G.1) (ci := 1) (v := .ref q4) (ty := .array .int) (C := n_G) (T := T_G) (N := 7) hx hb htl iw_G ty_G ty_G_ok nm_G hown hK hP hD hS 4 rfl rfl 6 (by decide) (htl _ k_159) (fun _ h9 => h9) rfl hin rfl (by decide +kernel) rfl rfl (Nat.le_of_ble_eq_true rfl) d_G_init_40 (fun H locs hP hD hS => ?_)
  have hP : va_P G.1 classes ((q4, aI G 16 (fun _ => 0)) :: (q3, aI G 16 (fun _ => 0)) :: (q2, aI G 16 (fun _ => 0)) :: (q1, aI G 8 (fun _ => 0)) :: (h0, .inr (1, [.int 0, .int 0, .int (1000 : Int32), .ref q1, .ref q2, .ref q3, .ref q4])) :: dz0) H := hP
  have hD : va_D A ((q4, aI G 16 (fun _ => 0)) :: (q3, aI G 16 (fun _ => 0)) :: (q2, aI G 16 (fun _ => 0)) :: (q1, aI G 8 (fun _ => 0)) :: (h0, .inr (1, [.int 0, .int 0, .int (1000 : Int32), .ref q1, .ref q2, .ref q3, .ref q4])) :: dz0) := hD
  rw [hdz0] at hP hD
  exact hret 43 ls _ _ (fun i => [q4, q2, q3, q1].getD i 0) (hP.sub [4, 0, 2, 1, 3] rfl) (hD.sub [4, 0, 2, 1, 3] (by decide +kernel) rfl) hS d_G_init_43
set_option maxHeartbeats 4000000 in
set_option maxRecDepth 100000 in
theorem n_P_init (l : Launch) (G : va_G × (Nat → ClassId)) : Cn l classes y_P_init b_P_init 1 (rmc 1 2 14) G.1 (tyL G) (fun _ => True) (.inr (4, [.int 0, .int 0, .null, .null])) (w_P G) 2 14 := by
  refine entC (by decide) rfl (Nat.le_of_ble_eq_true rfl) ?_
  intro h0 p e s m args below meth c ls A Q hx hb hml hown htl hK hX hin hA hP hD hS hl hret
  obtain ⟨dz0, hdz0⟩ : ∃ z : va_W, z = [] := ⟨_, rfl⟩
  have hP : va_P G.1 classes ((h0, .inr (4, [.int 0, .int 0, .null, .null])) :: dz0) s.heap := by rw [hdz0]; exact hP
  have hD : va_D A ((h0, .inr (4, [.int 0, .int 0, .null, .null])) :: dz0) := by rw [hdz0]; exact hD
  refine lv_aload_n hx hb d_P_init_0 rfl (lv_at hl 0 rfl) ?_
  refine W.objInit hx hb hown (htl _ k_183) (htl _ k_124) (htl _ k_125) rfl (by rw [hml]; exact hl.1) rfl d_P_init_1 (Nat.le_of_ble_eq_true rfl) (Nat.le_of_ble_eq_true rfl) ?_
  refine W.eq (g2 := F0 m 4 ls []) rfl ?_
  refine lv_aload_n hx hb d_P_init_4 rfl (lv_at hl 0 rfl) ?_
  refine lv_bipush (v := (7 : Int32)) hx hb d_P_init_5 (by decide) ?_
  refine newA (atype := .int) (a0 := (7, .inl (fun _ => 0))) hx hb (htl _ k_177) rfl hK 1 rfl hP hD hS hA (fun _ => rfl) (by decide) (by decide) (by decide) (Nat.le_of_ble_eq_true rfl) (Nat.le_of_ble_eq_true rfl) d_P_init_7 (fun q1 H hP hD hS => ?_)
  refine W.widen (k := 1) (n := 7) (Nat.le_of_ble_eq_true rfl) (Nat.le_of_ble_eq_true rfl) ?_
  have hP : va_P G.1 classes ((q1, aI G 7 (fun _ => 0)) :: (h0, .inr (4, [.int 0, .int 0, .null, .null])) :: dz0) H := hP
  have hD : va_D A ((q1, aI G 7 (fun _ => 0)) :: (h0, .inr (4, [.int 0, .int 0, .null, .null])) :: dz0) := hD
  refine va_putF (D := G.1) (ci := 4) (v := .ref q1) (ty := .array .int) (C := n_P) (T := T_P) (N := 4) hx hb htl iw_P ty_P ty_P_ok nm_P hown hK hP hD hS 1 rfl rfl 2 (by decide) (htl _ k_191) (fun _ h9 => h9) rfl hin rfl (by decide +kernel) rfl rfl (Nat.le_of_ble_eq_true rfl) d_P_init_9 (fun H locs hP hD hS => ?_)
  have hP : va_P G.1 classes ((q1, aI G 7 (fun _ => 0)) :: (h0, .inr (4, [.int 0, .int 0, .ref q1, .null])) :: dz0) H := hP
  have hD : va_D A ((q1, aI G 7 (fun _ => 0)) :: (h0, .inr (4, [.int 0, .int 0, .ref q1, .null])) :: dz0) := hD
  refine lv_aload_n hx hb d_P_init_12 rfl (lv_at hl 0 rfl) ?_
  refine lv_bipush (v := (7 : Int32)) hx hb d_P_init_13 (by decide) ?_
  refine newA (atype := .int) (a0 := (7, .inl (fun _ => 0))) hx hb (htl _ k_177) rfl hK 1 rfl hP hD hS hA (fun _ => rfl) (by decide) (by decide) (by decide) (Nat.le_of_ble_eq_true rfl) (Nat.le_of_ble_eq_true rfl) d_P_init_15 (fun q2 H hP hD hS => ?_)
  refine W.widen (k := 2) (n := 14) (Nat.le_of_ble_eq_true rfl) (Nat.le_of_ble_eq_true rfl) ?_
  have hP : va_P G.1 classes ((q2, aI G 7 (fun _ => 0)) :: (q1, aI G 7 (fun _ => 0)) :: (h0, .inr (4, [.int 0, .int 0, .ref q1, .null])) :: dz0) H := hP
  have hD : va_D A ((q2, aI G 7 (fun _ => 0)) :: (q1, aI G 7 (fun _ => 0)) :: (h0, .inr (4, [.int 0, .int 0, .ref q1, .null])) :: dz0) := hD
  refine va_putF (D := G.1) (ci := 4) (v := .ref q2) (ty := .array .int) (C := n_P) (T := T_P) (N := 4) hx hb htl iw_P ty_P ty_P_ok nm_P hown hK hP hD hS 2 rfl rfl 3 (by decide) (htl _ k_195) (fun _ h9 => h9) rfl hin rfl (by decide +kernel) rfl rfl (Nat.le_of_ble_eq_true rfl) d_P_init_17 (fun H locs hP hD hS => ?_)
  have hP : va_P G.1 classes ((q2, aI G 7 (fun _ => 0)) :: (q1, aI G 7 (fun _ => 0)) :: (h0, .inr (4, [.int 0, .int 0, .ref q1, .ref q2])) :: dz0) H := hP
  have hD : va_D A ((q2, aI G 7 (fun _ => 0)) :: (q1, aI G 7 (fun _ => 0)) :: (h0, .inr (4, [.int 0, .int 0, .ref q1, .ref q2])) :: dz0) := hD
  rw [hdz0] at hP hD
  exact hret 20 ls _ _ (fun i => [q2, q1].getD i 0) (hP.sub [2, 0, 1] rfl) (hD.sub [2, 0, 1] (by decide +kernel) rfl) hS d_P_init_20
set_option maxHeartbeats 4000000 in
set_option maxRecDepth 100000 in
theorem n_T_init (l : Launch) (G : va_G × (Nat → ClassId)) : Cn l classes y_T_init b_T_init 1 (rmc 1 1 500) G.1 (tyL G) (fun _ => True) (.inr (10, [.int 0, .null, .int 0, .int 0, .int 0, .int 0])) (w_T G) 1 500 := by
  refine entC (by decide) rfl (Nat.le_of_ble_eq_true rfl) ?_
  intro h0 p e s m args below meth c ls A Q hx hb hml hown htl hK hX hin hA hP hD hS hl hret
  obtain ⟨dz0, hdz0⟩ : ∃ z : va_W, z = [] := ⟨_, rfl⟩
  have hP : va_P G.1 classes ((h0, .inr (10, [.int 0, .null, .int 0, .int 0, .int 0, .int 0])) :: dz0) s.heap := by rw [hdz0]; exact hP
  have hD : va_D A ((h0, .inr (10, [.int 0, .null, .int 0, .int 0, .int 0, .int 0])) :: dz0) := by rw [hdz0]; exact hD
  refine lv_aload_n hx hb d_T_init_0 rfl (lv_at hl 0 rfl) ?_
  refine W.objInit hx hb hown (htl _ k_213) (htl _ k_124) (htl _ k_125) rfl (by rw [hml]; exact hl.1) rfl d_T_init_1 (Nat.le_of_ble_eq_true rfl) (Nat.le_of_ble_eq_true rfl) ?_
  refine W.eq (g2 := F0 m 4 ls []) rfl ?_
  refine lv_aload_n hx hb d_T_init_4 rfl (lv_at hl 0 rfl) ?_
  refine lv_sipush (v := (500 : Int32)) hx hb d_T_init_5 (by decide) ?_
  refine newA (atype := .int) (a0 := (500, .inl (fun _ => 0))) hx hb (htl _ k_177) rfl hK 1 rfl hP hD hS hA (fun _ => rfl) (by decide) (by decide) (by decide) (Nat.le_of_ble_eq_true rfl) (Nat.le_of_ble_eq_true rfl) d_T_init_8 (fun q1 H hP hD hS => ?_)
  refine W.widen (k := 1) (n := 500) (Nat.le_of_ble_eq_true rfl) (Nat.le_of_ble_eq_true rfl) ?_
  have hP : va_P G.1 classes ((q1, aI G 500 (fun _ => 0)) :: (h0, .inr (10, [.int 0, .null, .int 0, .int 0, .int 0, .int 0])) :: dz0) H := hP
  have hD : va_D A ((q1, aI G 500 (fun _ => 0)) :: (h0, .inr (10, [.int 0, .null, .int 0, .int 0, .int 0, .int 0])) :: dz0) := hD
  refine va_putF (D := G.1) (ci := 10) (v := .ref q1) (ty := .array .int) (C := n_T) (T := T_T) (N := 6) hx hb htl iw_T ty_T ty_T_ok nm_T hown hK hP hD hS 1 rfl rfl 1 (by decide) (htl _ k_216) (fun _ h9 => h9) rfl hin rfl (by decide +kernel) rfl rfl (Nat.le_of_ble_eq_true rfl) d_T_init_10 (fun H locs hP hD hS => ?_)
  have hP : va_P G.1 classes ((q1, aI G 500 (fun _ => 0)) :: (h0, .inr (10, [.int 0, .ref q1, .int 0, .int 0, .int 0, .int 0])) :: dz0) H := hP
  have hD : va_D A ((q1, aI G 500 (fun _ => 0)) :: (h0, .inr (10, [.int 0, .ref q1, .int 0, .int 0, .int 0, .int 0])) :: dz0) := hD
  rw [hdz0] at hP hD
  exact hret 13 ls _ _ (fun i => [q1].getD i 0) (hP.sub [1, 0] rfl) (hD.sub [1, 0] (by decide +kernel) rfl) hS d_T_init_13
set_option maxHeartbeats 4000000 in
set_option maxRecDepth 100000 in
theorem n_U_init (l : Launch) (G : va_G × (Nat → ClassId)) : Cn l classes y_U_init b_U_init 1 (rmc 2 10 587) G.1 (tyL G) (fun _ => True) (.inr (9, [.null, .null, .null, .int 0, .int 0, .int 0])) (w_U G) 10 587 := by
  refine entC (by decide) rfl (Nat.le_of_ble_eq_true rfl) ?_
  intro h0 p e s m args below meth c ls A Q hx hb hml hown htl hK hX hin hA hP hD hS hl hret
  obtain ⟨dz0, hdz0⟩ : ∃ z : va_W, z = [] := ⟨_, rfl⟩
  have hP : va_P G.1 classes ((h0, .inr (9, [.null, .null, .null, .int 0, .int 0, .int 0])) :: dz0) s.heap := by rw [hdz0]; exact hP
  have hD : va_D A ((h0, .inr (9, [.null, .null, .null, .int 0, .int 0, .int 0])) :: dz0) := by rw [hdz0]; exact hD
  refine lv_aload_n hx hb d_U_init_0 rfl (lv_at hl 0 rfl) ?_
  refine W.objInit hx hb hown (htl _ k_131) (htl _ k_124) (htl _ k_125) rfl (by rw [hml]; exact hl.1) rfl d_U_init_1 (Nat.le_of_ble_eq_true rfl) (Nat.le_of_ble_eq_true rfl) ?_
  refine W.eq (g2 := F0 m 4 ls []) rfl ?_
  refine lv_aload_n hx hb d_U_init_4 rfl (lv_at hl 0 rfl) ?_
  refine va_new (D := G.1) (ci := 1) (fs := [.int 0, .int 0, .int 0, .null, .null, .null, .null]) (C := n_G) (T := T_G) (N := 7) hx hb htl iw_G ty_G ty_G_ok hown (htl _ k_132) (htl _ k_133) (htl _ k_95) hK hP hD hS hA rfl (df_G) (Nat.le_of_ble_eq_true rfl) (Nat.le_of_ble_eq_true rfl) d_U_init_5 (fun q1 H hP hD hS => ?_)
  refine W.widen (k := 1) (n := 7) (Nat.le_of_ble_eq_true rfl) (Nat.le_of_ble_eq_true rfl) ?_
  have hP := vp_rot hP
  have hD := vd_rot hD
  have hP : va_P G.1 classes ((q1, .inr (1, [.int 0, .int 0, .int 0, .null, .null, .null, .null])) :: (h0, .inr (9, [.null, .null, .null, .int 0, .int 0, .int 0])) :: dz0) H := hP
  have hD : va_D A ((q1, .inr (1, [.int 0, .int 0, .int 0, .null, .null, .null, .null])) :: (h0, .inr (9, [.null, .null, .null, .int 0, .int 0, .int 0])) :: dz0) := hD
  refine lv_dup hx hb d_U_init_8 rfl ?_
  refine callC hx hb hml hown htl (n_G_init l G) xb_t trivial mi_G_init k_134 ⟨rfl, rfl, Nat.le_of_ble_eq_true rfl, Nat.le_of_ble_eq_true rfl, Nat.le_of_ble_eq_true rfl, Nat.le_of_ble_eq_true rfl⟩ hK hA hS hP hD hl.1 (lv_room (Nat.le_of_ble_eq_true rfl)) d_U_init_9 (fun H locs u2 hP hD hS => ?_)
  refine W.widen (k := 5) (n := 63) (Nat.le_of_ble_eq_true rfl) (Nat.le_of_ble_eq_true rfl) ?_
  have hP := vp_mid (a := w_G G (consF q1 u2)) (b := [(h0, .inr (9, [.null, .null, .null, .int 0, .int 0, .int 0]))]) hP
  have hD := vd_mid (a := w_G G (consF q1 u2)) (b := [(h0, .inr (9, [.null, .null, .null, .int 0, .int 0, .int 0]))]) hD
  obtain ⟨dz3, hdz3⟩ : ∃ z : va_W, z = w_G G (consF q1 u2) ++ dz0 := ⟨_, rfl⟩
  rw [← hdz3] at hP hD
  have hP : va_P G.1 classes ((h0, .inr (9, [.null, .null, .null, .int 0, .int 0, .int 0])) :: dz3) H := hP
  have hD : va_D A ((h0, .inr (9, [.null, .null, .null, .int 0, .int 0, .int 0])) :: dz3) := hD
  refine va_putF (D := G.1) (ci := 9) (v := .ref q1) (ty := .object "JoinOrders$Graph") (C := n_U) (T := T_U) (N := 6) hx hb htl iw_U ty_U ty_U_ok nm_U hown hK hP hD hS 0 rfl rfl 0 (by decide) (htl _ k_240) (fun _ h9 => h9) rfl hin rfl (by decide +kernel) rfl rfl (Nat.le_of_ble_eq_true rfl) d_U_init_12 (fun H locs hP hD hS => ?_)
  have hP : va_P G.1 classes ((h0, .inr (9, [.ref q1, .null, .null, .int 0, .int 0, .int 0])) :: dz3) H := hP
  have hD : va_D A ((h0, .inr (9, [.ref q1, .null, .null, .int 0, .int 0, .int 0])) :: dz3) := hD
  refine lv_aload_n hx hb d_U_init_15 rfl (lv_at hl 0 rfl) ?_
  refine va_new (D := G.1) (ci := 4) (fs := [.int 0, .int 0, .null, .null]) (C := n_P) (T := T_P) (N := 4) hx hb htl iw_P ty_P ty_P_ok hown (htl _ k_178) (htl _ k_179) (htl _ k_96) hK hP hD hS hA rfl (df_P) (Nat.le_of_ble_eq_true rfl) (Nat.le_of_ble_eq_true rfl) d_U_init_16 (fun q4 H hP hD hS => ?_)
  refine W.widen (k := 6) (n := 67) (Nat.le_of_ble_eq_true rfl) (Nat.le_of_ble_eq_true rfl) ?_
  have hP := vp_rot hP
  have hD := vd_rot hD
  have hP : va_P G.1 classes ((q4, .inr (4, [.int 0, .int 0, .null, .null])) :: (h0, .inr (9, [.ref q1, .null, .null, .int 0, .int 0, .int 0])) :: dz3) H := hP
  have hD : va_D A ((q4, .inr (4, [.int 0, .int 0, .null, .null])) :: (h0, .inr (9, [.ref q1, .null, .null, .int 0, .int 0, .int 0])) :: dz3) := hD
  refine lv_dup hx hb d_U_init_19 rfl ?_
  refine callC hx hb hml hown htl (n_P_init l G) xb_t trivial mi_P_init k_180 ⟨rfl, rfl, Nat.le_of_ble_eq_true rfl, Nat.le_of_ble_eq_true rfl, Nat.le_of_ble_eq_true rfl, Nat.le_of_ble_eq_true rfl⟩ hK hA hS hP hD hl.1 (lv_room (Nat.le_of_ble_eq_true rfl)) d_U_init_20 (fun H locs u5 hP hD hS => ?_)
  refine W.widen (k := 8) (n := 81) (Nat.le_of_ble_eq_true rfl) (Nat.le_of_ble_eq_true rfl) ?_
  have hP := vp_mid (a := w_P G (consF q4 u5)) (b := [(h0, .inr (9, [.ref q1, .null, .null, .int 0, .int 0, .int 0]))]) hP
  have hD := vd_mid (a := w_P G (consF q4 u5)) (b := [(h0, .inr (9, [.ref q1, .null, .null, .int 0, .int 0, .int 0]))]) hD
  obtain ⟨dz6, hdz6⟩ : ∃ z : va_W, z = w_P G (consF q4 u5) ++ dz3 := ⟨_, rfl⟩
  rw [← hdz6] at hP hD
  have hP : va_P G.1 classes ((h0, .inr (9, [.ref q1, .null, .null, .int 0, .int 0, .int 0])) :: dz6) H := hP
  have hD : va_D A ((h0, .inr (9, [.ref q1, .null, .null, .int 0, .int 0, .int 0])) :: dz6) := hD
  refine va_putF (D := G.1) (ci := 9) (v := .ref q4) (ty := .object "JoinOrders$Plan") (C := n_U) (T := T_U) (N := 6) hx hb htl iw_U ty_U ty_U_ok nm_U hown hK hP hD hS 0 rfl rfl 1 (by decide) (htl _ k_242) (fun _ h9 => h9) rfl hin rfl (by decide +kernel) rfl rfl (Nat.le_of_ble_eq_true rfl) d_U_init_23 (fun H locs hP hD hS => ?_)
  have hP : va_P G.1 classes ((h0, .inr (9, [.ref q1, .ref q4, .null, .int 0, .int 0, .int 0])) :: dz6) H := hP
  have hD : va_D A ((h0, .inr (9, [.ref q1, .ref q4, .null, .int 0, .int 0, .int 0])) :: dz6) := hD
  refine lv_aload_n hx hb d_U_init_26 rfl (lv_at hl 0 rfl) ?_
  refine va_new (D := G.1) (ci := 10) (fs := [.int 0, .null, .int 0, .int 0, .int 0, .int 0]) (C := n_T) (T := T_T) (N := 6) hx hb htl iw_T ty_T ty_T_ok hown (htl _ k_208) (htl _ k_209) (htl _ k_97) hK hP hD hS hA rfl (df_T) (Nat.le_of_ble_eq_true rfl) (Nat.le_of_ble_eq_true rfl) d_U_init_27 (fun q7 H hP hD hS => ?_)
  refine W.widen (k := 9) (n := 87) (Nat.le_of_ble_eq_true rfl) (Nat.le_of_ble_eq_true rfl) ?_
  have hP := vp_rot hP
  have hD := vd_rot hD
  have hP : va_P G.1 classes ((q7, .inr (10, [.int 0, .null, .int 0, .int 0, .int 0, .int 0])) :: (h0, .inr (9, [.ref q1, .ref q4, .null, .int 0, .int 0, .int 0])) :: dz6) H := hP
  have hD : va_D A ((q7, .inr (10, [.int 0, .null, .int 0, .int 0, .int 0, .int 0])) :: (h0, .inr (9, [.ref q1, .ref q4, .null, .int 0, .int 0, .int 0])) :: dz6) := hD
  refine lv_dup hx hb d_U_init_30 rfl ?_
  refine callC hx hb hml hown htl (n_T_init l G) xb_t trivial mi_T_init k_210 ⟨rfl, rfl, Nat.le_of_ble_eq_true rfl, Nat.le_of_ble_eq_true rfl, Nat.le_of_ble_eq_true rfl, Nat.le_of_ble_eq_true rfl⟩ hK hA hS hP hD hl.1 (lv_room (Nat.le_of_ble_eq_true rfl)) d_U_init_31 (fun H locs u8 hP hD hS => ?_)
  refine W.widen (k := 10) (n := 587) (Nat.le_of_ble_eq_true rfl) (Nat.le_of_ble_eq_true rfl) ?_
  have hP := vp_mid (a := w_T G (consF q7 u8)) (b := [(h0, .inr (9, [.ref q1, .ref q4, .null, .int 0, .int 0, .int 0]))]) hP
  have hD := vd_mid (a := w_T G (consF q7 u8)) (b := [(h0, .inr (9, [.ref q1, .ref q4, .null, .int 0, .int 0, .int 0]))]) hD
  obtain ⟨dz9, hdz9⟩ : ∃ z : va_W, z = w_T G (consF q7 u8) ++ dz6 := ⟨_, rfl⟩
  rw [← hdz9] at hP hD
  have hP : va_P G.1 classes ((h0, .inr (9, [.ref q1, .ref q4, .null, .int 0, .int 0, .int 0])) :: dz9) H := hP
  have hD : va_D A ((h0, .inr (9, [.ref q1, .ref q4, .null, .int 0, .int 0, .int 0])) :: dz9) := hD
  refine va_putF (D := G.1) (ci := 9) (v := .ref q7) (ty := .object "JoinOrders$Text") (C := n_U) (T := T_U) (N := 6) hx hb htl iw_U ty_U ty_U_ok nm_U hown hK hP hD hS 0 rfl rfl 2 (by decide) (htl _ k_244) (fun _ h9 => h9) rfl hin rfl (by decide +kernel) rfl rfl (Nat.le_of_ble_eq_true rfl) d_U_init_34 (fun H locs hP hD hS => ?_)
  have hP : va_P G.1 classes ((h0, .inr (9, [.ref q1, .ref q4, .ref q7, .int 0, .int 0, .int 0])) :: dz9) H := hP
  have hD : va_D A ((h0, .inr (9, [.ref q1, .ref q4, .ref q7, .int 0, .int 0, .int 0])) :: dz9) := hD
  refine lv_aload_n hx hb d_U_init_37 rfl (lv_at hl 0 rfl) ?_
  refine lv_iconst (v := (-1 : Int32)) hx hb d_U_init_38 (by decide) ?_
  refine va_put (D := G.1) (ci := 9) (v := .int (-1 : Int32)) (ty := .int) (C := n_U) (T := T_U) (N := 6) hx hb htl iw_U ty_U ty_U_ok nm_U hown hK hP hD hS 0 rfl rfl 4 (by decide) (htl _ k_248) (fun _ h9 => h9) rfl (by decide +kernel) rfl rfl (Nat.le_of_ble_eq_true rfl) d_U_init_39 (fun H locs hP hD hS => ?_)
  have hP : va_P G.1 classes ((h0, .inr (9, [.ref q1, .ref q4, .ref q7, .int 0, .int (-1 : Int32), .int 0])) :: dz9) H := hP
  have hD : va_D A ((h0, .inr (9, [.ref q1, .ref q4, .ref q7, .int 0, .int (-1 : Int32), .int 0])) :: dz9) := hD
  rw [hdz9, hdz6, hdz3, hdz0] at hP hD
  exact hret 42 ls _ _ (fun i => [q1, q4, q7, u2 0, u2 1, u2 2, u2 3, u5 0, u5 1, u8 0].getD i 0) (hP.sub [0, 6, 3, 1, 7, 8, 9, 10, 4, 5, 2] rfl) (hD.sub [0, 6, 3, 1, 7, 8, 9, 10, 4, 5, 2] (by decide +kernel) rfl) hS d_U_init_42
set_option maxHeartbeats 4000000 in
set_option maxRecDepth 100000 in
theorem n_Q_init (l : Launch) (G : va_G × (Nat → ClassId)) : Cn l classes y_Q_init b_Q_init 1 (rmc 2 5 63) G.1 (tyL G) xN (.inr (6, [.int 0, .int 0, .null, .int 0, .int 0, .int 0])) (w_Q G) 5 63 := by
  refine entC (by decide) rfl (Nat.le_of_ble_eq_true rfl) ?_
  intro h0 p e s m args below meth c ls A Q hx hb hml hown htl hK hX hin hA hP hD hS hl hret
  have hsk := hX
  obtain ⟨dz0, hdz0⟩ : ∃ z : va_W, z = [] := ⟨_, rfl⟩
  have hP : va_P G.1 classes ((h0, .inr (6, [.int 0, .int 0, .null, .int 0, .int 0, .int 0])) :: dz0) s.heap := by rw [hdz0]; exact hP
  have hD : va_D A ((h0, .inr (6, [.int 0, .int 0, .null, .int 0, .int 0, .int 0])) :: dz0) := by rw [hdz0]; exact hD
  refine lv_aload_n hx hb d_Q_init_0 rfl (lv_at hl 0 rfl) ?_
  refine callRd hx hb hml hown htl (n_E_init l G _) hsk mi_E_init k_276 ⟨rfl, rfl, Nat.le_of_ble_eq_true rfl, Nat.le_of_ble_eq_true rfl, Nat.le_of_ble_eq_true rfl, Nat.le_of_ble_eq_true rfl⟩ hK hA hS hP hD hl.1 (lv_room (Nat.le_of_ble_eq_true rfl)) d_Q_init_1 (fun H locs hP hD hS => ?_)
  have hP : va_P G.1 classes ((h0, .inr (6, [.int 0, .int 0, .null, .int 0, .int 0, .int 0])) :: dz0) H := hP
  have hD : va_D A ((h0, .inr (6, [.int 0, .int 0, .null, .int 0, .int 0, .int 0])) :: dz0) := hD
  refine lv_aload_n hx hb d_Q_init_4 rfl (lv_at hl 0 rfl) ?_
  refine va_new (D := G.1) (ci := 1) (fs := [.int 0, .int 0, .int 0, .null, .null, .null, .null]) (C := n_G) (T := T_G) (N := 7) hx hb htl iw_G ty_G ty_G_ok hown (htl _ k_280) (htl _ k_133) (htl _ k_95) hK hP hD hS hA rfl (df_G) (Nat.le_of_ble_eq_true rfl) (Nat.le_of_ble_eq_true rfl) d_Q_init_5 (fun q1 H hP hD hS => ?_)
  refine W.widen (k := 1) (n := 7) (Nat.le_of_ble_eq_true rfl) (Nat.le_of_ble_eq_true rfl) ?_
  have hP := vp_rot hP
  have hD := vd_rot hD
  have hP : va_P G.1 classes ((q1, .inr (1, [.int 0, .int 0, .int 0, .null, .null, .null, .null])) :: (h0, .inr (6, [.int 0, .int 0, .null, .int 0, .int 0, .int 0])) :: dz0) H := hP
  have hD : va_D A ((q1, .inr (1, [.int 0, .int 0, .int 0, .null, .null, .null, .null])) :: (h0, .inr (6, [.int 0, .int 0, .null, .int 0, .int 0, .int 0])) :: dz0) := hD
  refine lv_dup hx hb d_Q_init_8 rfl ?_
  refine callC hx hb hml hown htl (n_G_init l G) xb_t trivial mi_G_init k_281 ⟨rfl, rfl, Nat.le_of_ble_eq_true rfl, Nat.le_of_ble_eq_true rfl, Nat.le_of_ble_eq_true rfl, Nat.le_of_ble_eq_true rfl⟩ hK hA hS hP hD hl.1 (lv_room (Nat.le_of_ble_eq_true rfl)) d_Q_init_9 (fun H locs u2 hP hD hS => ?_)
  refine W.widen (k := 5) (n := 63) (Nat.le_of_ble_eq_true rfl) (Nat.le_of_ble_eq_true rfl) ?_
  have hP := vp_mid (a := w_G G (consF q1 u2)) (b := [(h0, .inr (6, [.int 0, .int 0, .null, .int 0, .int 0, .int 0]))]) hP
  have hD := vd_mid (a := w_G G (consF q1 u2)) (b := [(h0, .inr (6, [.int 0, .int 0, .null, .int 0, .int 0, .int 0]))]) hD
  obtain ⟨dz3, hdz3⟩ : ∃ z : va_W, z = w_G G (consF q1 u2) ++ dz0 := ⟨_, rfl⟩
  rw [← hdz3] at hP hD
  have hP : va_P G.1 classes ((h0, .inr (6, [.int 0, .int 0, .null, .int 0, .int 0, .int 0])) :: dz3) H := hP
  have hD : va_D A ((h0, .inr (6, [.int 0, .int 0, .null, .int 0, .int 0, .int 0])) :: dz3) := hD
  refine va_putF (D := G.1) (ci := 6) (v := .ref q1) (ty := .object "JoinOrders$Graph") (C := n_Q) (T := T_Q) (N := 6) hx hb htl iw_Q ty_Q ty_Q_ok nm_Q hown hK hP hD hS 0 rfl rfl 2 (by decide) (htl _ k_282) (fun _ h9 => h9) rfl hin rfl (by decide +kernel) rfl rfl (Nat.le_of_ble_eq_true rfl) d_Q_init_12 (fun H locs hP hD hS => ?_)
  have hP : va_P G.1 classes ((h0, .inr (6, [.int 0, .int 0, .ref q1, .int 0, .int 0, .int 0])) :: dz3) H := hP
  have hD : va_D A ((h0, .inr (6, [.int 0, .int 0, .ref q1, .int 0, .int 0, .int 0])) :: dz3) := hD
  rw [hdz3, hdz0] at hP hD
  exact hret 15 ls _ _ (fun i => [q1, u2 0, u2 1, u2 2, u2 3].getD i 0) (hP.sub [0, 1, 2, 3, 4, 5] rfl) (hD.sub [0, 1, 2, 3, 4, 5] (by decide +kernel) rfl) hS d_Q_init_15
set_option maxHeartbeats 4000000 in
set_option maxRecDepth 100000 in
theorem n_L_init (l : Launch) (G : va_G × (Nat → ClassId)) : Cn l classes y_L_init b_L_init 1 (rmc 2 3 765) G.1 (tyL G) xN (.inr (5, [.int 0, .int 0, .int 0, .null, .null, .int 0, .null, .int 0, .int 0])) (w_L G) 3 765 := by
  refine entC (by decide) rfl (Nat.le_of_ble_eq_true rfl) ?_
  intro h0 p e s m args below meth c ls A Q hx hb hml hown htl hK hX hin hA hP hD hS hl hret
  have hsk := hX
  obtain ⟨dz0, hdz0⟩ : ∃ z : va_W, z = [] := ⟨_, rfl⟩
  have hP : va_P G.1 classes ((h0, .inr (5, [.int 0, .int 0, .int 0, .null, .null, .int 0, .null, .int 0, .int 0])) :: dz0) s.heap := by rw [hdz0]; exact hP
  have hD : va_D A ((h0, .inr (5, [.int 0, .int 0, .int 0, .null, .null, .int 0, .null, .int 0, .int 0])) :: dz0) := by rw [hdz0]; exact hD
  refine lv_aload_n hx hb d_L_init_0 rfl (lv_at hl 0 rfl) ?_
  refine callRd hx hb hml hown htl (n_E_init l G _) hsk mi_E_init k_309 ⟨rfl, rfl, Nat.le_of_ble_eq_true rfl, Nat.le_of_ble_eq_true rfl, Nat.le_of_ble_eq_true rfl, Nat.le_of_ble_eq_true rfl⟩ hK hA hS hP hD hl.1 (lv_room (Nat.le_of_ble_eq_true rfl)) d_L_init_1 (fun H locs hP hD hS => ?_)
  have hP : va_P G.1 classes ((h0, .inr (5, [.int 0, .int 0, .int 0, .null, .null, .int 0, .null, .int 0, .int 0])) :: dz0) H := hP
  have hD : va_D A ((h0, .inr (5, [.int 0, .int 0, .int 0, .null, .null, .int 0, .null, .int 0, .int 0])) :: dz0) := hD
  refine lv_aload_n hx hb d_L_init_4 rfl (lv_at hl 0 rfl) ?_
  refine lv_sipush (v := (256 : Int32)) hx hb d_L_init_5 (by decide) ?_
  refine newA (atype := .int) (a0 := (256, .inl (fun _ => 0))) hx hb (htl _ k_177) rfl hK 1 rfl hP hD hS hA (fun _ => rfl) (by decide) (by decide) (by decide) (Nat.le_of_ble_eq_true rfl) (Nat.le_of_ble_eq_true rfl) d_L_init_8 (fun q1 H hP hD hS => ?_)
  refine W.widen (k := 1) (n := 256) (Nat.le_of_ble_eq_true rfl) (Nat.le_of_ble_eq_true rfl) ?_
  have hP : va_P G.1 classes ((q1, aI G 256 (fun _ => 0)) :: (h0, .inr (5, [.int 0, .int 0, .int 0, .null, .null, .int 0, .null, .int 0, .int 0])) :: dz0) H := hP
  have hD : va_D A ((q1, aI G 256 (fun _ => 0)) :: (h0, .inr (5, [.int 0, .int 0, .int 0, .null, .null, .int 0, .null, .int 0, .int 0])) :: dz0) := hD
  refine va_putF (D := G.1) (ci := 5) (v := .ref q1) (ty := .array .int) (C := n_L) (T := T_L) (N := 9) hx hb htl iw_L ty_L ty_L_ok nm_L hown hK hP hD hS 1 rfl rfl 3 (by decide) (htl _ k_312) (fun _ h9 => h9) rfl hin rfl (by decide +kernel) rfl rfl (Nat.le_of_ble_eq_true rfl) d_L_init_10 (fun H locs hP hD hS => ?_)
  have hP : va_P G.1 classes ((q1, aI G 256 (fun _ => 0)) :: (h0, .inr (5, [.int 0, .int 0, .int 0, .ref q1, .null, .int 0, .null, .int 0, .int 0])) :: dz0) H := hP
  have hD : va_D A ((q1, aI G 256 (fun _ => 0)) :: (h0, .inr (5, [.int 0, .int 0, .int 0, .ref q1, .null, .int 0, .null, .int 0, .int 0])) :: dz0) := hD
  refine lv_aload_n hx hb d_L_init_13 rfl (lv_at hl 0 rfl) ?_
  refine lv_sipush (v := (501 : Int32)) hx hb d_L_init_14 (by decide) ?_
  refine newA (atype := .int) (a0 := (501, .inl (fun _ => 0))) hx hb (htl _ k_177) rfl hK 1 rfl hP hD hS hA (fun _ => rfl) (by decide) (by decide) (by decide) (Nat.le_of_ble_eq_true rfl) (Nat.le_of_ble_eq_true rfl) d_L_init_17 (fun q2 H hP hD hS => ?_)
  refine W.widen (k := 2) (n := 757) (Nat.le_of_ble_eq_true rfl) (Nat.le_of_ble_eq_true rfl) ?_
  have hP : va_P G.1 classes ((q2, aI G 501 (fun _ => 0)) :: (q1, aI G 256 (fun _ => 0)) :: (h0, .inr (5, [.int 0, .int 0, .int 0, .ref q1, .null, .int 0, .null, .int 0, .int 0])) :: dz0) H := hP
  have hD : va_D A ((q2, aI G 501 (fun _ => 0)) :: (q1, aI G 256 (fun _ => 0)) :: (h0, .inr (5, [.int 0, .int 0, .int 0, .ref q1, .null, .int 0, .null, .int 0, .int 0])) :: dz0) := hD
  refine va_putF (D := G.1) (ci := 5) (v := .ref q2) (ty := .array .int) (C := n_L) (T := T_L) (N := 9) hx hb htl iw_L ty_L ty_L_ok nm_L hown hK hP hD hS 2 rfl rfl 4 (by decide) (htl _ k_314) (fun _ h9 => h9) rfl hin rfl (by decide +kernel) rfl rfl (Nat.le_of_ble_eq_true rfl) d_L_init_19 (fun H locs hP hD hS => ?_)
  have hP : va_P G.1 classes ((q2, aI G 501 (fun _ => 0)) :: (q1, aI G 256 (fun _ => 0)) :: (h0, .inr (5, [.int 0, .int 0, .int 0, .ref q1, .ref q2, .int 0, .null, .int 0, .int 0])) :: dz0) H := hP
  have hD : va_D A ((q2, aI G 501 (fun _ => 0)) :: (q1, aI G 256 (fun _ => 0)) :: (h0, .inr (5, [.int 0, .int 0, .int 0, .ref q1, .ref q2, .int 0, .null, .int 0, .int 0])) :: dz0) := hD
  refine lv_aload_n hx hb d_L_init_22 rfl (lv_at hl 0 rfl) ?_
  refine lv_bipush (v := (8 : Int32)) hx hb d_L_init_23 (by decide) ?_
  refine newA (atype := .int) (a0 := (8, .inl (fun _ => 0))) hx hb (htl _ k_177) rfl hK 1 rfl hP hD hS hA (fun _ => rfl) (by decide) (by decide) (by decide) (Nat.le_of_ble_eq_true rfl) (Nat.le_of_ble_eq_true rfl) d_L_init_25 (fun q3 H hP hD hS => ?_)
  refine W.widen (k := 3) (n := 765) (Nat.le_of_ble_eq_true rfl) (Nat.le_of_ble_eq_true rfl) ?_
  have hP : va_P G.1 classes ((q3, aI G 8 (fun _ => 0)) :: (q2, aI G 501 (fun _ => 0)) :: (q1, aI G 256 (fun _ => 0)) :: (h0, .inr (5, [.int 0, .int 0, .int 0, .ref q1, .ref q2, .int 0, .null, .int 0, .int 0])) :: dz0) H := hP
  have hD : va_D A ((q3, aI G 8 (fun _ => 0)) :: (q2, aI G 501 (fun _ => 0)) :: (q1, aI G 256 (fun _ => 0)) :: (h0, .inr (5, [.int 0, .int 0, .int 0, .ref q1, .ref q2, .int 0, .null, .int 0, .int 0])) :: dz0) := hD
  refine va_putF (D := G.1) (ci := 5) (v := .ref q3) (ty := .array .int) (C := n_L) (T := T_L) (N := 9) hx hb htl iw_L ty_L ty_L_ok nm_L hown hK hP hD hS 3 rfl rfl 6 (by decide) (htl _ k_316) (fun _ h9 => h9) rfl hin rfl (by decide +kernel) rfl rfl (Nat.le_of_ble_eq_true rfl) d_L_init_27 (fun H locs hP hD hS => ?_)
  have hP : va_P G.1 classes ((q3, aI G 8 (fun _ => 0)) :: (q2, aI G 501 (fun _ => 0)) :: (q1, aI G 256 (fun _ => 0)) :: (h0, .inr (5, [.int 0, .int 0, .int 0, .ref q1, .ref q2, .int 0, .ref q3, .int 0, .int 0])) :: dz0) H := hP
  have hD : va_D A ((q3, aI G 8 (fun _ => 0)) :: (q2, aI G 501 (fun _ => 0)) :: (q1, aI G 256 (fun _ => 0)) :: (h0, .inr (5, [.int 0, .int 0, .int 0, .ref q1, .ref q2, .int 0, .ref q3, .int 0, .int 0])) :: dz0) := hD
  rw [hdz0] at hP hD
  exact hret 30 ls _ _ (fun i => [q1, q3, q2].getD i 0) (hP.sub [3, 2, 0, 1] rfl) (hD.sub [3, 2, 0, 1] (by decide +kernel) rfl) hS d_L_init_30
set_option maxHeartbeats 4000000 in
set_option maxRecDepth 100000 in
theorem n_S_init (l : Launch) (G : va_G × (Nat → ClassId)) : Cn l classes y_S_init b_S_init 1 (rmc 1 6 1536) G.1 (tyL G) (fun _ => True) (.inr (8, [.int 0, .int 0, .int 0, .int 0, .int 0, .null, .null, .null, .int 0, .null, .null, .null])) (w_S G) 6 1536 := by
  refine entC (by decide) rfl (Nat.le_of_ble_eq_true rfl) ?_
  intro h0 p e s m args below meth c ls A Q hx hb hml hown htl hK hX hin hA hP hD hS hl hret
  obtain ⟨dz0, hdz0⟩ : ∃ z : va_W, z = [] := ⟨_, rfl⟩
  have hP : va_P G.1 classes ((h0, .inr (8, [.int 0, .int 0, .int 0, .int 0, .int 0, .null, .null, .null, .int 0, .null, .null, .null])) :: dz0) s.heap := by rw [hdz0]; exact hP
  have hD : va_D A ((h0, .inr (8, [.int 0, .int 0, .int 0, .int 0, .int 0, .null, .null, .null, .int 0, .null, .null, .null])) :: dz0) := by rw [hdz0]; exact hD
  refine lv_aload_n hx hb d_S_init_0 rfl (lv_at hl 0 rfl) ?_
  refine W.objInit hx hb hown (htl _ k_341) (htl _ k_124) (htl _ k_125) rfl (by rw [hml]; exact hl.1) rfl d_S_init_1 (Nat.le_of_ble_eq_true rfl) (Nat.le_of_ble_eq_true rfl) ?_
  refine W.eq (g2 := F0 m 4 ls []) rfl ?_
  refine lv_aload_n hx hb d_S_init_4 rfl (lv_at hl 0 rfl) ?_
  refine lv_sipush (v := (256 : Int32)) hx hb d_S_init_5 (by decide) ?_
  refine newA (atype := .long) (a0 := (256, .inr (.inl (fun _ => 0)))) hx hb (htl _ k_390) rfl hK 2 rfl hP hD hS hA (fun _ => rfl) (by decide) (by decide) (by decide) (Nat.le_of_ble_eq_true rfl) (Nat.le_of_ble_eq_true rfl) d_S_init_8 (fun q1 H hP hD hS => ?_)
  refine W.widen (k := 1) (n := 256) (Nat.le_of_ble_eq_true rfl) (Nat.le_of_ble_eq_true rfl) ?_
  have hP : va_P G.1 classes ((q1, aJ G 256 (fun _ => 0)) :: (h0, .inr (8, [.int 0, .int 0, .int 0, .int 0, .int 0, .null, .null, .null, .int 0, .null, .null, .null])) :: dz0) H := hP
  have hD : va_D A ((q1, aJ G 256 (fun _ => 0)) :: (h0, .inr (8, [.int 0, .int 0, .int 0, .int 0, .int 0, .null, .null, .null, .int 0, .null, .null, .null])) :: dz0) := hD
  refine va_putF (D := G.1) (ci := 8) (v := .ref q1) (ty := .array .long) (C := n_S) (T := T_S) (N := 12) hx hb htl iw_S ty_S ty_S_ok nm_S hown hK hP hD hS 1 rfl rfl 5 (by decide) (htl _ k_352) (fun _ h9 => h9) rfl hin rfl (by decide +kernel) rfl rfl (Nat.le_of_ble_eq_true rfl) d_S_init_10 (fun H locs hP hD hS => ?_)
  have hP : va_P G.1 classes ((q1, aJ G 256 (fun _ => 0)) :: (h0, .inr (8, [.int 0, .int 0, .int 0, .int 0, .int 0, .ref q1, .null, .null, .int 0, .null, .null, .null])) :: dz0) H := hP
  have hD : va_D A ((q1, aJ G 256 (fun _ => 0)) :: (h0, .inr (8, [.int 0, .int 0, .int 0, .int 0, .int 0, .ref q1, .null, .null, .int 0, .null, .null, .null])) :: dz0) := hD
  refine lv_aload_n hx hb d_S_init_13 rfl (lv_at hl 0 rfl) ?_
  refine lv_sipush (v := (256 : Int32)) hx hb d_S_init_14 (by decide) ?_
  refine newA (atype := .boolean) (a0 := (256, .inl (fun _ => 0))) hx hb (htl _ k_391) rfl hK 3 rfl hP hD hS hA (fun _ => rfl) (by decide) (by decide) (by decide) (Nat.le_of_ble_eq_true rfl) (Nat.le_of_ble_eq_true rfl) d_S_init_17 (fun q2 H hP hD hS => ?_)
  refine W.widen (k := 2) (n := 512) (Nat.le_of_ble_eq_true rfl) (Nat.le_of_ble_eq_true rfl) ?_
  have hP : va_P G.1 classes ((q2, aZ G 256 (fun _ => 0)) :: (q1, aJ G 256 (fun _ => 0)) :: (h0, .inr (8, [.int 0, .int 0, .int 0, .int 0, .int 0, .ref q1, .null, .null, .int 0, .null, .null, .null])) :: dz0) H := hP
  have hD : va_D A ((q2, aZ G 256 (fun _ => 0)) :: (q1, aJ G 256 (fun _ => 0)) :: (h0, .inr (8, [.int 0, .int 0, .int 0, .int 0, .int 0, .ref q1, .null, .null, .int 0, .null, .null, .null])) :: dz0) := hD
  refine va_putF (D := G.1) (ci := 8) (v := .ref q2) (ty := .array .boolean) (C := n_S) (T := T_S) (N := 12) hx hb htl iw_S ty_S ty_S_ok nm_S hown hK hP hD hS 2 rfl rfl 6 (by decide) (htl _ k_356) (fun _ h9 => h9) rfl hin rfl (by decide +kernel) rfl rfl (Nat.le_of_ble_eq_true rfl) d_S_init_19 (fun H locs hP hD hS => ?_)
  have hP : va_P G.1 classes ((q2, aZ G 256 (fun _ => 0)) :: (q1, aJ G 256 (fun _ => 0)) :: (h0, .inr (8, [.int 0, .int 0, .int 0, .int 0, .int 0, .ref q1, .ref q2, .null, .int 0, .null, .null, .null])) :: dz0) H := hP
  have hD : va_D A ((q2, aZ G 256 (fun _ => 0)) :: (q1, aJ G 256 (fun _ => 0)) :: (h0, .inr (8, [.int 0, .int 0, .int 0, .int 0, .int 0, .ref q1, .ref q2, .null, .int 0, .null, .null, .null])) :: dz0) := hD
  refine lv_aload_n hx hb d_S_init_22 rfl (lv_at hl 0 rfl) ?_
  refine lv_sipush (v := (256 : Int32)) hx hb d_S_init_23 (by decide) ?_
  refine newA (atype := .boolean) (a0 := (256, .inl (fun _ => 0))) hx hb (htl _ k_391) rfl hK 3 rfl hP hD hS hA (fun _ => rfl) (by decide) (by decide) (by decide) (Nat.le_of_ble_eq_true rfl) (Nat.le_of_ble_eq_true rfl) d_S_init_26 (fun q3 H hP hD hS => ?_)
  refine W.widen (k := 3) (n := 768) (Nat.le_of_ble_eq_true rfl) (Nat.le_of_ble_eq_true rfl) ?_
  have hP : va_P G.1 classes ((q3, aZ G 256 (fun _ => 0)) :: (q2, aZ G 256 (fun _ => 0)) :: (q1, aJ G 256 (fun _ => 0)) :: (h0, .inr (8, [.int 0, .int 0, .int 0, .int 0, .int 0, .ref q1, .ref q2, .null, .int 0, .null, .null, .null])) :: dz0) H := hP
  have hD : va_D A ((q3, aZ G 256 (fun _ => 0)) :: (q2, aZ G 256 (fun _ => 0)) :: (q1, aJ G 256 (fun _ => 0)) :: (h0, .inr (8, [.int 0, .int 0, .int 0, .int 0, .int 0, .ref q1, .ref q2, .null, .int 0, .null, .null, .null])) :: dz0) := hD
  refine va_putF (D := G.1) (ci := 8) (v := .ref q3) (ty := .array .boolean) (C := n_S) (T := T_S) (N := 12) hx hb htl iw_S ty_S ty_S_ok nm_S hown hK hP hD hS 3 rfl rfl 7 (by decide) (htl _ k_358) (fun _ h9 => h9) rfl hin rfl (by decide +kernel) rfl rfl (Nat.le_of_ble_eq_true rfl) d_S_init_28 (fun H locs hP hD hS => ?_)
  have hP : va_P G.1 classes ((q3, aZ G 256 (fun _ => 0)) :: (q2, aZ G 256 (fun _ => 0)) :: (q1, aJ G 256 (fun _ => 0)) :: (h0, .inr (8, [.int 0, .int 0, .int 0, .int 0, .int 0, .ref q1, .ref q2, .ref q3, .int 0, .null, .null, .null])) :: dz0) H := hP
  have hD : va_D A ((q3, aZ G 256 (fun _ => 0)) :: (q2, aZ G 256 (fun _ => 0)) :: (q1, aJ G 256 (fun _ => 0)) :: (h0, .inr (8, [.int 0, .int 0, .int 0, .int 0, .int 0, .ref q1, .ref q2, .ref q3, .int 0, .null, .null, .null])) :: dz0) := hD
  refine lv_aload_n hx hb d_S_init_31 rfl (lv_at hl 0 rfl) ?_
  refine lv_sipush (v := (256 : Int32)) hx hb d_S_init_32 (by decide) ?_
  refine newA (atype := .int) (a0 := (256, .inl (fun _ => 0))) hx hb (htl _ k_177) rfl hK 1 rfl hP hD hS hA (fun _ => rfl) (by decide) (by decide) (by decide) (Nat.le_of_ble_eq_true rfl) (Nat.le_of_ble_eq_true rfl) d_S_init_35 (fun q4 H hP hD hS => ?_)
  refine W.widen (k := 4) (n := 1024) (Nat.le_of_ble_eq_true rfl) (Nat.le_of_ble_eq_true rfl) ?_
  have hP : va_P G.1 classes ((q4, aI G 256 (fun _ => 0)) :: (q3, aZ G 256 (fun _ => 0)) :: (q2, aZ G 256 (fun _ => 0)) :: (q1, aJ G 256 (fun _ => 0)) :: (h0, .inr (8, [.int 0, .int 0, .int 0, .int 0, .int 0, .ref q1, .ref q2, .ref q3, .int 0, .null, .null, .null])) :: dz0) H := hP
  have hD : va_D A ((q4, aI G 256 (fun _ => 0)) :: (q3, aZ G 256 (fun _ => 0)) :: (q2, aZ G 256 (fun _ => 0)) :: (q1, aJ G 256 (fun _ => 0)) :: (h0, .inr (8, [.int 0, .int 0, .int 0, .int 0, .int 0, .ref q1, .ref q2, .ref q3, .int 0, .null, .null, .null])) :: dz0) := hD
  refine va_putF (D := G.1) (ci := 8) (v := .ref q4) (ty := .array .int) (C := n_S) (T := T_S) (N := 12) hx hb htl iw_S ty_S ty_S_ok nm_S hown hK hP hD hS 4 rfl rfl 9 (by decide) (htl _ k_362) (fun _ h9 => h9) rfl hin rfl (by decide +kernel) rfl rfl (Nat.le_of_ble_eq_true rfl) d_S_init_37 (fun H locs hP hD hS => ?_)
  have hP : va_P G.1 classes ((q4, aI G 256 (fun _ => 0)) :: (q3, aZ G 256 (fun _ => 0)) :: (q2, aZ G 256 (fun _ => 0)) :: (q1, aJ G 256 (fun _ => 0)) :: (h0, .inr (8, [.int 0, .int 0, .int 0, .int 0, .int 0, .ref q1, .ref q2, .ref q3, .int 0, .ref q4, .null, .null])) :: dz0) H := hP
  have hD : va_D A ((q4, aI G 256 (fun _ => 0)) :: (q3, aZ G 256 (fun _ => 0)) :: (q2, aZ G 256 (fun _ => 0)) :: (q1, aJ G 256 (fun _ => 0)) :: (h0, .inr (8, [.int 0, .int 0, .int 0, .int 0, .int 0, .ref q1, .ref q2, .ref q3, .int 0, .ref q4, .null, .null])) :: dz0) := hD
  refine lv_aload_n hx hb d_S_init_40 rfl (lv_at hl 0 rfl) ?_
  refine lv_sipush (v := (256 : Int32)) hx hb d_S_init_41 (by decide) ?_
  refine newA (atype := .int) (a0 := (256, .inl (fun _ => 0))) hx hb (htl _ k_177) rfl hK 1 rfl hP hD hS hA (fun _ => rfl) (by decide) (by decide) (by decide) (Nat.le_of_ble_eq_true rfl) (Nat.le_of_ble_eq_true rfl) d_S_init_44 (fun q5 H hP hD hS => ?_)
  refine W.widen (k := 5) (n := 1280) (Nat.le_of_ble_eq_true rfl) (Nat.le_of_ble_eq_true rfl) ?_
  have hP : va_P G.1 classes ((q5, aI G 256 (fun _ => 0)) :: (q4, aI G 256 (fun _ => 0)) :: (q3, aZ G 256 (fun _ => 0)) :: (q2, aZ G 256 (fun _ => 0)) :: (q1, aJ G 256 (fun _ => 0)) :: (h0, .inr (8, [.int 0, .int 0, .int 0, .int 0, .int 0, .ref q1, .ref q2, .ref q3, .int 0, .ref q4, .null, .null])) :: dz0) H := hP
  have hD : va_D A ((q5, aI G 256 (fun _ => 0)) :: (q4, aI G 256 (fun _ => 0)) :: (q3, aZ G 256 (fun _ => 0)) :: (q2, aZ G 256 (fun _ => 0)) :: (q1, aJ G 256 (fun _ => 0)) :: (h0, .inr (8, [.int 0, .int 0, .int 0, .int 0, .int 0, .ref q1, .ref q2, .ref q3, .int 0, .ref q4, .null, .null])) :: dz0) := hD
  refine va_putF (D := G.1) (ci := 8) (v := .ref q5) (ty := .array .int) (C := n_S) (T := T_S) (N := 12) hx hb htl iw_S ty_S ty_S_ok nm_S hown hK hP hD hS 5 rfl rfl 10 (by decide) (htl _ k_363) (fun _ h9 => h9) rfl hin rfl (by decide +kernel) rfl rfl (Nat.le_of_ble_eq_true rfl) d_S_init_46 (fun H locs hP hD hS => ?_)
  have hP : va_P G.1 classes ((q5, aI G 256 (fun _ => 0)) :: (q4, aI G 256 (fun _ => 0)) :: (q3, aZ G 256 (fun _ => 0)) :: (q2, aZ G 256 (fun _ => 0)) :: (q1, aJ G 256 (fun _ => 0)) :: (h0, .inr (8, [.int 0, .int 0, .int 0, .int 0, .int 0, .ref q1, .ref q2, .ref q3, .int 0, .ref q4, .ref q5, .null])) :: dz0) H := hP
  have hD : va_D A ((q5, aI G 256 (fun _ => 0)) :: (q4, aI G 256 (fun _ => 0)) :: (q3, aZ G 256 (fun _ => 0)) :: (q2, aZ G 256 (fun _ => 0)) :: (q1, aJ G 256 (fun _ => 0)) :: (h0, .inr (8, [.int 0, .int 0, .int 0, .int 0, .int 0, .ref q1, .ref q2, .ref q3, .int 0, .ref q4, .ref q5, .null])) :: dz0) := hD
  refine lv_aload_n hx hb d_S_init_49 rfl (lv_at hl 0 rfl) ?_
  refine lv_sipush (v := (256 : Int32)) hx hb d_S_init_50 (by decide) ?_
  refine newA (atype := .int) (a0 := (256, .inl (fun _ => 0))) hx hb (htl _ k_177) rfl hK 1 rfl hP hD hS hA (fun _ => rfl) (by decide) (by decide) (by decide) (Nat.le_of_ble_eq_true rfl) (Nat.le_of_ble_eq_true rfl) d_S_init_53 (fun q6 H hP hD hS => ?_)
  refine W.widen (k := 6) (n := 1536) (Nat.le_of_ble_eq_true rfl) (Nat.le_of_ble_eq_true rfl) ?_
  have hP : va_P G.1 classes ((q6, aI G 256 (fun _ => 0)) :: (q5, aI G 256 (fun _ => 0)) :: (q4, aI G 256 (fun _ => 0)) :: (q3, aZ G 256 (fun _ => 0)) :: (q2, aZ G 256 (fun _ => 0)) :: (q1, aJ G 256 (fun _ => 0)) :: (h0, .inr (8, [.int 0, .int 0, .int 0, .int 0, .int 0, .ref q1, .ref q2, .ref q3, .int 0, .ref q4, .ref q5, .null])) :: dz0) H := hP
  have hD : va_D A ((q6, aI G 256 (fun _ => 0)) :: (q5, aI G 256 (fun _ => 0)) :: (q4, aI G 256 (fun _ => 0)) :: (q3, aZ G 256 (fun _ => 0)) :: (q2, aZ G 256 (fun _ => 0)) :: (q1, aJ G 256 (fun _ => 0)) :: (h0, .inr (8, [.int 0, .int 0, .int 0, .int 0, .int 0, .ref q1, .ref q2, .ref q3, .int 0, .ref q4, .ref q5, .null])) :: dz0) := hD
  refine va_putF (D := G.1) (ci := 8) (v := .ref q6) (ty := .array .int) (C := n_S) (T := T_S) (N := 12) hx hb htl iw_S ty_S ty_S_ok nm_S hown hK hP hD hS 6 rfl rfl 11 (by decide) (htl _ k_364) (fun _ h9 => h9) rfl hin rfl (by decide +kernel) rfl rfl (Nat.le_of_ble_eq_true rfl) d_S_init_55 (fun H locs hP hD hS => ?_)
  have hP : va_P G.1 classes ((q6, aI G 256 (fun _ => 0)) :: (q5, aI G 256 (fun _ => 0)) :: (q4, aI G 256 (fun _ => 0)) :: (q3, aZ G 256 (fun _ => 0)) :: (q2, aZ G 256 (fun _ => 0)) :: (q1, aJ G 256 (fun _ => 0)) :: (h0, .inr (8, [.int 0, .int 0, .int 0, .int 0, .int 0, .ref q1, .ref q2, .ref q3, .int 0, .ref q4, .ref q5, .ref q6])) :: dz0) H := hP
  have hD : va_D A ((q6, aI G 256 (fun _ => 0)) :: (q5, aI G 256 (fun _ => 0)) :: (q4, aI G 256 (fun _ => 0)) :: (q3, aZ G 256 (fun _ => 0)) :: (q2, aZ G 256 (fun _ => 0)) :: (q1, aJ G 256 (fun _ => 0)) :: (h0, .inr (8, [.int 0, .int 0, .int 0, .int 0, .int 0, .ref q1, .ref q2, .ref q3, .int 0, .ref q4, .ref q5, .ref q6])) :: dz0) := hD
  rw [hdz0] at hP hD
  exact hret 58 ls _ _ (fun i => [q2, q3, q4, q6, q5, q1].getD i 0) (hP.sub [6, 4, 3, 2, 0, 1, 5] rfl) (hD.sub [6, 4, 3, 2, 0, 1, 5] (by decide +kernel) rfl) hS d_S_init_58
set_option maxHeartbeats 4000000 in
set_option maxRecDepth 100000 in
theorem n_B_init (l : Launch) (G : va_G × (Nat → ClassId)) : Cn l classes y_B_init b_B_init 1 (rmc 1 3 768) G.1 (tyL G) (fun _ => True) (.inr (0, [.int 0, .null, .null, .null])) (w_B G) 3 768 := by
  refine entC (by decide) rfl (Nat.le_of_ble_eq_true rfl) ?_
  intro h0 p e s m args below meth c ls A Q hx hb hml hown htl hK hX hin hA hP hD hS hl hret
  obtain ⟨dz0, hdz0⟩ : ∃ z : va_W, z = [] := ⟨_, rfl⟩
  have hP : va_P G.1 classes ((h0, .inr (0, [.int 0, .null, .null, .null])) :: dz0) s.heap := by rw [hdz0]; exact hP
  have hD : va_D A ((h0, .inr (0, [.int 0, .null, .null, .null])) :: dz0) := by rw [hdz0]; exact hD
  refine lv_aload_n hx hb d_B_init_0 rfl (lv_at hl 0 rfl) ?_
  refine W.objInit hx hb hown (htl _ k_397) (htl _ k_124) (htl _ k_125) rfl (by rw [hml]; exact hl.1) rfl d_B_init_1 (Nat.le_of_ble_eq_true rfl) (Nat.le_of_ble_eq_true rfl) ?_
  refine W.eq (g2 := F0 m 4 ls []) rfl ?_
  refine lv_aload_n hx hb d_B_init_4 rfl (lv_at hl 0 rfl) ?_
  refine lv_sipush (v := (256 : Int32)) hx hb d_B_init_5 (by decide) ?_
  refine newA (atype := .long) (a0 := (256, .inr (.inl (fun _ => 0)))) hx hb (htl _ k_390) rfl hK 2 rfl hP hD hS hA (fun _ => rfl) (by decide) (by decide) (by decide) (Nat.le_of_ble_eq_true rfl) (Nat.le_of_ble_eq_true rfl) d_B_init_8 (fun q1 H hP hD hS => ?_)
  refine W.widen (k := 1) (n := 256) (Nat.le_of_ble_eq_true rfl) (Nat.le_of_ble_eq_true rfl) ?_
  have hP : va_P G.1 classes ((q1, aJ G 256 (fun _ => 0)) :: (h0, .inr (0, [.int 0, .null, .null, .null])) :: dz0) H := hP
  have hD : va_D A ((q1, aJ G 256 (fun _ => 0)) :: (h0, .inr (0, [.int 0, .null, .null, .null])) :: dz0) := hD
  refine va_putF (D := G.1) (ci := 0) (v := .ref q1) (ty := .array .long) (C := n_B) (T := T_B) (N := 4) hx hb htl iw_B ty_B ty_B_ok nm_B hown hK hP hD hS 1 rfl rfl 1 (by decide) (htl _ k_400) (fun _ h9 => h9) rfl hin rfl (by decide +kernel) rfl rfl (Nat.le_of_ble_eq_true rfl) d_B_init_10 (fun H locs hP hD hS => ?_)
  have hP : va_P G.1 classes ((q1, aJ G 256 (fun _ => 0)) :: (h0, .inr (0, [.int 0, .ref q1, .null, .null])) :: dz0) H := hP
  have hD : va_D A ((q1, aJ G 256 (fun _ => 0)) :: (h0, .inr (0, [.int 0, .ref q1, .null, .null])) :: dz0) := hD
  refine lv_aload_n hx hb d_B_init_13 rfl (lv_at hl 0 rfl) ?_
  refine lv_sipush (v := (256 : Int32)) hx hb d_B_init_14 (by decide) ?_
  refine newA (atype := .int) (a0 := (256, .inl (fun _ => 0))) hx hb (htl _ k_177) rfl hK 1 rfl hP hD hS hA (fun _ => rfl) (by decide) (by decide) (by decide) (Nat.le_of_ble_eq_true rfl) (Nat.le_of_ble_eq_true rfl) d_B_init_17 (fun q2 H hP hD hS => ?_)
  refine W.widen (k := 2) (n := 512) (Nat.le_of_ble_eq_true rfl) (Nat.le_of_ble_eq_true rfl) ?_
  have hP : va_P G.1 classes ((q2, aI G 256 (fun _ => 0)) :: (q1, aJ G 256 (fun _ => 0)) :: (h0, .inr (0, [.int 0, .ref q1, .null, .null])) :: dz0) H := hP
  have hD : va_D A ((q2, aI G 256 (fun _ => 0)) :: (q1, aJ G 256 (fun _ => 0)) :: (h0, .inr (0, [.int 0, .ref q1, .null, .null])) :: dz0) := hD
  refine va_putF (D := G.1) (ci := 0) (v := .ref q2) (ty := .array .int) (C := n_B) (T := T_B) (N := 4) hx hb htl iw_B ty_B ty_B_ok nm_B hown hK hP hD hS 2 rfl rfl 2 (by decide) (htl _ k_402) (fun _ h9 => h9) rfl hin rfl (by decide +kernel) rfl rfl (Nat.le_of_ble_eq_true rfl) d_B_init_19 (fun H locs hP hD hS => ?_)
  have hP : va_P G.1 classes ((q2, aI G 256 (fun _ => 0)) :: (q1, aJ G 256 (fun _ => 0)) :: (h0, .inr (0, [.int 0, .ref q1, .ref q2, .null])) :: dz0) H := hP
  have hD : va_D A ((q2, aI G 256 (fun _ => 0)) :: (q1, aJ G 256 (fun _ => 0)) :: (h0, .inr (0, [.int 0, .ref q1, .ref q2, .null])) :: dz0) := hD
  refine lv_aload_n hx hb d_B_init_22 rfl (lv_at hl 0 rfl) ?_
  refine lv_sipush (v := (256 : Int32)) hx hb d_B_init_23 (by decide) ?_
  refine newA (atype := .int) (a0 := (256, .inl (fun _ => 0))) hx hb (htl _ k_177) rfl hK 1 rfl hP hD hS hA (fun _ => rfl) (by decide) (by decide) (by decide) (Nat.le_of_ble_eq_true rfl) (Nat.le_of_ble_eq_true rfl) d_B_init_26 (fun q3 H hP hD hS => ?_)
  refine W.widen (k := 3) (n := 768) (Nat.le_of_ble_eq_true rfl) (Nat.le_of_ble_eq_true rfl) ?_
  have hP : va_P G.1 classes ((q3, aI G 256 (fun _ => 0)) :: (q2, aI G 256 (fun _ => 0)) :: (q1, aJ G 256 (fun _ => 0)) :: (h0, .inr (0, [.int 0, .ref q1, .ref q2, .null])) :: dz0) H := hP
  have hD : va_D A ((q3, aI G 256 (fun _ => 0)) :: (q2, aI G 256 (fun _ => 0)) :: (q1, aJ G 256 (fun _ => 0)) :: (h0, .inr (0, [.int 0, .ref q1, .ref q2, .null])) :: dz0) := hD
  refine va_putF (D := G.1) (ci := 0) (v := .ref q3) (ty := .array .int) (C := n_B) (T := T_B) (N := 4) hx hb htl iw_B ty_B ty_B_ok nm_B hown hK hP hD hS 3 rfl rfl 3 (by decide) (htl _ k_404) (fun _ h9 => h9) rfl hin rfl (by decide +kernel) rfl rfl (Nat.le_of_ble_eq_true rfl) d_B_init_28 (fun H locs hP hD hS => ?_)
  have hP : va_P G.1 classes ((q3, aI G 256 (fun _ => 0)) :: (q2, aI G 256 (fun _ => 0)) :: (q1, aJ G 256 (fun _ => 0)) :: (h0, .inr (0, [.int 0, .ref q1, .ref q2, .ref q3])) :: dz0) H := hP
  have hD : va_D A ((q3, aI G 256 (fun _ => 0)) :: (q2, aI G 256 (fun _ => 0)) :: (q1, aJ G 256 (fun _ => 0)) :: (h0, .inr (0, [.int 0, .ref q1, .ref q2, .ref q3])) :: dz0) := hD
  rw [hdz0] at hP hD
  exact hret 31 ls _ _ (fun i => [q1, q2, q3].getD i 0) (hP.sub [3, 2, 1, 0] rfl) (hD.sub [3, 2, 1, 0] (by decide +kernel) rfl) hS d_B_init_31
set_option maxHeartbeats 4000000 in
set_option maxRecDepth 100000 in
theorem n_A_init (l : Launch) (G : va_G × (Nat → ClassId)) : Cn l classes y_A_init b_A_init 1 (rmc 1 2 264) G.1 (tyL G) (fun _ => True) (.inr (3, [.null, .null, .int 0, .int 0, .int 0])) (w_A G) 2 264 := by
  refine entC (by decide) rfl (Nat.le_of_ble_eq_true rfl) ?_
  intro h0 p e s m args below meth c ls A Q hx hb hml hown htl hK hX hin hA hP hD hS hl hret
  obtain ⟨dz0, hdz0⟩ : ∃ z : va_W, z = [] := ⟨_, rfl⟩
  have hP : va_P G.1 classes ((h0, .inr (3, [.null, .null, .int 0, .int 0, .int 0])) :: dz0) s.heap := by rw [hdz0]; exact hP
  have hD : va_D A ((h0, .inr (3, [.null, .null, .int 0, .int 0, .int 0])) :: dz0) := by rw [hdz0]; exact hD
  refine lv_aload_n hx hb d_A_init_0 rfl (lv_at hl 0 rfl) ?_
  refine W.objInit hx hb hown (htl _ k_420) (htl _ k_124) (htl _ k_125) rfl (by rw [hml]; exact hl.1) rfl d_A_init_1 (Nat.le_of_ble_eq_true rfl) (Nat.le_of_ble_eq_true rfl) ?_
  refine W.eq (g2 := F0 m 4 ls []) rfl ?_
  refine lv_aload_n hx hb d_A_init_4 rfl (lv_at hl 0 rfl) ?_
  refine lv_sipush (v := (256 : Int32)) hx hb d_A_init_5 (by decide) ?_
  refine newA (atype := .int) (a0 := (256, .inl (fun _ => 0))) hx hb (htl _ k_177) rfl hK 1 rfl hP hD hS hA (fun _ => rfl) (by decide) (by decide) (by decide) (Nat.le_of_ble_eq_true rfl) (Nat.le_of_ble_eq_true rfl) d_A_init_8 (fun q1 H hP hD hS => ?_)
  refine W.widen (k := 1) (n := 256) (Nat.le_of_ble_eq_true rfl) (Nat.le_of_ble_eq_true rfl) ?_
  have hP : va_P G.1 classes ((q1, aI G 256 (fun _ => 0)) :: (h0, .inr (3, [.null, .null, .int 0, .int 0, .int 0])) :: dz0) H := hP
  have hD : va_D A ((q1, aI G 256 (fun _ => 0)) :: (h0, .inr (3, [.null, .null, .int 0, .int 0, .int 0])) :: dz0) := hD
  refine va_putF (D := G.1) (ci := 3) (v := .ref q1) (ty := .array .int) (C := n_A) (T := T_A) (N := 5) hx hb htl iw_A ty_A ty_A_ok nm_A hown hK hP hD hS 1 rfl rfl 0 (by decide) (htl _ k_421) (fun _ h9 => h9) rfl hin rfl (by decide +kernel) rfl rfl (Nat.le_of_ble_eq_true rfl) d_A_init_10 (fun H locs hP hD hS => ?_)
  have hP : va_P G.1 classes ((q1, aI G 256 (fun _ => 0)) :: (h0, .inr (3, [.ref q1, .null, .int 0, .int 0, .int 0])) :: dz0) H := hP
  have hD : va_D A ((q1, aI G 256 (fun _ => 0)) :: (h0, .inr (3, [.ref q1, .null, .int 0, .int 0, .int 0])) :: dz0) := hD
  refine lv_aload_n hx hb d_A_init_13 rfl (lv_at hl 0 rfl) ?_
  refine lv_bipush (v := (8 : Int32)) hx hb d_A_init_14 (by decide) ?_
  refine newA (atype := .int) (a0 := (8, .inl (fun _ => 0))) hx hb (htl _ k_177) rfl hK 1 rfl hP hD hS hA (fun _ => rfl) (by decide) (by decide) (by decide) (Nat.le_of_ble_eq_true rfl) (Nat.le_of_ble_eq_true rfl) d_A_init_16 (fun q2 H hP hD hS => ?_)
  refine W.widen (k := 2) (n := 264) (Nat.le_of_ble_eq_true rfl) (Nat.le_of_ble_eq_true rfl) ?_
  have hP : va_P G.1 classes ((q2, aI G 8 (fun _ => 0)) :: (q1, aI G 256 (fun _ => 0)) :: (h0, .inr (3, [.ref q1, .null, .int 0, .int 0, .int 0])) :: dz0) H := hP
  have hD : va_D A ((q2, aI G 8 (fun _ => 0)) :: (q1, aI G 256 (fun _ => 0)) :: (h0, .inr (3, [.ref q1, .null, .int 0, .int 0, .int 0])) :: dz0) := hD
  refine va_putF (D := G.1) (ci := 3) (v := .ref q2) (ty := .array .int) (C := n_A) (T := T_A) (N := 5) hx hb htl iw_A ty_A ty_A_ok nm_A hown hK hP hD hS 2 rfl rfl 1 (by decide) (htl _ k_423) (fun _ h9 => h9) rfl hin rfl (by decide +kernel) rfl rfl (Nat.le_of_ble_eq_true rfl) d_A_init_18 (fun H locs hP hD hS => ?_)
  have hP : va_P G.1 classes ((q2, aI G 8 (fun _ => 0)) :: (q1, aI G 256 (fun _ => 0)) :: (h0, .inr (3, [.ref q1, .ref q2, .int 0, .int 0, .int 0])) :: dz0) H := hP
  have hD : va_D A ((q2, aI G 8 (fun _ => 0)) :: (q1, aI G 256 (fun _ => 0)) :: (h0, .inr (3, [.ref q1, .ref q2, .int 0, .int 0, .int 0])) :: dz0) := hD
  rw [hdz0] at hP hD
  exact hret 21 ls _ _ (fun i => [q2, q1].getD i 0) (hP.sub [2, 0, 1] rfl) (hD.sub [2, 0, 1] (by decide +kernel) rfl) hS d_A_init_21
set_option maxHeartbeats 4000000 in
set_option maxRecDepth 100000 in
theorem n_V_init (l : Launch) (G : va_G × (Nat → ClassId)) : Cn l classes y_V_init b_V_init 1 (rmc 2 4 274) G.1 (tyL G) (fun _ => True) (.inr (2, [.null, .null])) (w_V G) 4 274 := by
  refine entC (by decide) rfl (Nat.le_of_ble_eq_true rfl) ?_
  intro h0 p e s m args below meth c ls A Q hx hb hml hown htl hK hX hin hA hP hD hS hl hret
  obtain ⟨dz0, hdz0⟩ : ∃ z : va_W, z = [] := ⟨_, rfl⟩
  have hP : va_P G.1 classes ((h0, .inr (2, [.null, .null])) :: dz0) s.heap := by rw [hdz0]; exact hP
  have hD : va_D A ((h0, .inr (2, [.null, .null])) :: dz0) := by rw [hdz0]; exact hD
  refine lv_aload_n hx hb d_V_init_0 rfl (lv_at hl 0 rfl) ?_
  refine W.objInit hx hb hown (htl _ k_443) (htl _ k_124) (htl _ k_125) rfl (by rw [hml]; exact hl.1) rfl d_V_init_1 (Nat.le_of_ble_eq_true rfl) (Nat.le_of_ble_eq_true rfl) ?_
  refine W.eq (g2 := F0 m 4 ls []) rfl ?_
  refine lv_aload_n hx hb d_V_init_4 rfl (lv_at hl 0 rfl) ?_
  refine va_new (D := G.1) (ci := 4) (fs := [.int 0, .int 0, .null, .null]) (C := n_P) (T := T_P) (N := 4) hx hb htl iw_P ty_P ty_P_ok hown (htl _ k_444) (htl _ k_179) (htl _ k_96) hK hP hD hS hA rfl (df_P) (Nat.le_of_ble_eq_true rfl) (Nat.le_of_ble_eq_true rfl) d_V_init_5 (fun q1 H hP hD hS => ?_)
  refine W.widen (k := 1) (n := 4) (Nat.le_of_ble_eq_true rfl) (Nat.le_of_ble_eq_true rfl) ?_
  have hP := vp_rot hP
  have hD := vd_rot hD
  have hP : va_P G.1 classes ((q1, .inr (4, [.int 0, .int 0, .null, .null])) :: (h0, .inr (2, [.null, .null])) :: dz0) H := hP
  have hD : va_D A ((q1, .inr (4, [.int 0, .int 0, .null, .null])) :: (h0, .inr (2, [.null, .null])) :: dz0) := hD
  refine lv_dup hx hb d_V_init_8 rfl ?_
  refine callC hx hb hml hown htl (n_P_init l G) xb_t trivial mi_P_init k_445 ⟨rfl, rfl, Nat.le_of_ble_eq_true rfl, Nat.le_of_ble_eq_true rfl, Nat.le_of_ble_eq_true rfl, Nat.le_of_ble_eq_true rfl⟩ hK hA hS hP hD hl.1 (lv_room (Nat.le_of_ble_eq_true rfl)) d_V_init_9 (fun H locs u2 hP hD hS => ?_)
  refine W.widen (k := 3) (n := 18) (Nat.le_of_ble_eq_true rfl) (Nat.le_of_ble_eq_true rfl) ?_
  have hP := vp_mid (a := w_P G (consF q1 u2)) (b := [(h0, .inr (2, [.null, .null]))]) hP
  have hD := vd_mid (a := w_P G (consF q1 u2)) (b := [(h0, .inr (2, [.null, .null]))]) hD
  obtain ⟨dz3, hdz3⟩ : ∃ z : va_W, z = w_P G (consF q1 u2) ++ dz0 := ⟨_, rfl⟩
  rw [← hdz3] at hP hD
  have hP : va_P G.1 classes ((h0, .inr (2, [.null, .null])) :: dz3) H := hP
  have hD : va_D A ((h0, .inr (2, [.null, .null])) :: dz3) := hD
  refine va_putF (D := G.1) (ci := 2) (v := .ref q1) (ty := .object "JoinOrders$Plan") (C := n_V) (T := T_V) (N := 2) hx hb htl iw_V ty_V ty_V_ok nm_V hown hK hP hD hS 0 rfl rfl 0 (by decide) (htl _ k_446) (fun _ h9 => h9) rfl hin rfl (by decide +kernel) rfl rfl (Nat.le_of_ble_eq_true rfl) d_V_init_12 (fun H locs hP hD hS => ?_)
  have hP : va_P G.1 classes ((h0, .inr (2, [.ref q1, .null])) :: dz3) H := hP
  have hD : va_D A ((h0, .inr (2, [.ref q1, .null])) :: dz3) := hD
  refine lv_aload_n hx hb d_V_init_15 rfl (lv_at hl 0 rfl) ?_
  refine lv_sipush (v := (256 : Int32)) hx hb d_V_init_16 (by decide) ?_
  refine newA (atype := .int) (a0 := (256, .inl (fun _ => 0))) hx hb (htl _ k_177) rfl hK 1 rfl hP hD hS hA (fun _ => rfl) (by decide) (by decide) (by decide) (Nat.le_of_ble_eq_true rfl) (Nat.le_of_ble_eq_true rfl) d_V_init_19 (fun q4 H hP hD hS => ?_)
  refine W.widen (k := 4) (n := 274) (Nat.le_of_ble_eq_true rfl) (Nat.le_of_ble_eq_true rfl) ?_
  have hP : va_P G.1 classes ((q4, aI G 256 (fun _ => 0)) :: (h0, .inr (2, [.ref q1, .null])) :: dz3) H := hP
  have hD : va_D A ((q4, aI G 256 (fun _ => 0)) :: (h0, .inr (2, [.ref q1, .null])) :: dz3) := hD
  refine va_putF (D := G.1) (ci := 2) (v := .ref q4) (ty := .array .int) (C := n_V) (T := T_V) (N := 2) hx hb htl iw_V ty_V ty_V_ok nm_V hown hK hP hD hS 1 rfl rfl 1 (by decide) (htl _ k_448) (fun _ h9 => h9) rfl hin rfl (by decide +kernel) rfl rfl (Nat.le_of_ble_eq_true rfl) d_V_init_21 (fun H locs hP hD hS => ?_)
  have hP : va_P G.1 classes ((q4, aI G 256 (fun _ => 0)) :: (h0, .inr (2, [.ref q1, .ref q4])) :: dz3) H := hP
  have hD : va_D A ((q4, aI G 256 (fun _ => 0)) :: (h0, .inr (2, [.ref q1, .ref q4])) :: dz3) := hD
  rw [hdz3, hdz0] at hP hD
  exact hret 24 ls _ _ (fun i => [q1, q4, u2 0, u2 1].getD i 0) (hP.sub [1, 2, 0, 3, 4] rfl) (hD.sub [1, 2, 0, 3, 4] (by decide +kernel) rfl) hS d_V_init_24
