theorem k_106 : (.initialized "java/lang/String" : Cond) ∈ lg_w := inG (List.mem_of_getElem? (i := 106) (by decide +kernel)) (by decide +kernel)
theorem k_107 : (.initialized "java/lang/StringLatin1" : Cond) ∈ lg_w := inG (List.mem_of_getElem? (i := 107) (by decide +kernel)) (by decide +kernel)
theorem k_108 : (.initialized "jdk/internal/util/Preconditions" : Cond) ∈ lg_w := inG (List.mem_of_getElem? (i := 108) (by decide +kernel)) (by decide +kernel)
theorem k_575 : (.instanceMethod ⟨"java/lang/String", "length", "()I"⟩ : Cond) ∈ lg_w := inG (List.mem_of_getElem? (i := 575) (by decide +kernel)) (by decide +kernel)
theorem k_576 : (.selects "java/lang/String" ⟨"java/lang/String", "length", "()I"⟩ ⟨"java/lang/String", "length", "()I"⟩ : Cond) ∈ lg_w := inG (List.mem_of_getElem? (i := 576) (by decide +kernel)) (by decide +kernel)
theorem k_577 : (.code ⟨"java/lang/String", "length", "()I"⟩ prog_22_method_54_code 1 (Option.some FieldType.int) : Cond) ∈ lg_w := inG (List.mem_of_getElem? (i := 577) (by decide +kernel)) (by decide +kernel)
theorem k_578 : (.methodLink "java/lang/String" 335 ⟨"java/lang/String", "coder", "()B"⟩ : Cond) ∈ lg_w := inG (List.mem_of_getElem? (i := 578) (by decide +kernel)) (by decide +kernel)
theorem k_579 : (.instanceMethod ⟨"java/lang/String", "coder", "()B"⟩ : Cond) ∈ lg_w := inG (List.mem_of_getElem? (i := 579) (by decide +kernel)) (by decide +kernel)
theorem k_580 : (.selects "java/lang/String" ⟨"java/lang/String", "coder", "()B"⟩ ⟨"java/lang/String", "coder", "()B"⟩ : Cond) ∈ lg_w := inG (List.mem_of_getElem? (i := 580) (by decide +kernel)) (by decide +kernel)
theorem k_581 : (.code ⟨"java/lang/String", "coder", "()B"⟩ prog_22_method_152_code 1 (Option.some FieldType.byte) : Cond) ∈ lg_w := inG (List.mem_of_getElem? (i := 581) (by decide +kernel)) (by decide +kernel)
theorem k_582 : (.fieldLink "java/lang/String" 38 "java/lang/String" "COMPACT_STRINGS" "Z" : Cond) ∈ lg_w := inG (List.mem_of_getElem? (i := 582) (by decide +kernel)) (by decide +kernel)
theorem k_585 : (.instanceMethod ⟨"java/lang/String", "charAt", "(I)C"⟩ : Cond) ∈ lg_w := inG (List.mem_of_getElem? (i := 585) (by decide +kernel)) (by decide +kernel)
theorem k_586 : (.selects "java/lang/String" ⟨"java/lang/String", "charAt", "(I)C"⟩ ⟨"java/lang/String", "charAt", "(I)C"⟩ : Cond) ∈ lg_w := inG (List.mem_of_getElem? (i := 586) (by decide +kernel)) (by decide +kernel)
theorem k_587 : (.code ⟨"java/lang/String", "charAt", "(I)C"⟩ prog_22_method_56_code 2 (Option.some FieldType.char) : Cond) ∈ lg_w := inG (List.mem_of_getElem? (i := 587) (by decide +kernel)) (by decide +kernel)
theorem k_588 : (.methodLink "java/lang/String" 492 ⟨"java/lang/String", "isLatin1", "()Z"⟩ : Cond) ∈ lg_w := inG (List.mem_of_getElem? (i := 588) (by decide +kernel)) (by decide +kernel)
theorem k_589 : (.instanceMethod ⟨"java/lang/String", "isLatin1", "()Z"⟩ : Cond) ∈ lg_w := inG (List.mem_of_getElem? (i := 589) (by decide +kernel)) (by decide +kernel)
theorem k_590 : (.selects "java/lang/String" ⟨"java/lang/String", "isLatin1", "()Z"⟩ ⟨"java/lang/String", "isLatin1", "()Z"⟩ : Cond) ∈ lg_w := inG (List.mem_of_getElem? (i := 590) (by decide +kernel)) (by decide +kernel)
theorem k_591 : (.code ⟨"java/lang/String", "isLatin1", "()Z"⟩ prog_22_method_154_code 1 (Option.some FieldType.boolean) : Cond) ∈ lg_w := inG (List.mem_of_getElem? (i := 591) (by decide +kernel)) (by decide +kernel)
theorem k_592 : (.methodLink "java/lang/String" 495 ⟨"java/lang/StringLatin1", "charAt", "([BI)C"⟩ : Cond) ∈ lg_w := inG (List.mem_of_getElem? (i := 592) (by decide +kernel)) (by decide +kernel)
theorem k_593 : (.static ⟨"java/lang/StringLatin1", "charAt", "([BI)C"⟩ : Cond) ∈ lg_w := inG (List.mem_of_getElem? (i := 593) (by decide +kernel)) (by decide +kernel)
theorem k_594 : (.code ⟨"java/lang/StringLatin1", "charAt", "([BI)C"⟩ prog_23_method_2_code 2 (Option.some FieldType.char) : Cond) ∈ lg_w := inG (List.mem_of_getElem? (i := 594) (by decide +kernel)) (by decide +kernel)
theorem k_595 : (.methodLink "java/lang/StringLatin1" 9 ⟨"java/lang/String", "checkIndex", "(II)V"⟩ : Cond) ∈ lg_w := inG (List.mem_of_getElem? (i := 595) (by decide +kernel)) (by decide +kernel)
theorem k_596 : (.static ⟨"java/lang/String", "checkIndex", "(II)V"⟩ : Cond) ∈ lg_w := inG (List.mem_of_getElem? (i := 596) (by decide +kernel)) (by decide +kernel)
theorem k_597 : (.code ⟨"java/lang/String", "checkIndex", "(II)V"⟩ prog_22_method_155_code 2 (Option.none : Option FieldType) : Cond) ∈ lg_w := inG (List.mem_of_getElem? (i := 597) (by decide +kernel)) (by decide +kernel)
theorem k_598 : (.fieldLink "java/lang/String" 1053 "jdk/internal/util/Preconditions" "SIOOBE_FORMATTER" "Ljava/util/function/BiFunction;" : Cond) ∈ lg_w := inG (List.mem_of_getElem? (i := 598) (by decide +kernel)) (by decide +kernel)
theorem k_600 : (.methodLink "java/lang/String" 1059 ⟨"jdk/internal/util/Preconditions", "checkIndex", "(IILjava/util/function/BiFunction;)I"⟩ : Cond) ∈ lg_w := inG (List.mem_of_getElem? (i := 600) (by decide +kernel)) (by decide +kernel)
theorem k_601 : (.static ⟨"jdk/internal/util/Preconditions", "checkIndex", "(IILjava/util/function/BiFunction;)I"⟩ : Cond) ∈ lg_w := inG (List.mem_of_getElem? (i := 601) (by decide +kernel)) (by decide +kernel)
theorem k_602 : (.code ⟨"jdk/internal/util/Preconditions", "checkIndex", "(IILjava/util/function/BiFunction;)I"⟩ prog_31_method_11_code 3 (Option.some FieldType.int) : Cond) ∈ lg_w := inG (List.mem_of_getElem? (i := 602) (by decide +kernel)) (by decide +kernel)
theorem k_1737 : (.fieldLink "java/lang/String" 9 "java/lang/String" "value" "[B" : Cond) ∈ lg_w := inG (List.mem_of_getElem? (i := 1737) (by decide +kernel)) (by decide +kernel)
theorem k_1738 : (.fieldLink "java/lang/String" 15 "java/lang/String" "coder" "B" : Cond) ∈ lg_w := inG (List.mem_of_getElem? (i := 1738) (by decide +kernel)) (by decide +kernel)
def n_Sr : String := "java/lang/String"
abbrev b_Sr_coder : ByteArray := prog_22_method_152_code
def y_Sr_coder : MethodName := ⟨"java/lang/String", "coder", "()B"⟩
theorem mv_Sr_coder : mV y_Sr_coder b_Sr_coder 1 (some (FieldType.byte)) n_Sr 0 := ⟨k_581, k_579, k_580, k_106, rfl, by decide +kernel, by decide +kernel, by decide +kernel⟩
abbrev b_Sr_isLatin1 : ByteArray := prog_22_method_154_code
def y_Sr_isLatin1 : MethodName := ⟨"java/lang/String", "isLatin1", "()Z"⟩
theorem mv_Sr_isLatin1 : mV y_Sr_isLatin1 b_Sr_isLatin1 1 (some .boolean) n_Sr 0 := ⟨k_591, k_589, k_590, k_106, rfl, by decide +kernel, by decide +kernel, by decide +kernel⟩
abbrev b_Sr_length : ByteArray := prog_22_method_54_code
def y_Sr_length : MethodName := ⟨"java/lang/String", "length", "()I"⟩
theorem mv_Sr_length : mV y_Sr_length b_Sr_length 1 (some .int) n_Sr 0 := ⟨k_577, k_575, k_576, k_106, rfl, by decide +kernel, by decide +kernel, by decide +kernel⟩
abbrev b_Sr_charAt : ByteArray := prog_22_method_56_code
def y_Sr_charAt : MethodName := ⟨"java/lang/String", "charAt", "(I)C"⟩
theorem mv_Sr_charAt : mV y_Sr_charAt b_Sr_charAt 2 (some (FieldType.char)) n_Sr 1 := ⟨k_587, k_585, k_586, k_106, rfl, by decide +kernel, by decide +kernel, by decide +kernel⟩
abbrev b_Sr_checkIndex : ByteArray := prog_22_method_155_code
def y_Sr_checkIndex : MethodName := ⟨"java/lang/String", "checkIndex", "(II)V"⟩
theorem ms_Sr_checkIndex : mS y_Sr_checkIndex b_Sr_checkIndex 2 none 2 := ⟨k_597, k_596, k_106, by decide +kernel, by decide +kernel, by decide +kernel⟩
abbrev b_Sl_charAt : ByteArray := prog_23_method_2_code
def y_Sl_charAt : MethodName := ⟨"java/lang/StringLatin1", "charAt", "([BI)C"⟩
theorem ms_Sl_charAt : mS y_Sl_charAt b_Sl_charAt 2 (some (FieldType.char)) 2 := ⟨k_594, k_593, k_107, by decide +kernel, by decide +kernel, by decide +kernel⟩
abbrev b_Pc_checkIndex : ByteArray := prog_31_method_11_code
def y_Pc_checkIndex : MethodName := ⟨"jdk/internal/util/Preconditions", "checkIndex", "(IILjava/util/function/BiFunction;)I"⟩
theorem ms_Pc_checkIndex : mS y_Pc_checkIndex b_Pc_checkIndex 3 (some .int) 3 := ⟨k_602, k_601, k_108, by decide +kernel, by decide +kernel, by decide +kernel⟩
theorem d_Sr_coder_0 : decode b_Sr_coder 0 = .ok (.getstatic 38, 3) := by decide +kernel
theorem d_Sr_coder_3 : decode b_Sr_coder 3 = .ok (.ifCond .eq 10, 3) := by decide +kernel
theorem d_Sr_coder_6 : decode b_Sr_coder 6 = .ok (.aload_n 0, 1) := by decide +kernel
theorem d_Sr_coder_7 : decode b_Sr_coder 7 = .ok (.getfield 15, 3) := by decide +kernel
theorem d_Sr_coder_10 : decode b_Sr_coder 10 = .ok (.goto 4, 3) := by decide +kernel
theorem d_Sr_coder_13 : decode b_Sr_coder 13 = .ok (.iconst 1, 1) := by decide +kernel
theorem d_Sr_coder_14 : decode b_Sr_coder 14 = .ok (.ireturn, 1) := by decide +kernel
theorem d_Sr_isLatin1_0 : decode b_Sr_isLatin1 0 = .ok (.getstatic 38, 3) := by decide +kernel
theorem d_Sr_isLatin1_3 : decode b_Sr_isLatin1 3 = .ok (.ifCond .eq 14, 3) := by decide +kernel
theorem d_Sr_isLatin1_6 : decode b_Sr_isLatin1 6 = .ok (.aload_n 0, 1) := by decide +kernel
theorem d_Sr_isLatin1_7 : decode b_Sr_isLatin1 7 = .ok (.getfield 15, 3) := by decide +kernel
theorem d_Sr_isLatin1_10 : decode b_Sr_isLatin1 10 = .ok (.ifCond .ne 7, 3) := by decide +kernel
theorem d_Sr_isLatin1_13 : decode b_Sr_isLatin1 13 = .ok (.iconst 1, 1) := by decide +kernel
theorem d_Sr_isLatin1_14 : decode b_Sr_isLatin1 14 = .ok (.goto 4, 3) := by decide +kernel
theorem d_Sr_isLatin1_17 : decode b_Sr_isLatin1 17 = .ok (.iconst 0, 1) := by decide +kernel
theorem d_Sr_isLatin1_18 : decode b_Sr_isLatin1 18 = .ok (.ireturn, 1) := by decide +kernel
theorem d_Sr_length_0 : decode b_Sr_length 0 = .ok (.aload_n 0, 1) := by decide +kernel
theorem d_Sr_length_1 : decode b_Sr_length 1 = .ok (.getfield 9, 3) := by decide +kernel
theorem d_Sr_length_4 : decode b_Sr_length 4 = .ok (.arraylength, 1) := by decide +kernel
theorem d_Sr_length_5 : decode b_Sr_length 5 = .ok (.aload_n 0, 1) := by decide +kernel
theorem d_Sr_length_6 : decode b_Sr_length 6 = .ok (.invokevirtual 335, 3) := by decide +kernel
theorem d_Sr_length_9 : decode b_Sr_length 9 = .ok (.ishr, 1) := by decide +kernel
theorem d_Sr_length_10 : decode b_Sr_length 10 = .ok (.ireturn, 1) := by decide +kernel
theorem d_Sr_charAt_0 : decode b_Sr_charAt 0 = .ok (.aload_n 0, 1) := by decide +kernel
theorem d_Sr_charAt_1 : decode b_Sr_charAt 1 = .ok (.invokevirtual 492, 3) := by decide +kernel
theorem d_Sr_charAt_4 : decode b_Sr_charAt 4 = .ok (.ifCond .eq 12, 3) := by decide +kernel
theorem d_Sr_charAt_7 : decode b_Sr_charAt 7 = .ok (.aload_n 0, 1) := by decide +kernel
theorem d_Sr_charAt_8 : decode b_Sr_charAt 8 = .ok (.getfield 9, 3) := by decide +kernel
theorem d_Sr_charAt_11 : decode b_Sr_charAt 11 = .ok (.iload_n 1, 1) := by decide +kernel
theorem d_Sr_charAt_12 : decode b_Sr_charAt 12 = .ok (.invokestatic 495, 3) := by decide +kernel
theorem d_Sr_charAt_15 : decode b_Sr_charAt 15 = .ok (.ireturn, 1) := by decide +kernel
theorem d_Sr_charAt_16 : decode b_Sr_charAt 16 = .ok (.aload_n 0, 1) := by decide +kernel
theorem d_Sr_charAt_17 : decode b_Sr_charAt 17 = .ok (.getfield 9, 3) := by decide +kernel
theorem d_Sr_charAt_20 : decode b_Sr_charAt 20 = .ok (.iload_n 1, 1) := by decide +kernel
theorem d_Sr_charAt_21 : decode b_Sr_charAt 21 = .ok (.invokestatic 498, 3) := by decide +kernel
theorem d_Sr_charAt_24 : decode b_Sr_charAt 24 = .ok (.ireturn, 1) := by decide +kernel
theorem d_Sr_checkIndex_0 : decode b_Sr_checkIndex 0 = .ok (.iload_n 0, 1) := by decide +kernel
theorem d_Sr_checkIndex_1 : decode b_Sr_checkIndex 1 = .ok (.iload_n 1, 1) := by decide +kernel
theorem d_Sr_checkIndex_2 : decode b_Sr_checkIndex 2 = .ok (.getstatic 1053, 3) := by decide +kernel
theorem d_Sr_checkIndex_5 : decode b_Sr_checkIndex 5 = .ok (.invokestatic 1059, 3) := by decide +kernel
theorem d_Sr_checkIndex_8 : decode b_Sr_checkIndex 8 = .ok (.pop, 1) := by decide +kernel
theorem d_Sr_checkIndex_9 : decode b_Sr_checkIndex 9 = .ok (.return_, 1) := by decide +kernel
theorem d_Sl_charAt_0 : decode b_Sl_charAt 0 = .ok (.iload_n 1, 1) := by decide +kernel
theorem d_Sl_charAt_1 : decode b_Sl_charAt 1 = .ok (.aload_n 0, 1) := by decide +kernel
theorem d_Sl_charAt_2 : decode b_Sl_charAt 2 = .ok (.arraylength, 1) := by decide +kernel
theorem d_Sl_charAt_3 : decode b_Sl_charAt 3 = .ok (.invokestatic 9, 3) := by decide +kernel
theorem d_Sl_charAt_6 : decode b_Sl_charAt 6 = .ok (.aload_n 0, 1) := by decide +kernel
theorem d_Sl_charAt_7 : decode b_Sl_charAt 7 = .ok (.iload_n 1, 1) := by decide +kernel
theorem d_Sl_charAt_8 : decode b_Sl_charAt 8 = .ok (.baload, 1) := by decide +kernel
theorem d_Sl_charAt_9 : decode b_Sl_charAt 9 = .ok (.sipush 255, 3) := by decide +kernel
theorem d_Sl_charAt_12 : decode b_Sl_charAt 12 = .ok (.iand, 1) := by decide +kernel
theorem d_Sl_charAt_13 : decode b_Sl_charAt 13 = .ok (.i2c, 1) := by decide +kernel
theorem d_Sl_charAt_14 : decode b_Sl_charAt 14 = .ok (.ireturn, 1) := by decide +kernel
theorem d_Pc_checkIndex_0 : decode b_Pc_checkIndex 0 = .ok (.iload_n 0, 1) := by decide +kernel
theorem d_Pc_checkIndex_1 : decode b_Pc_checkIndex 1 = .ok (.ifCond .lt 8, 3) := by decide +kernel
theorem d_Pc_checkIndex_4 : decode b_Pc_checkIndex 4 = .ok (.iload_n 0, 1) := by decide +kernel
theorem d_Pc_checkIndex_5 : decode b_Pc_checkIndex 5 = .ok (.iload_n 1, 1) := by decide +kernel
theorem d_Pc_checkIndex_6 : decode b_Pc_checkIndex 6 = .ok (.if_icmp .lt 10, 3) := by decide +kernel
theorem d_Pc_checkIndex_9 : decode b_Pc_checkIndex 9 = .ok (.aload_n 2, 1) := by decide +kernel
theorem d_Pc_checkIndex_10 : decode b_Pc_checkIndex 10 = .ok (.iload_n 0, 1) := by decide +kernel
theorem d_Pc_checkIndex_11 : decode b_Pc_checkIndex 11 = .ok (.iload_n 1, 1) := by decide +kernel
theorem d_Pc_checkIndex_12 : decode b_Pc_checkIndex 12 = .ok (.invokestatic 95, 3) := by decide +kernel
theorem d_Pc_checkIndex_15 : decode b_Pc_checkIndex 15 = .ok (.athrow, 1) := by decide +kernel
theorem d_Pc_checkIndex_16 : decode b_Pc_checkIndex 16 = .ok (.iload_n 0, 1) := by decide +kernel
theorem d_Pc_checkIndex_17 : decode b_Pc_checkIndex 17 = .ok (.ireturn, 1) := by decide +kernel
section STRS
variable {p : Program} {l : Launch} {e : Env} {R : Room} {s : State} {m : MethodId} {args : Array Value} {below : List Frame} {meth : Method} {c : Code} {H : Heap} {locs : List Loc} {cells slots : Nat} {Q : State → Prop} {cc : ByteArray} {D : va_G} {cl : List vw_C} {ty : List (ClassId × FieldType)} {Y : (Nat → Nat) × (Nat → Nat)} {A : Nat → Prop} {ws wc w0 w1 : va_W} {isC : List Nat} {pc : Nat} {ls : Array Slot} {st0 rest : List Value}
theorem entN {y : MethodName} {b : ByteArray} {n : Nat} {rm : Room} {av : List Value} {v : Int32} {rt : FieldType} (hy : plainName y.cls = true) (hle : (lg_sl av).length ≤ n)
    (body : ∀ (p : Program) (e : Env) (s : State) (m : MethodId) (args : Array Value) (below : List Frame) (meth : Method) (c : Code) (ls : Array Slot) (A : Nat → Prop) (Q : State → Prop), p.tables.exec = Jvm.exec → c.code = b → c.maxLocals = n → s.vm.findClass y.cls = some m.cls → (∀ w ∈ lg_w, w.before args s = true) → va_K D cl ty s → sK Y A s s.heap → PDS D cl A s w0 s.heap [] → lv_has ls n (lv_args 0 av) →
      (∀ (pc : Nat) (ls : Array Slot) (H : Heap) (locs : List Loc), narrow rt (.int v) = .int v → va_P D cl w1 H → va_S A s.heap H locs → decode b pc = .ok (.ireturn, 1) → W p l e rm s m args below meth c H locs 0 0 Q (F0 m pc ls [.int v])) →
      W p l e rm s m args below meth c s.heap [] 0 0 Q (F0 m 0 ls [])) : Ci l cl y b n (some rt) rm D ty Y av w0 w1 v :=
  ent hy hle (fun p e s m below meth c ls hx hb hr hlocks hml hown htl hK hsk hP hD hl => body p e s m av.toArray below meth c ls (cA w0) _ hx hb hml hown htl hK hsk ⟨hP, hD, va_S.rf⟩ hl (fun pc ls H locs hn hP hS hd => W.zret hx hb hr hn (fun t ht _ => ⟨⟨v, (), rfl, rfl, by subst ht; exact hP⟩, hS.F ht⟩) hS.2.2 hd (hlocks := hlocks)))
theorem run_Vs {y : MethodName} {b : ByteArray} {n nL idx k x : Nat} {r : Option FieldType} {rm : Room} {Qc : Array Value → State → Outcome → State → Prop} {free : Addr → Prop} {own C : String} {As : List Value} (hx : p.tables.exec = Jvm.exec) (hb : c.code = cc) (hml : c.maxLocals = nL) (hown : s.vm.findClass own = some m.cls) (htl : ∀ w ∈ lg_w, w.before args s = true) (hM : Met l y (wl y b n r) rm (va_Pc (.ref x :: As) (cP D cl ty Y wc)) Qc 0 0 free)
    (hm : mV y b n r C k) (hl : Cond.methodLink own idx y ∈ lg_w) (hR : rm.cells = 0 ∧ rm.slots = 0 ∧ rm.frames + 1 ≤ R.frames ∧ 8 + (n + 11) + rm.locals ≤ R.locals ∧ cells ≤ R.cells ∧ slots ≤ R.slots) (hK : va_K D cl ty s) (hsk : sK Y A s s.heap) (hS : va_S A s.heap H locs) (hP : va_P D cl ws H) (hD : va_D A ws) (hC : isC.map (fun i => ws[i]?) = wc.map some) (hn : va_nd isC = true)
    (hrecv : ∃ cell : Cell, H[x]? = some cell ∧ cell.vm.isStatics = false ∧ s.vm.findClass C = some cell.cls) (hk : As.length = k) (hsize : ls.size = nL) (hst : st0 = As.reverse ++ .ref x :: rest) (hW : 2 * (F0 m pc ls st0).monitorRoom + (rest.map fun v => v.category).sum ≤ 8) (hdg : decode cc pc = .ok (.invokevirtual idx, 3)) :
    va_Run p l e R s m args below meth c H locs cells slots 0 0 (F0 m pc ls st0) rest (Qc (Value.ref x :: As).toArray) free := by
  obtain ⟨m1, m2, m3, m4, m5⟩ := hm
  have hcw : CallW R s args own C idx y b n r (wl y b n r) rm 0 0 k := by
    refine ⟨callB_of k htl (gI m1) rfl hR.1 hR.2.1 (htl _ (by rw [m5.1]; exact m4)) (htl _ hl) m5.2 ⟨hR.2.2.1, hR.2.2.2.1⟩, htl _ m2, htl _ m3⟩
  exact va_runV (As := As) (rest := rest) ⟨hx, hb, hml, hown, htl⟩ hM hcw ⟨cP_blind, hrecv, pcP hK hsk hS hP hD hC hn⟩ rfl hk hsize hst hW hdg ⟨hR.2.2.2.2.1, hR.2.2.2.2.2⟩
theorem t_alen (hx : p.tables.exec = Jvm.exec) (hb : c.code = cc) {tt : FieldType} {t N : Nat} {f : Nat → Value} (hT : va_T tt t N f A s s.heap) (hS : va_S A s.heap H locs) (hdg : decode cc pc = .ok (.arraylength, 1))
    (kk : W p l e R s m args below meth c H locs cells slots Q (F0 m (pc + 1) ls (.int (Int32.ofNat N) :: rest))) : W p l e R s m args below meth c H locs cells slots Q (F0 m pc ls (.ref t :: rest)) := by
  obtain ⟨cell, h1, h2, h3, h4, h5, h6, h7⟩ := hT.kept hS.2.1
  exact W.alen hx hb h1 h2 h5 rfl rfl hdg kk
end STRS
theorem c_Sr_coder (l : Launch) (G : va_G × (Nat → ClassId)) (Y : (Nat → Nat) × (Nat → Nat)) (j : Nat) (hj : j < 4) : Ci l classes y_Sr_coder b_Sr_coder 1 (some .byte) (rmk 0) G.1 (tyL G) Y [.ref (Y.1 j)] [] [] 0 := by
  refine entN (by decide) (Nat.le_of_ble_eq_true rfl) ?_
  intro p e s m args below meth c ls A Q hx hb hml hown htl hK hsk wq hl hret
  obtain ⟨hP, hD, hS⟩ := wq
  have hl : lv_has ls 1 [(0, .ref (Y.1 j))] := hl
  refine va_gets hx hb hsk.2.2.2.1 hS hown (htl _ k_582) (fun _ h => h) d_Sr_coder_0 ?_
  refine lv_if_eq (tgt := 13) hx hb d_Sr_coder_3 (by decide) (fun c => absurd c (by decide)) (fun c => ?_)
  refine lv_aload_n hx hb d_Sr_coder_6 rfl (lv_at hl 0 rfl) ?_
  refine vk_getf hx hb (hsk.1.1 j hj).2.1 hS hown (htl _ k_1738) (fun _ h => h) d_Sr_coder_7 ?_
  refine lv_goto (tgt := 14) hx hb d_Sr_coder_10 (by decide) ?_
  exact hret 14 ls _ _ rfl hP hS d_Sr_coder_14
theorem c_Sr_isLatin1 (l : Launch) (G : va_G × (Nat → ClassId)) (Y : (Nat → Nat) × (Nat → Nat)) (j : Nat) (hj : j < 4) : Ci l classes y_Sr_isLatin1 b_Sr_isLatin1 1 (some .boolean) (rmk 0) G.1 (tyL G) Y [.ref (Y.1 j)] [] [] 1 := by
  refine entZ (by decide) (Nat.le_of_ble_eq_true rfl) ?_
  intro p e s m args below meth c ls A Q hx hb hml hown htl hK hsk wq hl hret
  obtain ⟨hP, hD, hS⟩ := wq
  have hl : lv_has ls 1 [(0, .ref (Y.1 j))] := hl
  refine va_gets hx hb hsk.2.2.2.1 hS hown (htl _ k_582) (fun _ h => h) d_Sr_isLatin1_0 ?_
  refine lv_if_eq (tgt := 17) hx hb d_Sr_isLatin1_3 (by decide) (fun c => absurd c (by decide)) (fun c => ?_)
  refine lv_aload_n hx hb d_Sr_isLatin1_6 rfl (lv_at hl 0 rfl) ?_
  refine vk_getf hx hb (hsk.1.1 j hj).2.1 hS hown (htl _ k_1738) (fun _ h => h) d_Sr_isLatin1_7 ?_
  refine lv_if_ne (tgt := 17) hx hb d_Sr_isLatin1_10 (by decide) (fun c => absurd rfl c) (fun c => ?_)
  refine lv_iconst (v := (1 : Int32)) hx hb d_Sr_isLatin1_13 (by decide) ?_
  refine lv_goto (tgt := 18) hx hb d_Sr_isLatin1_14 (by decide) ?_
  exact hret 18 ls _ _ z_1 hP hS d_Sr_isLatin1_18
theorem c_Sr_length (l : Launch) (G : va_G × (Nat → ClassId)) (Y : (Nat → Nat) × (Nat → Nat)) (j : Nat) (hj : j < 4) : Ci l classes y_Sr_length b_Sr_length 1 (some .int) (rmk 1) G.1 (tyL G) Y [.ref (Y.1 j)] [] [] (Int32.ofNat (sLen.getD j 0)) := by
  refine entI (by decide) (Nat.le_of_ble_eq_true rfl) ?_
  intro p e s m args below meth c ls A Q hx hb hml hown htl hK hsk wq hl hret
  obtain ⟨hP, hD, hS⟩ := wq
  have hl : lv_has ls 1 [(0, .ref (Y.1 j))] := hl
  refine lv_aload_n hx hb d_Sr_length_0 rfl (lv_at hl 0 rfl) ?_
  refine vk_getf hx hb (hsk.1.1 j hj).2.2.1 hS hown (htl _ k_1737) (fun _ h => h) d_Sr_length_1 ?_
  refine t_alen hx hb (hsk.1.1 j hj).2.2.2 hS d_Sr_length_4 ?_
  refine lv_aload_n hx hb d_Sr_length_5 rfl (lv_at hl 0 rfl) ?_
  refine call_i (isC := []) (run_Vs (As := []) (rest := [.int (Int32.ofNat (sLen.getD j 0))]) hx hb hml hown htl (c_Sr_coder l G Y j hj) mv_Sr_coder k_578 (hRk (by decide) (by decide)) hK hsk hS hP hD (isC := []) rfl (by decide) (vk_recv hsk.1 hj hS) rfl hl.1 rfl (lv_room (Nat.le_of_ble_eq_true rfl)) d_Sr_length_6) hP hD hS rfl rfl (fun H locs hP hD hS => ?_)
  refine lv_ishr hx hb d_Sr_length_9 ?_
  rw [sb_shr0]
  exact hret 10 ls _ _ hP hS d_Sr_length_10
theorem c_Pc_checkIndex_n (l : Launch) (G : va_G × (Nat → ClassId)) (Y : (Nat → Nat) × (Nat → Nat)) (i n : Int32) (h0 : ¬ i < 0) (h1 : i < n) : Ci l classes y_Pc_checkIndex b_Pc_checkIndex 3 (some .int) (rmk 0) G.1 (tyL G) Y [.int i, .int n, .null] [] [] i := by
  refine entI (by decide) (Nat.le_of_ble_eq_true rfl) ?_
  intro p e s m args below meth c ls A Q hx hb hml hown htl hK hsk wq hl hret
  obtain ⟨hP, hD, hS⟩ := wq
  have hl : lv_has ls 3 [(0, .int i), (1, .int n), (2, .null)] := hl
  refine lv_iload_n hx hb d_Pc_checkIndex_0 rfl (lv_at hl 0 rfl) ?_
  refine lv_if_lt (tgt := 9) hx hb d_Pc_checkIndex_1 (by decide) (fun c => absurd c h0) (fun c => ?_)
  refine lv_iload_n hx hb d_Pc_checkIndex_4 rfl (lv_at hl 0 rfl) ?_
  refine lv_iload_n hx hb d_Pc_checkIndex_5 rfl (lv_at hl 1 rfl) ?_
  refine lv_icmp_lt (tgt := 16) hx hb d_Pc_checkIndex_6 (by decide) (fun c => ?_) (fun c => absurd h1 c)
  refine lv_iload_n hx hb d_Pc_checkIndex_16 rfl (lv_at hl 0 rfl) ?_
  exact hret 17 ls _ _ hP hS d_Pc_checkIndex_17
theorem c_Pc_checkIndex_r (l : Launch) (G : va_G × (Nat → ClassId)) (Y : (Nat → Nat) × (Nat → Nat)) (t : Nat) (i n : Int32) (h0 : ¬ i < 0) (h1 : i < n) : Ci l classes y_Pc_checkIndex b_Pc_checkIndex 3 (some .int) (rmk 0) G.1 (tyL G) Y [.int i, .int n, .ref t] [] [] i := by
  refine entI (by decide) (Nat.le_of_ble_eq_true rfl) ?_
  intro p e s m args below meth c ls A Q hx hb hml hown htl hK hsk wq hl hret
  obtain ⟨hP, hD, hS⟩ := wq
  have hl : lv_has ls 3 [(0, .int i), (1, .int n), (2, .ref t)] := hl
  refine lv_iload_n hx hb d_Pc_checkIndex_0 rfl (lv_at hl 0 rfl) ?_
  refine lv_if_lt (tgt := 9) hx hb d_Pc_checkIndex_1 (by decide) (fun c => absurd c h0) (fun c => ?_)
  refine lv_iload_n hx hb d_Pc_checkIndex_4 rfl (lv_at hl 0 rfl) ?_
  refine lv_iload_n hx hb d_Pc_checkIndex_5 rfl (lv_at hl 1 rfl) ?_
  refine lv_icmp_lt (tgt := 16) hx hb d_Pc_checkIndex_6 (by decide) (fun c => ?_) (fun c => absurd h1 c)
  refine lv_iload_n hx hb d_Pc_checkIndex_16 rfl (lv_at hl 0 rfl) ?_
  exact hret 17 ls _ _ hP hS d_Pc_checkIndex_17
theorem c_Sr_checkIndex (l : Launch) (G : va_G × (Nat → ClassId)) (Y : (Nat → Nat) × (Nat → Nat)) (i n : Int32) (h0 : ¬ i < 0) (h1 : i < n) : Cv l classes y_Sr_checkIndex b_Sr_checkIndex 2 none (rmk 1) G.1 (tyL G) Y [.int i, .int n] [] [] := by
  refine entV (by decide) (Nat.le_of_ble_eq_true rfl) ?_
  intro p e s m args below meth c ls A Q hx hb hml hown htl hK hsk wq hl hret
  obtain ⟨hP, hD, hS⟩ := wq
  have hl : lv_has ls 2 [(0, .int i), (1, .int n)] := hl
  refine lv_iload_n hx hb d_Sr_checkIndex_0 rfl (lv_at hl 0 rfl) ?_
  refine lv_iload_n hx hb d_Sr_checkIndex_1 rfl (lv_at hl 1 rfl) ?_
  rcases hsk.2.2.2.2.1 with hz | ⟨t, hz⟩
  · refine va_gets hx hb hz hS hown (htl _ k_598) (fun _ h => h) d_Sr_checkIndex_2 ?_
    refine call_i (isC := []) (run_S (As := [.int i, .int n, .null]) (rest := []) hx hb hml hown htl (c_Pc_checkIndex_n l G Y i n h0 h1) ms_Pc_checkIndex k_600 (hRk (by decide) (by decide)) hK hsk hS hP hD (isC := []) rfl (by decide) rfl hl.1 rfl (lv_room (Nat.le_of_ble_eq_true rfl)) d_Sr_checkIndex_5) hP hD hS rfl rfl (fun H locs hP hD hS => ?_)
    refine lv_pop hx hb d_Sr_checkIndex_8 rfl ?_
    exact hret 9 ls _ _ hP hS d_Sr_checkIndex_9
  · refine va_gets hx hb hz hS hown (htl _ k_598) (fun _ h => h) d_Sr_checkIndex_2 ?_
    refine call_i (isC := []) (run_S (As := [.int i, .int n, .ref t]) (rest := []) hx hb hml hown htl (c_Pc_checkIndex_r l G Y t i n h0 h1) ms_Pc_checkIndex k_600 (hRk (by decide) (by decide)) hK hsk hS hP hD (isC := []) rfl (by decide) rfl hl.1 rfl (lv_room (Nat.le_of_ble_eq_true rfl)) d_Sr_checkIndex_5) hP hD hS rfl rfl (fun H locs hP hD hS => ?_)
    refine lv_pop hx hb d_Sr_checkIndex_8 rfl ?_
    exact hret 9 ls _ _ hP hS d_Sr_checkIndex_9
theorem sB_ok : ∀ j, j < 4 → ∀ i, i < sLen.getD j 0 → (((sByt.getD j []).getD i 0 &&& 255).toUInt32 % 65536).toInt32 = (sByt.getD j []).getD i 0 ∧ narrow .char (.int ((sByt.getD j []).getD i 0)) = .int ((sByt.getD j []).getD i 0) := by decide +kernel
theorem sL_lt : ∀ j, j < 4 → sLen.getD j 0 < 2 ^ 31 := by decide
theorem in_lt {i : Int32} {n : Nat} (h : inb i n) (hn : n < 2 ^ 31) : ¬ i < 0 ∧ i < Int32.ofNat n ∧ i.toNatClampNeg < n := by
  obtain ⟨k, hk, rfl⟩ := vp_in_of (x := i) (n := n) h hn
  exact ⟨nI_pos (by omega), nI_lt hk hn, by rw [nI_clamp (by omega)]; exact hk⟩
theorem c_Sl_charAt (l : Launch) (G : va_G × (Nat → ClassId)) (Y : (Nat → Nat) × (Nat → Nat)) (j : Nat) (hj : j < 4) (i : Int32) (hi : inb i (sLen.getD j 0)) : Ci l classes y_Sl_charAt b_Sl_charAt 2 (some .char) (rmk 2) G.1 (tyL G) Y [.ref (Y.2 j), .int i] [] [] ((sByt.getD j []).getD i.toNatClampNeg 0) := by
  obtain ⟨q1, q2, q3⟩ := in_lt hi (sL_lt j hj)
  refine entN (by decide) (Nat.le_of_ble_eq_true rfl) ?_
  intro p e s m args below meth c ls A Q hx hb hml hown htl hK hsk wq hl hret
  obtain ⟨hP, hD, hS⟩ := wq
  have hl : lv_has ls 2 [(0, .ref (Y.2 j)), (1, .int i)] := hl
  refine lv_iload_n hx hb d_Sl_charAt_0 rfl (lv_at hl 1 rfl) ?_
  refine lv_aload_n hx hb d_Sl_charAt_1 rfl (lv_at hl 0 rfl) ?_
  refine t_alen hx hb (hsk.1.1 j hj).2.2.2 hS d_Sl_charAt_2 ?_
  refine call_v (isC := []) (run_S (As := [.int i, .int (Int32.ofNat (sLen.getD j 0))]) (rest := []) hx hb hml hown htl (c_Sr_checkIndex l G Y i (Int32.ofNat (sLen.getD j 0)) q1 q2) ms_Sr_checkIndex k_595 (hRk (by decide) (by decide)) hK hsk hS hP hD (isC := []) rfl (by decide) rfl hl.1 rfl (lv_room (Nat.le_of_ble_eq_true rfl)) d_Sl_charAt_3) hP hD hS rfl rfl (fun H locs hP hD hS => ?_)
  refine lv_aload_n hx hb d_Sl_charAt_6 rfl (lv_at hl 0 rfl) ?_
  refine lv_iload_n hx hb d_Sl_charAt_7 rfl (lv_at hl 1 rfl) ?_
  refine va_tb hx hb (hsk.1.1 j hj).2.2.2 hS hi rfl d_Sl_charAt_8 ?_
  refine lv_sipush (v := (255 : Int32)) hx hb d_Sl_charAt_9 (by decide) ?_
  refine lv_iand hx hb d_Sl_charAt_12 ?_
  refine lv_i2c hx hb d_Sl_charAt_13 (sB_ok j hj _ q3).1 ?_
  exact hret 14 ls _ _ (sB_ok j hj _ q3).2 hP hS d_Sl_charAt_14
theorem c_Sr_charAt (l : Launch) (G : va_G × (Nat → ClassId)) (Y : (Nat → Nat) × (Nat → Nat)) (j : Nat) (hj : j < 4) (i : Int32) (hi : inb i (sLen.getD j 0)) : Ci l classes y_Sr_charAt b_Sr_charAt 2 (some .char) (rmk 3) G.1 (tyL G) Y [.ref (Y.1 j), .int i] [] [] ((sByt.getD j []).getD i.toNatClampNeg 0) := by
  obtain ⟨q1, q2, q3⟩ := in_lt hi (sL_lt j hj)
  refine entN (by decide) (Nat.le_of_ble_eq_true rfl) ?_
  intro p e s m args below meth c ls A Q hx hb hml hown htl hK hsk wq hl hret
  obtain ⟨hP, hD, hS⟩ := wq
  have hl : lv_has ls 2 [(0, .ref (Y.1 j)), (1, .int i)] := hl
  refine lv_aload_n hx hb d_Sr_charAt_0 rfl (lv_at hl 0 rfl) ?_
  refine call_i (isC := []) (run_Vs (As := []) (rest := []) hx hb hml hown htl (c_Sr_isLatin1 l G Y j hj) mv_Sr_isLatin1 k_588 (hRk (by decide) (by decide)) hK hsk hS hP hD (isC := []) rfl (by decide) (vk_recv hsk.1 hj hS) rfl hl.1 rfl (lv_room (Nat.le_of_ble_eq_true rfl)) d_Sr_charAt_1) hP hD hS rfl rfl (fun H locs hP hD hS => ?_)
  refine lv_if_eq (tgt := 16) hx hb d_Sr_charAt_4 (by decide) (fun c => absurd c (by decide)) (fun c => ?_)
  refine lv_aload_n hx hb d_Sr_charAt_7 rfl (lv_at hl 0 rfl) ?_
  refine vk_getf hx hb (hsk.1.1 j hj).2.2.1 hS hown (htl _ k_1737) (fun _ h => h) d_Sr_charAt_8 ?_
  refine lv_iload_n hx hb d_Sr_charAt_11 rfl (lv_at hl 1 rfl) ?_
  refine call_i (isC := []) (run_S (As := [.ref (Y.2 j), .int i]) (rest := []) hx hb hml hown htl (c_Sl_charAt l G Y j hj i hi) ms_Sl_charAt k_592 (hRk (by decide) (by decide)) hK hsk hS hP hD (isC := []) rfl (by decide) rfl hl.1 rfl (lv_room (Nat.le_of_ble_eq_true rfl)) d_Sr_charAt_12) hP hD hS rfl rfl (fun H locs hP hD hS => ?_)
  exact hret 15 ls _ _ (sB_ok j hj _ q3).2 hP hS d_Sr_charAt_15

