theorem le_sel {args : Array Value} {s : State} (hts : ∀ w ∈ lw_tbl, w.before args s = true) {C : String} {n : Nat} (h1 : Cond.instantiable C n ∈ lw_tbl) (h2 : Cond.selects C ⟨"JoinOrders$Reading", "read", "(LJoinOrders$Text;)V"⟩ ⟨"JoinOrders$Reading", "read", "(LJoinOrders$Text;)V"⟩ ∈ lw_tbl) : (Cond.selects C lx_y lx_y).before args s = true := by
  obtain ⟨c, k, hc, hk, -, -, -, -⟩ := Cond.instantiable_spec (hts _ h1)
  obtain ⟨mk, methM, hnamed, hmethM, -, -⟩ := Cond.instanceMethod_spec (hts (.instanceMethod lx_y) (List.mem_of_getElem? (i := 642) (by decide +kernel)))
  have hfound : s.methodFound? lx_y.cls lx_y.name lx_y.desc = some mk := State.methodFound?_of_named hnamed ⟨by decide, by decide⟩
  have hsel : selectMethod {} s.vm c mk = .method mk := selectMethod_private hmethM (Cond.privateMethod_at (hts (.privateMethod lx_y) (List.mem_of_getElem? (i := 641) (by decide +kernel))) mk methM hnamed hmethM)
  obtain ⟨c2, r2, m2, q1, q2, q3, q4, kk, hkk, hni⟩ := Cond.selects_spec (hts _ h2)
  have hca : s.vm.findClass "JoinOrders$Reading" = some m2.cls := findClass_of_methodNamed q3
  have hcb : s.vm.findClass "JoinOrders$Reading" = some mk.cls := findClass_of_methodNamed hnamed
  have hcls : m2.cls = mk.cls := Option.some.inj (hca.symm.trans hcb)
  rw [hcls] at hkk
  simp only [Cond.before, Cond.holds, Cond.value, hc, hfound, hnamed, hsel, hkk]
  simp
  exact hni
theorem le_htl {args : Array Value} {s : State} (hts : ∀ w ∈ lw_tbl, w.before args s = true) : ∀ w ∈ lg_w, w.before args s = true := by
  intro w hw
  rcases List.mem_append.mp hw with h | h
  · rcases List.mem_cons.mp h with h | h
    · rw [h]
      exact le_sel hts (C := "JoinOrders$QueryReading") (n := 6) (List.mem_of_getElem? (i := 272) (by decide +kernel)) (List.mem_of_getElem? (i := 528) (by decide +kernel))
    · rcases List.mem_cons.mp h with h | h
      · rw [h]
        exact le_sel hts (C := "JoinOrders$PlanReading") (n := 9) (List.mem_of_getElem? (i := 305) (by decide +kernel)) (List.mem_of_getElem? (i := 527) (by decide +kernel))
      · cases h
  · exact hts w (List.mem_filter.mp h).1
theorem le_arr {args : Array Value} {s : State} {t : FieldType} (h : (Cond.arrayClass t).before args s = true) : ∃ cA, s.vm.findClass ("[" ++ t.toString) = some cA ∧ ArrOfT s cA t := by
  obtain ⟨c, k, comp, h1, h2, h3⟩ := Cond.arrayClass_spec h
  exact ⟨c, h1, fun n z => ⟨fun k h => (by cases h), k, h2, comp, h3⟩⟩
theorem le_obj {args : Array Value} {s : State} {C : String} (h : (Cond.arrayOver (.object C)).before args s = true) : ∃ cA, va_RA s cA (.object C) ∧ ArrOfT s cA (.object C) := by
  obtain ⟨comp, c, k, h1, h2, h3, h4, h5⟩ := Cond.arrayOver_spec h
  exact ⟨c, ⟨k, comp, h3, h4, h1, h5⟩, fun n z => ⟨fun k h => (by cases h), k, h3, comp, h4⟩⟩
theorem le_K {args : Array Value} {s : State} (hts : ∀ w ∈ lw_tbl, w.before args s = true) : ∃ G : va_G × (Nat → ClassId), va_K G.1 classes (tyL G) s := by
  have htl := le_htl hts
  obtain ⟨cB, iB, hB⟩ := u_known (C := n_B) (T := T_B) (N := 4) (n := 4) htl iw_B (hts (.instantiable "JoinOrders$Best" 4) (List.mem_of_getElem? (i := 389) (by decide +kernel)))
  obtain ⟨cG, iG, hG⟩ := u_known (C := n_G) (T := T_G) (N := 7) (n := 7) htl iw_G (hts (.instantiable "JoinOrders$Graph" 7) (List.mem_of_getElem? (i := 133) (by decide +kernel)))
  obtain ⟨cV, iV, hV⟩ := u_known (C := n_V) (T := T_V) (N := 2) (n := 2) htl iw_V (hts (.instantiable "JoinOrders$Mover" 2) (List.mem_of_getElem? (i := 435) (by decide +kernel)))
  obtain ⟨cA, iA, hA⟩ := u_known (C := n_A) (T := T_A) (N := 5) (n := 5) htl iw_A (hts (.instantiable "JoinOrders$Parts" 5) (List.mem_of_getElem? (i := 412) (by decide +kernel)))
  obtain ⟨cP, iP, hP⟩ := u_known (C := n_P) (T := T_P) (N := 4) (n := 4) htl iw_P (hts (.instantiable "JoinOrders$Plan" 4) (List.mem_of_getElem? (i := 179) (by decide +kernel)))
  obtain ⟨cL, iL, hL⟩ := u_known (C := n_L) (T := T_L) (N := 9) (n := 9) htl iw_L (hts (.instantiable "JoinOrders$PlanReading" 9) (List.mem_of_getElem? (i := 305) (by decide +kernel)))
  obtain ⟨cQ, iQ, hQ⟩ := u_known (C := n_Q) (T := T_Q) (N := 6) (n := 6) htl iw_Q (hts (.instantiable "JoinOrders$QueryReading" 6) (List.mem_of_getElem? (i := 272) (by decide +kernel)))
  obtain ⟨cS, iS, hS⟩ := u_known (C := n_S) (T := T_S) (N := 11) (n := 11) htl iw_S (hts (.instantiable "JoinOrders$Sets" 11) (List.mem_of_getElem? (i := 337) (by decide +kernel)))
  obtain ⟨cU, iU, hU⟩ := u_known (C := n_U) (T := T_U) (N := 6) (n := 6) htl iw_U (hts (.instantiable "JoinOrders$State" 6) (List.mem_of_getElem? (i := 127) (by decide +kernel)))
  obtain ⟨cT, iT, hT⟩ := u_known (C := n_T) (T := T_T) (N := 6) (n := 6) htl iw_T (hts (.instantiable "JoinOrders$Text" 6) (List.mem_of_getElem? (i := 209) (by decide +kernel)))
  obtain ⟨cJ, iJ, hJ⟩ := u_known (C := n_J) (T := T_J) (N := 18) (n := 18) htl iw_J (hts (.instantiable "JoinOrders" 18) (List.mem_of_getElem? (i := 119) (by decide +kernel)))
  obtain ⟨cR, iR, hR⟩ := u_known (C := n_R) (T := T_R) (N := 44) (n := 44) htl iw_R (hts (.instantiable "JoinOrdersModel" 44) (List.mem_of_getElem? (i := 1196) (by decide +kernel)))
  obtain ⟨a0, r0, q0⟩ := le_arr (hts (.arrayClass FieldType.byte) (List.mem_of_getElem? (i := 734) (by decide +kernel)))
  obtain ⟨a1, r1, q1⟩ := le_arr (hts (.arrayClass FieldType.int) (List.mem_of_getElem? (i := 177) (by decide +kernel)))
  obtain ⟨a2, r2, q2⟩ := le_arr (hts (.arrayClass FieldType.long) (List.mem_of_getElem? (i := 386) (by decide +kernel)))
  obtain ⟨a3, r3, q3⟩ := le_arr (hts (.arrayClass FieldType.boolean) (List.mem_of_getElem? (i := 387) (by decide +kernel)))
  obtain ⟨a4, r4, q4⟩ := le_obj (hts (.arrayOver (FieldType.object "JoinOrders$Graph")) (List.mem_of_getElem? (i := 266) (by decide +kernel)))
  obtain ⟨a5, r5, q5⟩ := le_obj (hts (.arrayOver (FieldType.object "JoinOrders$Plan")) (List.mem_of_getElem? (i := 268) (by decide +kernel)))
  obtain ⟨a6, r6, q6⟩ := le_obj (hts (.arrayOver (FieldType.object "JoinOrders$State")) (List.mem_of_getElem? (i := 264) (by decide +kernel)))
  refine ⟨((fun k => match k with | 0 => cB | 1 => cG | 2 => cV | 3 => cA | 4 => cP | 5 => cL | 6 => cQ | 7 => cB | 8 => cS | 9 => cU | 10 => cT | 11 => cJ | _ => cR, fun k => match k with | 0 => iB | 1 => iG | 2 => iV | 3 => iA | 4 => iP | 5 => iL | 6 => iQ | 7 => iB | 8 => iS | 9 => iU | 10 => iT | 11 => iJ | _ => iR), fun k => match k with | 0 => a0 | 1 => a1 | 2 => a2 | 3 => a3 | 4 => a4 | 5 => a5 | _ => a6), ?_, ?_⟩
  · intro k q hq
    match k, hq with
    | 0, hq => cases hq; exact hB
    | 1, hq => cases hq; exact hG
    | 2, hq => cases hq; exact hV
    | 3, hq => cases hq; exact hA
    | 4, hq => cases hq; exact hP
    | 5, hq => cases hq; exact hL
    | 6, hq => cases hq; exact hQ
    | 7, hq => cases hq; exact hB
    | 8, hq => cases hq; exact hS
    | 9, hq => cases hq; exact hU
    | 10, hq => cases hq; exact hT
    | 11, hq => cases hq; exact hJ
    | 12, hq => cases hq; exact hR
    | k + 13, hq => exact absurd hq (by simp [classes])
  · intro k q hq
    match k, hq with
    | 0, hq => cases hq; exact ⟨q0, r0⟩
    | 1, hq => cases hq; exact ⟨q1, r1⟩
    | 2, hq => cases hq; exact ⟨q2, r2⟩
    | 3, hq => cases hq; exact ⟨q3, r3⟩
    | 4, hq => cases hq; exact ⟨q4, r4⟩
    | 5, hq => cases hq; exact ⟨q5, r5⟩
    | 6, hq => cases hq; exact ⟨q6, r6⟩
    | k + 7, hq => exact absurd hq (by simp [tyL])
theorem le_N {args : Array Value} {s : State} (hts : ∀ w ∈ lw_tbl, w.before args s = true) : xN s := fun w hw => va_Nw.of (nsW_tab hw) (hts w (List.mem_filter.mp hw).1)
theorem le_xJ {args : Array Value} {s : State} (hts : ∀ w ∈ lw_tbl, w.before args s = true) : xJ s :=
  ⟨va_AO.of (hts (.arrayOver (FieldType.object "JoinOrders$State")) (List.mem_of_getElem? (i := 264) (by decide +kernel))), va_AO.of (hts (.arrayOver (FieldType.object "JoinOrders$Graph")) (List.mem_of_getElem? (i := 266) (by decide +kernel))), va_AO.of (hts (.arrayOver (FieldType.object "JoinOrders$Plan")) (List.mem_of_getElem? (i := 268) (by decide +kernel))), le_N hts⟩
theorem le_xs {args : Array Value} {s : State} {own tx : String} {k : Nat} (h1 : (Cond.stringRef own k tx).before args s = true) (h2 : (Cond.exactly (.string own k) "java/lang/String").before args s = true) : ∃ a : Nat, vk_R own k tx a s := by
  obtain ⟨a, c, cA, kA, q1, -⟩ := Cond.exactly_spec (args := args) (first := s) (o := none) (s := s) (idx := []) h2
  exact ⟨a, vk_R.of h1 q1⟩
set_option maxRecDepth 100000 in
theorem le_sK {args : Array Value} {s : State} (hts : ∀ w ∈ lw_tbl, w.before args s = true) (hgv : (Jvm.Cond.and given_1 narrow_1).before args s = true) : ∃ Y, sK Y (fun q => s.heap.size ≤ q) s s.heap := by
  have hs := flat_of_before _ hgv
  have hA : ∀ a : Nat, a < s.heap.size → ¬ (fun q => s.heap.size ≤ q) a := fun a h => Nat.not_le.mpr h
  obtain ⟨adK, adV, h1, h2⟩ := vk_Sof (args := args) (s := s) (N := 4) (tm := fun i => .string "JoinOrders$Text" (sIdx.getD i 0)) (len := sLen) (byt := sByt) (A := fun q => s.heap.size ≤ q) (fun i hi => match i, hi with | 0, _ => by decide | 1, _ => by decide | 2, _ => by decide | 3, _ => by decide | n + 4, h => absurd h (by omega)) (fun i hi => match i, hi with | 0, _ => hs _ (List.mem_of_getElem? (i := 65) (by decide +kernel)) | 1, _ => hs _ (List.mem_of_getElem? (i := 77) (by decide +kernel)) | 2, _ => hs _ (List.mem_of_getElem? (i := 86) (by decide +kernel)) | 3, _ => hs _ (List.mem_of_getElem? (i := 97) (by decide +kernel)) | n + 4, h => absurd h (by omega)) (fun i hi => match i, hi with | 0, _ => hs _ (List.mem_of_getElem? (i := 66) (by decide +kernel)) | 1, _ => hs _ (List.mem_of_getElem? (i := 78) (by decide +kernel)) | 2, _ => hs _ (List.mem_of_getElem? (i := 87) (by decide +kernel)) | 3, _ => hs _ (List.mem_of_getElem? (i := 98) (by decide +kernel)) | n + 4, h => absurd h (by omega)) (fun i hi => match i, hi with | 0, _ => hs _ (List.mem_of_getElem? (i := 67) (by decide +kernel)) | 1, _ => hs _ (List.mem_of_getElem? (i := 79) (by decide +kernel)) | 2, _ => hs _ (List.mem_of_getElem? (i := 88) (by decide +kernel)) | 3, _ => hs _ (List.mem_of_getElem? (i := 99) (by decide +kernel)) | n + 4, h => absurd h (by omega)) (fun i hi => match i, hi with | 0, _ => hs _ (List.mem_of_getElem? (i := 68) (by decide +kernel)) | 1, _ => hs _ (List.mem_of_getElem? (i := 80) (by decide +kernel)) | 2, _ => hs _ (List.mem_of_getElem? (i := 89) (by decide +kernel)) | 3, _ => hs _ (List.mem_of_getElem? (i := 100) (by decide +kernel)) | n + 4, h => absurd h (by omega)) (fun i hi => match i, hi with | 0, _ => (fun j hj => match j, hj with | 0, _ => hs _ (List.mem_of_getElem? (i := 69) (by decide +kernel)) | 1, _ => hs _ (List.mem_of_getElem? (i := 70) (by decide +kernel)) | 2, _ => hs _ (List.mem_of_getElem? (i := 71) (by decide +kernel)) | 3, _ => hs _ (List.mem_of_getElem? (i := 72) (by decide +kernel)) | 4, _ => hs _ (List.mem_of_getElem? (i := 73) (by decide +kernel)) | 5, _ => hs _ (List.mem_of_getElem? (i := 74) (by decide +kernel)) | 6, _ => hs _ (List.mem_of_getElem? (i := 75) (by decide +kernel)) | 7, _ => hs _ (List.mem_of_getElem? (i := 76) (by decide +kernel)) | n + 8, h => absurd h (show ¬ n + 8 < 8 by omega)) | 1, _ => (fun j hj => match j, hj with | 0, _ => hs _ (List.mem_of_getElem? (i := 81) (by decide +kernel)) | 1, _ => hs _ (List.mem_of_getElem? (i := 82) (by decide +kernel)) | 2, _ => hs _ (List.mem_of_getElem? (i := 83) (by decide +kernel)) | 3, _ => hs _ (List.mem_of_getElem? (i := 84) (by decide +kernel)) | n + 4, h => absurd h (show ¬ n + 4 < 4 by omega)) | 2, _ => (fun j hj => match j, hj with | 0, _ => hs _ (List.mem_of_getElem? (i := 90) (by decide +kernel)) | 1, _ => hs _ (List.mem_of_getElem? (i := 91) (by decide +kernel)) | 2, _ => hs _ (List.mem_of_getElem? (i := 92) (by decide +kernel)) | 3, _ => hs _ (List.mem_of_getElem? (i := 93) (by decide +kernel)) | 4, _ => hs _ (List.mem_of_getElem? (i := 94) (by decide +kernel)) | n + 5, h => absurd h (show ¬ n + 5 < 5 by omega)) | 3, _ => (fun j hj => match j, hj with | 0, _ => hs _ (List.mem_of_getElem? (i := 101) (by decide +kernel)) | 1, _ => hs _ (List.mem_of_getElem? (i := 102) (by decide +kernel)) | n + 2, h => absurd h (show ¬ n + 2 < 2 by omega)) | n + 4, h => absurd h (by omega)) (fun i j hi hj hij => match i, j, hi, hj, hij with | 0, 0, _, _, h => absurd rfl h | 0, 1, _, _, _ => Or.inl (hs _ (List.mem_of_getElem? (i := 85) (by decide +kernel))) | 0, 2, _, _, _ => Or.inl (hs _ (List.mem_of_getElem? (i := 95) (by decide +kernel))) | 0, 3, _, _, _ => Or.inl (hs _ (List.mem_of_getElem? (i := 103) (by decide +kernel))) | 1, 0, _, _, _ => Or.inr (hs _ (List.mem_of_getElem? (i := 85) (by decide +kernel))) | 1, 1, _, _, h => absurd rfl h | 1, 2, _, _, _ => Or.inl (hs _ (List.mem_of_getElem? (i := 96) (by decide +kernel))) | 1, 3, _, _, _ => Or.inl (hs _ (List.mem_of_getElem? (i := 104) (by decide +kernel))) | 2, 0, _, _, _ => Or.inr (hs _ (List.mem_of_getElem? (i := 95) (by decide +kernel))) | 2, 1, _, _, _ => Or.inr (hs _ (List.mem_of_getElem? (i := 96) (by decide +kernel))) | 2, 2, _, _, h => absurd rfl h | 2, 3, _, _, _ => Or.inl (hs _ (List.mem_of_getElem? (i := 105) (by decide +kernel))) | 3, 0, _, _, _ => Or.inr (hs _ (List.mem_of_getElem? (i := 103) (by decide +kernel))) | 3, 1, _, _, _ => Or.inr (hs _ (List.mem_of_getElem? (i := 104) (by decide +kernel))) | 3, 2, _, _, _ => Or.inr (hs _ (List.mem_of_getElem? (i := 105) (by decide +kernel))) | 3, 3, _, _, h => absurd rfl h | n + 4, _, h, _, _ => absurd h (by omega) | _, n + 4, _, h, _ => absurd h (by omega)) hA
  refine ⟨(adK, adV), h1, fun i hi => match i, hi with | 0, _ => vk_R.of (hts (.stringRef "JoinOrders$Text" 58 "relation") (List.mem_of_getElem? (i := 565) (by decide +kernel))) (h2 0 (by decide)) | 1, _ => vk_R.of (hts (.stringRef "JoinOrders$Text" 64 "edge") (List.mem_of_getElem? (i := 618) (by decide +kernel))) (h2 1 (by decide)) | 2, _ => vk_R.of (hts (.stringRef "JoinOrders$Text" 66 "limit") (List.mem_of_getElem? (i := 619) (by decide +kernel))) (h2 2 (by decide)) | 3, _ => vk_R.of (hts (.stringRef "JoinOrders$Text" 68 "by") (List.mem_of_getElem? (i := 620) (by decide +kernel))) (h2 3 (by decide)) | n + 4, h => absurd h (by omega), fun i hi => match i, hi with | 0, _ => le_xs (hts (.stringRef "JoinOrders" 277 "no such edge") (List.mem_of_getElem? (i := 1158) (by decide +kernel))) (hs (.exactly (.string "JoinOrders" 277) "java/lang/String") (List.mem_of_getElem? (i := 106) (by decide +kernel))) | 1, _ => le_xs (hts (.stringRef "JoinOrders" 288 "an edge has no such number") (List.mem_of_getElem? (i := 1184) (by decide +kernel))) (hs (.exactly (.string "JoinOrders" 288) "java/lang/String") (List.mem_of_getElem? (i := 126) (by decide +kernel))) | 2, _ => le_xs (hts (.stringRef "JoinOrders" 327 "no such node") (List.mem_of_getElem? (i := 1192) (by decide +kernel))) (hs (.exactly (.string "JoinOrders" 327) "java/lang/String") (List.mem_of_getElem? (i := 161) (by decide +kernel))) | 3, _ => le_xs (hts (.stringRef "JoinOrders" 336 "a node has no such number") (List.mem_of_getElem? (i := 1194) (by decide +kernel))) (hs (.exactly (.string "JoinOrders" 336) "java/lang/String") (List.mem_of_getElem? (i := 183) (by decide +kernel))) | n + 4, h => absurd h (by omega), ?_, ?_, le_N hts⟩
  · exact va_Zof (hts (.laysStatic "java/lang/String" "COMPACT_STRINGS" "Z") (List.mem_of_getElem? (i := 579) (by decide +kernel))) (hts (.initialized "java/lang/String") (List.mem_of_getElem? (i := 106) (by decide +kernel))) (va_eqt (hs (.eq (.static "java/lang/String" "COMPACT_STRINGS" "Z") (.int 1)) (List.mem_of_getElem? (i := 4) (by decide +kernel)))) hA
  · exact va_Zqof (hts (.laysStatic "jdk/internal/util/Preconditions" "SIOOBE_FORMATTER" "Ljava/util/function/BiFunction;") (List.mem_of_getElem? (i := 595) (by decide +kernel))) (hts (.initialized "jdk/internal/util/Preconditions") (List.mem_of_getElem? (i := 108) (by decide +kernel))) (hs (.isRef (.static "jdk/internal/util/Preconditions" "SIOOBE_FORMATTER" "Ljava/util/function/BiFunction;")) (List.mem_of_getElem? (i := 5) (by decide +kernel))) hA
