abbrev nseN : String := "java/util/NoSuchElementException"
abbrev nseC : List String := ["java/lang/RuntimeException", "java/lang/Exception"]
def xW : List Cond := Cond.classLink "JoinOrders" 275 nseN :: Cond.initialized nseN :: vx_at13 "JoinOrders" 279 nseN nseC
def xq : Cond → Bool
  | .castable .. => true
  | .declares _ => true
  | w => goodWord w
theorem xW_q : xW.all xq = true := by decide +kernel
theorem xW_ot : xW.all vx_ot = true := by decide +kernel
theorem xW_t : xW.all (fun w => w.onTables) = true := by decide +kernel
theorem xW_tab {w : Cond} (h : w ∈ xW) : w.onTables = true := List.all_eq_true.mp xW_t w h
theorem xW_warm {w : Cond} (h : w ∈ xW) {s U : State} (hW : s.WarmedH U.vm) (hZ : va_Nw w s) : va_Nw w U := by
  have hq := List.all_eq_true.mp xW_q w h
  by_cases hg : goodWord w = true
  · exact word_at hW (good_of_word hg) hZ
  · cases w <;> first | exact va_Nw.warmD hW hZ | exact va_Nw.warmC hW hZ | exact absurd hq hg
theorem xW_cast : Cond.castable nseN nseN ∈ xW := by decide +kernel
def xP (A : Nat → Prop) (U : State) (H : Heap) : Prop := (∀ w ∈ xW, va_Nw w U) ∧ vx_Zq Bundle.tN "UNASSIGNED_STACK" Bundle.steD A U H ∧ vx_Zq Bundle.tN "SUPPRESSED_SENTINEL" Bundle.listD A U H
theorem xP.sub {A B : Nat → Prop} {s U : State} {H : Heap} {locs : List Loc} (h : xP A s s.heap) (hS : va_S A s.heap H locs) (hAB : ∀ q, B q → A q) (hW : s.WarmedH U.vm) : xP B U H :=
  ⟨fun w hw => xW_warm hw hW (h.1 w hw), ((h.2.1.kept hS.2.1).narrow hAB).moved hW.alike, ((h.2.2.kept hS.2.1).narrow hAB).moved hW.alike⟩
theorem xP.same {A : Nat → Prop} {u U : State} {H : Heap} (h : xP A u H) (hv : U.vm = u.vm) : xP A U H := by
  have hal : u.vm.Alike U.vm := by rw [hv]; exact Vm.Alike.refl _
  exact ⟨fun w hw => (h.1 w hw).same (xW_tab hw) hv.symm, h.2.1.moved hal, h.2.2.moved hal⟩
def xA (ws : va_W) (n : Nat) : Nat → Prop := fun q => cA ws q ∨ n ≤ q
def cX (D : va_G) (cl : List vw_C) (ty : List (ClassId × FieldType)) (Y : (Nat → Nat) × (Nat → Nat)) (ws : va_W) (U : State) : Prop := cP D cl ty Y ws U ∧ xP (xA ws U.heap.size) U U.heap
theorem cX_blind {D : va_G} {cl : List vw_C} {ty : List (ClassId × FieldType)} {Y : (Nat → Nat) × (Nat → Nat)} {ws : va_W} {av : List Value} : FrameBlind (va_Pc av (cX D cl ty Y ws)) :=
  fun a U g mk q => ⟨q.1, (cP_blind (av := av) a U g mk ⟨q.1, q.2.1⟩).2, xP.same (u := U) (U := U.calling g mk a) q.2.2 rfl⟩
def xQ (D : va_G) (cl : List vw_C) (w0 : va_W) : String → State → State → Prop := vx_X (S := Unit) (fun _ => True) (fun E _ t => E = nseN ∧ va_P D cl w0 t.heap) (cA w0)
def rmx : Room := { frames := 6, cells := 1, slots := 6, locals := 240 }
theorem entX {l : Launch} {cl : List vw_C} {y : MethodName} {b : ByteArray} {n : Nat} {r : Option FieldType} {D : va_G} {ty : List (ClassId × FieldType)} {Y : (Nat → Nat) × (Nat → Nat)} {av : List Value} {w0 : va_W} {Qc : Array Value → State → Outcome → State → Prop} (hy : plainName y.cls = true) (hle : (lg_sl av).length ≤ n)
    (body : ∀ (p : Program) (e : Env) (s : State) (m : MethodId) (below : List Frame) (meth : Method) (c : Code) (ls : Array Slot), p.tables.exec = Jvm.exec → c.code = b → meth.locks = false → c.maxLocals = n → (∀ x ∈ c.exceptionTable.toList, False) → s.vm.findClass y.cls = some m.cls → (∀ w ∈ lg_w, w.before av.toArray s = true) → va_K D cl ty s → sK Y (cA w0) s s.heap → xP (xA w0 s.heap.size) s s.heap → va_P D cl w0 s.heap → va_D (cA w0) w0 → lv_has ls n (lv_args 0 av) →
      W p l e rmx s m av.toArray below meth c s.heap [] 0 0 (vx_MQ below Qc (xQ D cl w0) av.toArray s 1 6 (cA w0)) (F0 m 0 ls [])) : vx_Met l y (wl y b n r) rmx (va_Pc av (cX D cl ty Y w0)) Qc (xQ D cl w0) 1 6 (cA w0) := by
  refine vx_ofW (cc := b) (maxL := n) (ret := r) hy rfl ?_
  intro p e s m args below meth c s₁ B hml hno hv
  obtain ⟨rfl, ⟨hP, hK, hD, hsk⟩, hxp⟩ := hv
  have hts := atoms_spec (ws := wl y b n r) B.pre
  have hl := lv_entry av (n := n) hle
  rw [lg_entry_eq]
  generalize (lg_sl av ++ List.replicate (n - (lg_sl av).length) Slot.unset).toArray = ls at hl ⊢
  exact body p e s m below meth c ls B.exec B.bytes B.notSynchronized hml hno (findClass_of_methodNamed B.named) (fun w hw => hts w (List.mem_cons_of_mem _ hw)) hK hsk hxp hP ⟨hD.1, fun k q hk => ⟨k, q.2, hk⟩⟩ hl
theorem thr {p : Program} {l : Launch} {e : Env} {s : State} {m : MethodId} {args : Array Value} {below : List Frame} {meth : Method} {c : Code} {H : Heap} {locs : List Loc} {D : va_G} {cl : List vw_C} {ty : List (ClassId × FieldType)} {Y : (Nat → Nat) × (Nat → Nat)} {w0 : va_W} {ls : Array Slot} {Qc : Array Value → State → Outcome → State → Prop} {cc : ByteArray} {pc i is : Nat}
    (hx : p.tables.exec = Jvm.exec) (hb : c.code = cc) (hst : l.stackTraces = false) (hown : s.vm.findClass "JoinOrders" = some m.cls) (hno : ∀ x ∈ c.exceptionTable.toList, False) (hlocks : meth.locks = false) (hK : va_K D cl ty s) (hsk : sK Y (cA w0) s s.heap) (hxp : xP (xA w0 s.heap.size) s s.heap) (hP : va_P D cl w0 H) (hD : va_D (cA w0) w0) (hS : va_S (cA w0) s.heap H locs) (hsize : ls.size = c.maxLocals) (hi : i < 4) (his : xIdx.getD i 0 = is)
    (d0 : decode cc pc = .ok (.new 275, 3)) (d3 : decode cc (pc + 3) = .ok (.dup, 1)) (d4 : decode cc (pc + 4) = .ok (.ldc_w is, 3)) (d7 : decode cc (pc + 7) = .ok (.invokespecial 279, 3)) (d10 : decode cc (pc + 10) = .ok (.athrow, 1)) :
    W p l e rmx s m args below meth c H locs 0 0 (vx_MQ below Qc (xQ D cl w0) args s 1 6 (cA w0)) (F0 m pc ls []) := by
  obtain ⟨sa, hsa⟩ := hsk.2.2.1 i hi
  rw [his] at hsa
  have use : ∀ w ∈ xW, w.before args s = true := fun w hw => (hxp.1 w hw).use (xW_tab hw)
  refine vx_make13 (A := xA w0 s.heap.size) (names := nseC) (cls := nseN) (own := "JoinOrders") (text := xTxt.getD i "") hx hb hst hown (by decide) (by decide) (use _ List.mem_cons_self) (use _ (List.mem_cons_of_mem _ List.mem_cons_self)) hsa (fun w hw => use w (List.mem_cons_of_mem _ (List.mem_cons_of_mem _ hw))) (fun w hw => List.all_eq_true.mp xW_ot w hw) hxp.2.1 hxp.2.2 ⟨hS.1, fun q h1 h2 => hS.2.1 q h1 (fun h => h2 (Or.inl h)), fun z hz => Or.inl (hS.2.2 z hz)⟩ hsize d0 d3 d4 d7 hK hP (hD.weaken (fun _ _ _ h => Or.inl h)) (fun q hq => Or.inr hq) (Nat.le_of_ble_eq_true rfl) (Nat.le_of_ble_eq_true rfl) (Nat.le_of_ble_eq_true rfl) (Nat.le_of_ble_eq_true rfl) ?_
  intro q ce H1 h1 h2 h3 hP1 hS1
  refine vx_athrow hx hb d10 ?_
  refine vx_out (E := nseN) (ce := ce) (fun x hx => (hno x hx).elim) hlocks h1 h2 h3 (fun t ht _ => ⟨(), trivial, ⟨rfl, by rw [ht]; exact hP1⟩, by rw [ht]; exact hS1.1, fun q hq hn => by rw [ht]; exact hS1.2.1 q hq (fun h => h.elim hn (fun h => absurd hq (Nat.not_lt.mpr h)))⟩) hS.2.2 (Nat.le_refl _) (Nat.le_refl _)
theorem va_sets_self : ∀ (is : List Nat) (wc ws : va_W), is.map (fun i => ws[i]?) = wc.map some → va_sets ws is wc = ws
  | [], [], _, _ => rfl
  | [], _ :: _, _, _ => rfl
  | _ :: _, [], _, h => by simp at h
  | i :: is, q :: wc, ws, h => by
    simp only [List.map_cons, List.cons.injEq] at h
    have e : ws.set i q = ws := by
      apply List.ext_getElem?
      intro k
      by_cases hk : i = k
      · subst hk
        have hlt : i < ws.length := (List.getElem?_eq_some_iff.mp h.1).1
        rw [List.getElem?_set_self hlt, h.1]
      · rw [List.getElem?_set_ne hk]
    show va_sets (ws.set i q) is wc = ws
    rw [e]
    exact va_sets_self is wc ws h.2
theorem ap_set (u wc : va_W) (x y : Nat × va_E) : (u ++ (wc ++ [x])).set (u.length + wc.length) y = u ++ (wc ++ [y]) := by
  rw [List.set_append_right _ _ (by omega), show u.length + wc.length - u.length = wc.length by omega, List.set_append_right _ _ (Nat.le_refl _), Nat.sub_self]
  rfl
theorem pcX {s : State} {D : va_G} {cl : List vw_C} {ty : List (ClassId × FieldType)} {Y : (Nat → Nat) × (Nat → Nat)} {ws wc : va_W} {isC : List Nat} (hK : va_K D cl ty s) (hsk : sK Y (cA ws) s s.heap) (hxp : xP (xA ws s.heap.size) s s.heap) (hP : va_P D cl ws s.heap) (hD : va_D (cA ws) ws) (hC : isC.map (fun i => ws[i]?) = wc.map some) (hn : va_nd isC = true) {av : List Value} : ∀ U : State, U.heap = s.heap → s.WarmedH U.vm → va_Pc av (cX D cl ty Y wc) av.toArray U :=
  fun U hU hW => ⟨rfl, (pcP (av := av) hK hsk va_S.rf hP hD hC hn U hU hW).2, by rw [hU]; exact hxp.sub va_S.rf (fun q h => h.elim (fun h => Or.inl (cA_free hD hC q h)) Or.inr) hW⟩
abbrev tE (a : Nat → Nat) (sj : SJ) : va_W := [(a 0, O_J (a 5) (a 2) (a 7) (a 8) (sj.1 0) (sj.1 1) (a 10) (a 9) (a 11) (a 1) (a 3) (a 6) (a 4) (a 15) (a 16) (a 12) (a 14) (a 13)), (a 5, O_U (a 28) (a 29) (a 30) (sj.1 4) (sj.1 5) (sj.1 6)), (a 28, O_G (sj.1 41) (sj.1 42) (sj.1 43) (a 88) (a 86) (a 87) (a 85))]
abbrev tN (a : Nat → Nat) (sj : SJ) : va_W := [(a 0, O_J (a 5) (a 2) (a 7) (a 8) (sj.1 0) (sj.1 1) (a 10) (a 9) (a 11) (a 1) (a 3) (a 6) (a 4) (a 15) (a 16) (a 12) (a 14) (a 13)), (a 5, O_U (a 28) (a 29) (a 30) (sj.1 4) (sj.1 5) (sj.1 6)), (a 29, O_P (sj.1 44) (sj.1 45) (a 90) (a 89))]
set_option maxHeartbeats 4000000 in
set_option maxRecDepth 100000 in
theorem t_edge (l : Launch) (hst : l.stackTraces = false) (G : va_G × (Nat → ClassId)) (Y : (Nat → Nat) × (Nat → Nat)) (a : Nat → Nat) (sj : SJ) (x1 x2 : Int32) (ht : qThrE (sj.1 42) x1 x2) (Qc : Array Value → State → Outcome → State → Prop) : vx_Met l y_J_edge (wl y_J_edge b_J_edge 3 (some .int)) rmx (va_Pc [.ref (a 0), .int x1, .int x2] (cX G.1 classes (tyL G) Y (tE a sj))) Qc (xQ G.1 classes (tE a sj)) 1 6 (cA (tE a sj)) := by
  refine entX (by decide) (Nat.le_of_ble_eq_true rfl) ?_
  intro p e s m below meth c ls hx hb hlocks hml hno hown htl hK hsk hxp hP hD hl
  have hl : lv_has ls 3 [(0, .ref (a 0)), (1, .int x1), (2, .int x2)] := hl
  have hS : va_S (cA (tE a sj)) s.heap s.heap [] := va_S.rf
  refine lv_aload_n hx hb d_J_edge_0 rfl (lv_at hl 0 rfl) ?_
  refine va_get (D := G.1) (ci := 11) (v := .ref (a 5)) (C := n_J) (T := T_J) (N := 18) hx hb htl iw_J hown hK hP 0 rfl rfl 0 (by decide) (htl _ k_454) (fun _ h9 => h9) rfl d_J_edge_1 ?_
  refine va_get (D := G.1) (ci := 9) (v := .ref (a 28)) (C := n_U) (T := T_U) (N := 6) hx hb htl iw_U hown hK hP 1 rfl rfl 0 (by decide) (htl _ k_241) (fun _ h9 => h9) rfl d_J_edge_4 ?_
  refine lv_iload_n hx hb d_J_edge_7 rfl (lv_at hl 1 rfl) ?_
  refine call_i (isC := [2]) (run_V (As := [.int x1]) (rest := []) (ci := 1) (q0 := 2) hx hb hml hown htl (c_G_hasEdge l G Y (a 28) (a 88) (a 86) (a 87) (a 85) (sj.1 41) (sj.1 42) (sj.1 43) x1 _ rfl) mv_G_hasEdge k_810 ⟨rfl, rfl, Nat.le_of_ble_eq_true rfl, Nat.le_of_ble_eq_true rfl, Nat.zero_le _, Nat.zero_le _⟩ hK hsk hS hP hD (isC := [2]) rfl (by decide) rfl rfl rfl hl.1 rfl (lv_room (Nat.le_of_ble_eq_true rfl)) d_J_edge_8) hP hD hS rfl rfl (fun H locs hP hD hS => ?_)
  have hP : va_P G.1 classes (tE a sj) H := hP
  have hD : va_D (cA (tE a sj)) (tE a sj) := hD
  rcases ht with c1 | ⟨c1, c2, c4, c6⟩
  · refine lv_if_ne (tgt := 25) hx hb d_J_edge_11 (by decide) (fun h => absurd c1 h) (fun _ => ?_)
    exact thr (i := 0) hx hb hst hown hno hlocks hK hsk hxp hP hD hS (hl.1.trans hml.symm) (by decide) rfl d_J_edge_14 d_J_edge_17 d_J_edge_18 d_J_edge_21 d_J_edge_24
  · refine lv_if_ne (tgt := 25) hx hb d_J_edge_11 (by decide) (fun _ => ?_) (fun h => absurd h c1)
    refine lv_iload_n hx hb d_J_edge_25 rfl (lv_at hl 2 rfl) ?_
    refine lv_tableOut (tgt := 91) hx hb d_J_edge_26 (sw_out_0_2 c2 c4 c6) (by decide) ?_
    exact thr (i := 1) hx hb hst hown hno hlocks hK hsk hxp hP hD hS (hl.1.trans hml.symm) (by decide) rfl d_J_edge_91 d_J_edge_94 d_J_edge_95 d_J_edge_98 d_J_edge_101
set_option maxHeartbeats 4000000 in
set_option maxRecDepth 100000 in
theorem t_node (l : Launch) (hst : l.stackTraces = false) (G : va_G × (Nat → ClassId)) (Y : (Nat → Nat) × (Nat → Nat)) (a : Nat → Nat) (sj : SJ) (x1 x2 : Int32) (ht : qThrN (sj.1 44) (sj.1 45) x1 x2) (Qc : Array Value → State → Outcome → State → Prop) : vx_Met l y_J_node (wl y_J_node b_J_node 4 (some .long)) rmx (va_Pc [.ref (a 0), .int x1, .int x2] (cX G.1 classes (tyL G) Y (tN a sj))) Qc (xQ G.1 classes (tN a sj)) 1 6 (cA (tN a sj)) := by
  refine entX (by decide) (Nat.le_of_ble_eq_true rfl) ?_
  intro p e s m below meth c ls hx hb hlocks hml hno hown htl hK hsk hxp hP hD hl
  have hl : lv_has ls 4 [(0, .ref (a 0)), (1, .int x1), (2, .int x2)] := hl
  have hS : va_S (cA (tN a sj)) s.heap s.heap [] := va_S.rf
  refine lv_aload_n hx hb d_J_node_0 rfl (lv_at hl 0 rfl) ?_
  refine va_get (D := G.1) (ci := 11) (v := .ref (a 5)) (C := n_J) (T := T_J) (N := 18) hx hb htl iw_J hown hK hP 0 rfl rfl 0 (by decide) (htl _ k_454) (fun _ h9 => h9) rfl d_J_node_1 ?_
  refine va_get (D := G.1) (ci := 9) (v := .ref (a 29)) (C := n_U) (T := T_U) (N := 6) hx hb htl iw_U hown hK hP 1 rfl rfl 1 (by decide) (htl _ k_243) (fun _ h9 => h9) rfl d_J_node_4 ?_
  refine lv_astore_n (lv' := [(3, .ref (a 29)), (0, .ref (a 0)), (1, .int x1), (2, .int x2)]) hx hb d_J_node_7 rfl hl (by decide) rfl (fun ls hl => ?_)
  refine lv_aload_n hx hb d_J_node_8 rfl (lv_at hl 0 rfl) ?_
  refine call_i (isC := [2]) (run_V (As := []) (rest := []) (ci := 4) (q0 := 2) hx hb hml hown htl (c_P_isNone l G Y (a 29) (a 90) (a 89) (sj.1 44) (sj.1 45) _ rfl) mv_P_isNone k_948 ⟨rfl, rfl, Nat.le_of_ble_eq_true rfl, Nat.le_of_ble_eq_true rfl, Nat.zero_le _, Nat.zero_le _⟩ hK hsk hS hP hD (isC := [2]) rfl (by decide) rfl rfl rfl hl.1 rfl (lv_room (Nat.le_of_ble_eq_true rfl)) d_J_node_9) hP hD hS rfl rfl (fun H locs hP hD hS => ?_)
  have hP : va_P G.1 classes (tN a sj) H := hP
  have hD : va_D (cA (tN a sj)) (tN a sj) := hD
  rcases ht with c1 | ⟨c1, c2⟩ | ⟨c1, c2, c3⟩ | ⟨c1, c2, c3, c4, c6, c8, c13, c19⟩
  · refine lv_if_ne (tgt := 27) hx hb d_J_node_12 (by decide) (fun _ => ?_) (fun h => absurd h c1)
    exact thr (i := 2) hx hb hst hown hno hlocks hK hsk hxp hP hD hS (hl.1.trans hml.symm) (by decide) rfl d_J_node_27 d_J_node_30 d_J_node_31 d_J_node_34 d_J_node_37
  · refine lv_if_ne (tgt := 27) hx hb d_J_node_12 (by decide) (fun h => absurd c1 h) (fun _ => ?_)
    refine lv_iload_n hx hb d_J_node_15 rfl (lv_at hl 2 rfl) ?_
    refine lv_if_lt (tgt := 27) hx hb d_J_node_16 (by decide) (fun _ => ?_) (fun h => absurd c2 h)
    exact thr (i := 2) hx hb hst hown hno hlocks hK hsk hxp hP hD hS (hl.1.trans hml.symm) (by decide) rfl d_J_node_27 d_J_node_30 d_J_node_31 d_J_node_34 d_J_node_37
  · refine lv_if_ne (tgt := 27) hx hb d_J_node_12 (by decide) (fun h => absurd c1 h) (fun _ => ?_)
    refine lv_iload_n hx hb d_J_node_15 rfl (lv_at hl 2 rfl) ?_
    refine lv_if_lt (tgt := 27) hx hb d_J_node_16 (by decide) (fun h => absurd h c2) (fun _ => ?_)
    refine lv_iload_n hx hb d_J_node_19 rfl (lv_at hl 2 rfl) ?_
    refine lv_aload_n hx hb d_J_node_20 rfl (lv_at hl 0 rfl) ?_
    refine va_get (D := G.1) (ci := 4) (v := .int (sj.1 45)) (C := n_P) (T := T_P) (N := 4) hx hb htl iw_P hown hK hP 2 rfl rfl 1 (by decide) (htl _ k_189) (fun _ h9 => h9) rfl d_J_node_21 ?_
    refine lv_icmp_lt (tgt := 38) hx hb d_J_node_24 (by decide) (fun h => absurd h c3) (fun _ => ?_)
    exact thr (i := 2) hx hb hst hown hno hlocks hK hsk hxp hP hD hS (hl.1.trans hml.symm) (by decide) rfl d_J_node_27 d_J_node_30 d_J_node_31 d_J_node_34 d_J_node_37
  · refine lv_if_ne (tgt := 27) hx hb d_J_node_12 (by decide) (fun h => absurd c1 h) (fun _ => ?_)
    refine lv_iload_n hx hb d_J_node_15 rfl (lv_at hl 2 rfl) ?_
    refine lv_if_lt (tgt := 27) hx hb d_J_node_16 (by decide) (fun h => absurd h c2) (fun _ => ?_)
    refine lv_iload_n hx hb d_J_node_19 rfl (lv_at hl 2 rfl) ?_
    refine lv_aload_n hx hb d_J_node_20 rfl (lv_at hl 0 rfl) ?_
    refine va_get (D := G.1) (ci := 4) (v := .int (sj.1 45)) (C := n_P) (T := T_P) (N := 4) hx hb htl iw_P hown hK hP 2 rfl rfl 1 (by decide) (htl _ k_189) (fun _ h9 => h9) rfl d_J_node_21 ?_
    refine lv_icmp_lt (tgt := 38) hx hb d_J_node_24 (by decide) (fun _ => ?_) (fun h => absurd c3 h)
    refine lv_iload_n hx hb d_J_node_38 rfl (lv_at hl 3 rfl) ?_
    refine lv_tableOut (tgt := 136) hx hb d_J_node_39 (sw_out_0_4 c4 c6 c8 c13 c19) (by decide) ?_
    exact thr (i := 3) hx hb hst hown hno hlocks hK hsk hxp hP hD hS (hl.1.trans hml.symm) (by decide) rfl d_J_node_136 d_J_node_139 d_J_node_140 d_J_node_143 d_J_node_146
