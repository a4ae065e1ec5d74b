theorem k_92 : (.initialized "JoinOrdersLaw" : Cond) ∈ lg_w := inG (List.mem_of_getElem? (i := 92) (by decide +kernel)) (by decide +kernel)
theorem k_1106 : (.methodLink "JoinOrdersLaw" 88 ⟨"JoinOrdersLaw", "edge", "(LJoinOrders;II[J)I"⟩ : Cond) ∈ lg_w := inG (List.mem_of_getElem? (i := 1106) (by decide +kernel)) (by decide +kernel)
theorem k_1107 : (.static ⟨"JoinOrdersLaw", "edge", "(LJoinOrders;II[J)I"⟩ : Cond) ∈ lg_w := inG (List.mem_of_getElem? (i := 1107) (by decide +kernel)) (by decide +kernel)
theorem k_1108 : (.codeWith ⟨"JoinOrdersLaw", "edge", "(LJoinOrders;II[J)I"⟩ method_3_code 5 (Option.some FieldType.int) [(0, 10, 13, 13)] : Cond) ∈ lg_w := inG (List.mem_of_getElem? (i := 1108) (by decide +kernel)) (by decide +kernel)
theorem k_1109 : (.classLink "JoinOrdersLaw" 13 "java/util/NoSuchElementException" : Cond) ∈ lg_w := inG (List.mem_of_getElem? (i := 1109) (by decide +kernel)) (by decide +kernel)
theorem k_1110 : (.methodLink "JoinOrdersLaw" 7 ⟨"JoinOrders", "edge", "(II)I"⟩ : Cond) ∈ lg_w := inG (List.mem_of_getElem? (i := 1110) (by decide +kernel)) (by decide +kernel)
theorem k_1180 : (.methodLink "JoinOrdersLaw" 125 ⟨"JoinOrdersLaw", "node", "(LJoinOrders;II[J)I"⟩ : Cond) ∈ lg_w := inG (List.mem_of_getElem? (i := 1180) (by decide +kernel)) (by decide +kernel)
theorem k_1181 : (.static ⟨"JoinOrdersLaw", "node", "(LJoinOrders;II[J)I"⟩ : Cond) ∈ lg_w := inG (List.mem_of_getElem? (i := 1181) (by decide +kernel)) (by decide +kernel)
theorem k_1182 : (.codeWith ⟨"JoinOrdersLaw", "node", "(LJoinOrders;II[J)I"⟩ method_4_code 5 (Option.some FieldType.int) [(0, 9, 12, 13)] : Cond) ∈ lg_w := inG (List.mem_of_getElem? (i := 1182) (by decide +kernel)) (by decide +kernel)
theorem k_1183 : (.methodLink "JoinOrdersLaw" 15 ⟨"JoinOrders", "node", "(II)J"⟩ : Cond) ∈ lg_w := inG (List.mem_of_getElem? (i := 1183) (by decide +kernel)) (by decide +kernel)
theorem k_1329 : (.methodLink "JoinOrdersLaw" 94 ⟨"JoinOrdersModel", "thrown", "()I"⟩ : Cond) ∈ lg_w := inG (List.mem_of_getElem? (i := 1329) (by decide +kernel)) (by decide +kernel)
theorem k_1630 : (.methodLink "JoinOrdersLaw" 93 ⟨"JoinOrdersModel", "edge", "(II)I"⟩ : Cond) ∈ lg_w := inG (List.mem_of_getElem? (i := 1630) (by decide +kernel)) (by decide +kernel)
theorem k_1660 : (.methodLink "JoinOrdersLaw" 127 ⟨"JoinOrdersModel", "node", "(II)J"⟩ : Cond) ∈ lg_w := inG (List.mem_of_getElem? (i := 1660) (by decide +kernel)) (by decide +kernel)
def rmw : Room := { frames := 10, cells := 1, slots := 6, locals := 400 }
def wlx (y : MethodName) (b : ByteArray) (hh : List (Nat × Nat × Nat × Nat)) : List Cond := .codeWith y b 5 (some .int) hh :: lg_w
def CW (l : Launch) (y : MethodName) (b : ByteArray) (hh : List (Nat × Nat × Nat × Nat)) (G : va_G × (Nat → ClassId)) (Y : (Nat → Nat) × (Nat → Nat)) (av : List Value) (w0 w1 : va_W) (v : Int32) : Prop :=
  vx_Met l y (wlx y b hh) rmw (va_Pc av (cX G.1 classes (tyL G) Y w0)) (va_Qi (S := Unit) (fun x _ => x = v) (fun _ t => va_P G.1 classes w1 t.heap) (cA w0)) (vx_X (S := Unit) (fun _ => False) (fun _ _ _ => True) (cA w0)) 1 6 (cA w0)
theorem entW {l : Launch} {y : MethodName} {b : ByteArray} {hh : List (Nat × Nat × Nat × Nat)} {G : va_G × (Nat → ClassId)} {Y : (Nat → Nat) × (Nat → Nat)} {av : List Value} {w0 w1 : va_W} {v : Int32} (hy : plainName y.cls = true) (hle : (lg_sl av).length ≤ 5)
    (body : ∀ (p : Program) (e : Env) (s : State) (m : MethodId) (below : List Frame) (meth : Method) (c : Code) (ls : Array Slot), p.tables.exec = Jvm.exec → c.code = b → meth.sig.returnType = some .int → meth.locks = false → c.maxLocals = 5 → c.exceptionTable.toList = tableOf hh → s.vm.findClass y.cls = some m.cls → (∀ w ∈ lg_w, w.before av.toArray s = true) → va_K G.1 classes (tyL G) s → sK Y (cA w0) s s.heap → xP (xA w0 s.heap.size) s s.heap → va_P G.1 classes w0 s.heap → va_D (cA w0) w0 → lv_has ls 5 (lv_args 0 av) →
      W p l e rmw s m av.toArray below meth c s.heap [] 0 0 (vx_MQ below (va_Qi (S := Unit) (fun x _ => x = v) (fun _ t => va_P G.1 classes w1 t.heap) (cA w0)) (vx_X (S := Unit) (fun _ => False) (fun _ _ _ => True) (cA w0)) av.toArray s 1 6 (cA w0)) (F0 m 0 ls [])) : CW l y b hh G Y av w0 w1 v := by
  refine vx_ofWH (cc := b) (maxL := 5) (ret := some .int) (hh := hh) hy rfl ?_
  intro p e s m args below meth c s₁ B hml hv
  obtain ⟨rfl, ⟨hP, hK, hD, hsk⟩, hxp⟩ := hv
  have hts := atoms_spec (ws := wlx y b hh) B.pre
  have htab : c.exceptionTable.toList = tableOf hh := vx_table (x := y) B (hts _ List.mem_cons_self)
  have hl := lv_entry av (n := 5) hle
  rw [lg_entry_eq]
  generalize (lg_sl av ++ List.replicate (5 - (lg_sl av).length) Slot.unset).toArray = ls at hl ⊢
  exact body p e s m below meth c ls B.exec B.bytes B.returns B.notSynchronized hml htab (findClass_of_methodNamed B.named) (fun w hw => hts w (List.mem_cons_of_mem _ hw)) hK hsk hxp hP ⟨hD.1, fun k q hk => ⟨k, q.2, hk⟩⟩ hl
theorem gW {own : String} {idx : Nat} {y : MethodName} {b : ByteArray} {hh : List (Nat × Nat × Nat × Nat)} (h1 : Cond.methodLink own idx y ∈ lg_w) (h2 : Cond.static y ∈ lg_w) (h3 : Cond.initialized y.cls ∈ lg_w) (h4 : Cond.codeWith y b 5 (some .int) hh ∈ lg_w) : GoodIn lg_w (va_wsS own idx y (wlx y b hh)) := by
  intro w hw
  have hm : w ∈ lg_w := by
    rcases List.mem_append.mp hw with hw | hw
    · rcases List.mem_cons.mp hw with rfl | hw
      · exact h1
      · rcases List.mem_cons.mp hw with rfl | hw
        · exact h2
        · rcases List.mem_cons.mp hw with rfl | hw
          · exact h3
          · cases hw
    · rcases List.mem_cons.mp hw with rfl | hw
      · exact h4
      · exact hw
  exact ⟨hm, good_of_word (lg_good hm)⟩
theorem heO (u wr : va_W) (x : Nat × va_E) : (u ++ (wr ++ [x]))[u.length + wr.length]? = some x := ap_v (u := u) (wc := wr) (v := [x]) 0
abbrev b_L_edge : ByteArray := method_3_code
def y_L_edge : MethodName := ⟨"JoinOrdersLaw", "edge", "(LJoinOrders;II[J)I"⟩
theorem d_L_edge_0 : decode b_L_edge 0 = .ok (.aload_n 3, 1) := by decide +kernel
theorem d_L_edge_1 : decode b_L_edge 1 = .ok (.iconst 0, 1) := by decide +kernel
theorem d_L_edge_2 : decode b_L_edge 2 = .ok (.aload_n 0, 1) := by decide +kernel
theorem d_L_edge_3 : decode b_L_edge 3 = .ok (.iload_n 1, 1) := by decide +kernel
theorem d_L_edge_4 : decode b_L_edge 4 = .ok (.iload_n 2, 1) := by decide +kernel
theorem d_L_edge_5 : decode b_L_edge 5 = .ok (.invokevirtual 7, 3) := by decide +kernel
theorem d_L_edge_8 : decode b_L_edge 8 = .ok (.i2l, 1) := by decide +kernel
theorem d_L_edge_9 : decode b_L_edge 9 = .ok (.lastore, 1) := by decide +kernel
theorem d_L_edge_10 : decode b_L_edge 10 = .ok (.goto 7, 3) := by decide +kernel
theorem d_L_edge_13 : decode b_L_edge 13 = .ok (.astore 4, 2) := by decide +kernel
theorem d_L_edge_15 : decode b_L_edge 15 = .ok (.iconst 1, 1) := by decide +kernel
theorem d_L_edge_16 : decode b_L_edge 16 = .ok (.ireturn, 1) := by decide +kernel
theorem d_L_edge_17 : decode b_L_edge 17 = .ok (.iconst 0, 1) := by decide +kernel
theorem d_L_edge_18 : decode b_L_edge 18 = .ok (.ireturn, 1) := by decide +kernel
set_option maxHeartbeats 4000000 in
set_option maxRecDepth 100000 in
theorem w_edge (l : Launch) (G : va_G × (Nat → ClassId)) (Y : (Nat → Nat) × (Nat → Nat)) (a : Nat → Nat) (sj : SJ) (wr : va_W) (o : Nat) (f : Nat → Int64) (x1 x2 : Int32) (v : Int32) (h : sJ_edge sj x1 x2 = some (v, sj)) : CW l y_L_edge b_L_edge [(0, 10, 13, 13)] G Y [.ref (a 0), .int x1, .int x2, .ref o] (WJ G a sj ++ (wr ++ [(o, aJ G 1 f)])) (WJ G a sj ++ (wr ++ [(o, aJ G 1 (vp_updL f (0 : Int32).toNatClampNeg (v.toInt64)))])) 0 := by
  refine entW (by decide) (Nat.le_of_ble_eq_true rfl) ?_
  intro p e s m below meth c ls hx hb hr hlocks hml htab hown htl hK hsk hxp hP hD hl
  have hl : lv_has ls 5 [(0, .ref (a 0)), (1, .int x1), (2, .int x2), (3, .ref o)] := hl
  have hS : va_S (cA (WJ G a sj ++ (wr ++ [(o, aJ G 1 f)]))) s.heap s.heap [] := va_S.rf
  refine lv_aload_n hx hb d_L_edge_0 rfl (lv_at hl 3 rfl) ?_
  refine lv_iconst (v := (0 : Int32)) hx hb d_L_edge_1 (by decide) ?_
  refine lv_aload_n hx hb d_L_edge_2 rfl (lv_at hl 0 rfl) ?_
  refine lv_iload_n hx hb d_L_edge_3 rfl (lv_at hl 1 rfl) ?_
  refine lv_iload_n hx hb d_L_edge_4 rfl (lv_at hl 2 rfl) ?_
  refine ap_i (u := []) (wc := WJ G a sj) (w1 := WJ G a sj) (v := wr ++ [(o, aJ G 1 f)]) (As := [.int x1, .int x2]) (rest := [.int (0 : Int32), .ref o]) (ci := 11) (q0 := 0) hx hb hml hown htl (CJ_edge l G Y a 300000 sj x1 x2 v sj h) mv_J_edge k_1110 ⟨rfl, rfl, Nat.le_of_ble_eq_true rfl, Nat.le_of_ble_eq_true rfl, Nat.zero_le _, Nat.zero_le _⟩ hK hsk hS hP hD rfl (heJ G a sj _) (WJ_a G a sj sj) rfl hl.1 rfl (lv_room (Nat.le_of_ble_eq_true rfl)) d_L_edge_5 (fun H locs hP hD hS => ?_)
  have hP : va_P G.1 classes (WJ G a sj ++ (wr ++ [(o, aJ G 1 f)])) H := hP
  have hD : va_D (cA (WJ G a sj ++ (wr ++ [(o, aJ G 1 f)]))) (WJ G a sj ++ (wr ++ [(o, aJ G 1 f)])) := hD
  refine lv_i2l hx hb d_L_edge_8 rfl ?_
  refine nx_last hx hb hK hP hD hS ((WJ G a sj).length + wr.length) 2 (heO _ _ _) rfl (vp_lit (by decide)) d_L_edge_9 (fun f' ef H locs hP hD hS => ?_)
  subst ef
  rw [ap_set] at hP
  refine lv_goto (tgt := 17) hx hb d_L_edge_10 (by decide) ?_
  refine lv_iconst (v := (0 : Int32)) hx hb d_L_edge_17 (by decide) ?_
  exact W.widen (k := 1) (n := 6) (Nat.zero_le _) (Nat.zero_le _) (vx_ret (W.iret hx hb hr (fun t ht _ => ⟨⟨0, (), rfl, rfl, by subst ht; exact hP⟩, hS.F ht⟩) hS.2.2 d_L_edge_18 (hlocks := hlocks)))
set_option maxHeartbeats 4000000 in
set_option maxRecDepth 100000 in
theorem w_edgeT (l : Launch) (hst : l.stackTraces = false) (G : va_G × (Nat → ClassId)) (Y : (Nat → Nat) × (Nat → Nat)) (a : Nat → Nat) (sj : SJ) (wr : va_W) (o : Nat) (f : Nat → Int64) (x1 x2 : Int32) (ht : qThrE (sj.1 42) x1 x2) : CW l y_L_edge b_L_edge [(0, 10, 13, 13)] G Y [.ref (a 0), .int x1, .int x2, .ref o] (WJ G a sj ++ (wr ++ [(o, aJ G 1 f)])) (WJ G a sj ++ (wr ++ [(o, aJ G 1 f)])) 1 := by
  refine entW (by decide) (Nat.le_of_ble_eq_true rfl) ?_
  intro p e s m below meth c ls hx hb hr hlocks hml htab hown htl hK hsk hxp hP hD hl
  have hl : lv_has ls 5 [(0, .ref (a 0)), (1, .int x1), (2, .int x2), (3, .ref o)] := hl
  have hS : va_S (cA (WJ G a sj ++ (wr ++ [(o, aJ G 1 f)]))) s.heap s.heap [] := va_S.rf
  have hC : [0, 5, 28].map (fun i => (WJ G a sj ++ (wr ++ [(o, aJ G 1 f)]))[i]?) = (tE a sj).map some := rfl
  refine lv_aload_n hx hb d_L_edge_0 rfl (lv_at hl 3 rfl) ?_
  refine lv_iconst (v := (0 : Int32)) hx hb d_L_edge_1 (by decide) ?_
  refine lv_aload_n hx hb d_L_edge_2 rfl (lv_at hl 0 rfl) ?_
  refine lv_iload_n hx hb d_L_edge_3 rfl (lv_at hl 1 rfl) ?_
  refine lv_iload_n hx hb d_L_edge_4 rfl (lv_at hl 2 rfl) ?_
  obtain ⟨m1, m2, m3, m4, m5⟩ := mv_J_edge
  have hcw : CallW rmw s [Value.ref (a 0), .int x1, .int x2, .ref o].toArray "JoinOrdersLaw" "JoinOrders" 7 y_J_edge b_J_edge 3 (some .int) (wl y_J_edge b_J_edge 3 (some .int)) rmx 1 6 2 :=
    ⟨callB_of 2 htl (gI m1) rfl rfl rfl (htl _ (by rw [m5.1]; exact m4)) (htl _ k_1110) m5.2 ⟨Nat.le_of_ble_eq_true rfl, Nat.le_of_ble_eq_true rfl⟩, htl _ m2, htl _ m3⟩
  refine vx_calli (S := Unit) (SX := Unit) (post := fun _ _ => False) (B := fun _ _ => True) (A1 := cA (tE a sj)) (A0 := cA (WJ G a sj ++ (wr ++ [(o, aJ G 1 f)]))) (px := fun _ => True) (BX := fun E _ t => E = nseN ∧ va_P G.1 classes (tE a sj) t.heap) (AX := cA (tE a sj))
    (vx_runV (As := [.int x1, .int x2]) (rest := [.int (0 : Int32), .ref o]) ⟨hx, hb, hml, hown, htl⟩ (t_edge l hst G Y a sj x1 x2 ht _) hcw ⟨cX_blind, va_recv (ci := 11) hK hP rfl (heJ G a sj _), pcX hK hsk hxp hP hD hC (by decide)⟩ rfl rfl hl.1 rfl (lv_room (Nat.le_of_ble_eq_true rfl)) d_L_edge_5 ⟨Nat.le_of_ble_eq_true rfl, Nat.le_of_ble_eq_true rfl⟩)
    hS (fun q _ h => cA_free hD hC q h) (cA_free hD hC) (fun q _ h => cA_free hD hC q h) ?_ (fun r u t H1 locs1 _ _ hp => hp.elim)
  intro E ce q9 u t H1 locs1 ht9 hvm hpx hB hz hk hS1 hcell hv hcl
  obtain ⟨hE, hB⟩ := hB
  subst hE
  subst ht9
  obtain ⟨h1, -⟩ := va_joinS hP hD hC rfl hk hB
  rw [va_sets_self _ _ _ hC] at h1
  refine vx_catch (own := "JoinOrdersLaw") (name := nseN) (E := nseN) hown [] ⟨0, 10, 13, 13⟩ [] htab (fun z hz => by cases hz) rfl (by decide) (htl _ k_1109) ((hxp.1 _ xW_cast).use (xW_tab xW_cast)) hcell hv hcl ?_
  show W p l e rmw s m _ below meth c t.heap locs1 (0 + 1) (0 + 6) _ (F0 m 13 ls [.ref q9])
  refine lv_astore (lv' := [(4, .ref q9), (0, .ref (a 0)), (1, .int x1), (2, .int x2), (3, .ref o)]) hx hb d_L_edge_13 hl (by decide) rfl (fun ls hl => ?_)
  refine lv_iconst (v := (1 : Int32)) hx hb d_L_edge_15 (by decide) ?_
  exact vx_ret (W.iret hx hb hr (fun t ht _ => ⟨⟨1, (), rfl, rfl, (show va_P G.1 classes _ t.heap by rw [ht]; exact h1)⟩, hS1.F ht⟩) hS1.2.2 d_L_edge_16 (hlocks := hlocks))
abbrev b_L_node : ByteArray := method_4_code
def y_L_node : MethodName := ⟨"JoinOrdersLaw", "node", "(LJoinOrders;II[J)I"⟩
theorem d_L_node_0 : decode b_L_node 0 = .ok (.aload_n 3, 1) := by decide +kernel
theorem d_L_node_1 : decode b_L_node 1 = .ok (.iconst 0, 1) := by decide +kernel
theorem d_L_node_2 : decode b_L_node 2 = .ok (.aload_n 0, 1) := by decide +kernel
theorem d_L_node_3 : decode b_L_node 3 = .ok (.iload_n 1, 1) := by decide +kernel
theorem d_L_node_4 : decode b_L_node 4 = .ok (.iload_n 2, 1) := by decide +kernel
theorem d_L_node_5 : decode b_L_node 5 = .ok (.invokevirtual 15, 3) := by decide +kernel
theorem d_L_node_8 : decode b_L_node 8 = .ok (.lastore, 1) := by decide +kernel
theorem d_L_node_9 : decode b_L_node 9 = .ok (.goto 7, 3) := by decide +kernel
theorem d_L_node_12 : decode b_L_node 12 = .ok (.astore 4, 2) := by decide +kernel
theorem d_L_node_14 : decode b_L_node 14 = .ok (.iconst 1, 1) := by decide +kernel
theorem d_L_node_15 : decode b_L_node 15 = .ok (.ireturn, 1) := by decide +kernel
theorem d_L_node_16 : decode b_L_node 16 = .ok (.iconst 0, 1) := by decide +kernel
theorem d_L_node_17 : decode b_L_node 17 = .ok (.ireturn, 1) := by decide +kernel
set_option maxHeartbeats 4000000 in
set_option maxRecDepth 100000 in
theorem w_node (l : Launch) (G : va_G × (Nat → ClassId)) (Y : (Nat → Nat) × (Nat → Nat)) (a : Nat → Nat) (sj : SJ) (wr : va_W) (o : Nat) (f : Nat → Int64) (x1 x2 : Int32) (v : Int64) (s' : SJ) (h : sJ_node 300000 sj x1 x2 = some (v, s')) : CW l y_L_node b_L_node [(0, 9, 12, 13)] G Y [.ref (a 0), .int x1, .int x2, .ref o] (WJ G a sj ++ (wr ++ [(o, aJ G 1 f)])) (WJ G a s' ++ (wr ++ [(o, aJ G 1 (vp_updL f (0 : Int32).toNatClampNeg (v)))])) 0 := by
  refine entW (by decide) (Nat.le_of_ble_eq_true rfl) ?_
  intro p e s m below meth c ls hx hb hr hlocks hml htab hown htl hK hsk hxp hP hD hl
  have hl : lv_has ls 5 [(0, .ref (a 0)), (1, .int x1), (2, .int x2), (3, .ref o)] := hl
  have hS : va_S (cA (WJ G a sj ++ (wr ++ [(o, aJ G 1 f)]))) s.heap s.heap [] := va_S.rf
  refine lv_aload_n hx hb d_L_node_0 rfl (lv_at hl 3 rfl) ?_
  refine lv_iconst (v := (0 : Int32)) hx hb d_L_node_1 (by decide) ?_
  refine lv_aload_n hx hb d_L_node_2 rfl (lv_at hl 0 rfl) ?_
  refine lv_iload_n hx hb d_L_node_3 rfl (lv_at hl 1 rfl) ?_
  refine lv_iload_n hx hb d_L_node_4 rfl (lv_at hl 2 rfl) ?_
  refine ap_l (u := []) (wc := WJ G a sj) (w1 := WJ G a s') (v := wr ++ [(o, aJ G 1 f)]) (As := [.int x1, .int x2]) (rest := [.int (0 : Int32), .ref o]) (ci := 11) (q0 := 0) hx hb hml hown htl (CJ_node l G Y a 300000 sj x1 x2 v s' h) mv_J_node k_1183 ⟨rfl, rfl, Nat.le_of_ble_eq_true rfl, Nat.le_of_ble_eq_true rfl, Nat.zero_le _, Nat.zero_le _⟩ hK hsk hS hP hD rfl (heJ G a sj _) (WJ_a G a sj s') rfl hl.1 rfl (lv_room (Nat.le_of_ble_eq_true rfl)) d_L_node_5 (fun H locs hP hD hS => ?_)
  have hP : va_P G.1 classes (WJ G a s' ++ (wr ++ [(o, aJ G 1 f)])) H := hP
  have hD : va_D (cA (WJ G a sj ++ (wr ++ [(o, aJ G 1 f)]))) (WJ G a s' ++ (wr ++ [(o, aJ G 1 f)])) := hD
  refine nx_last hx hb hK hP hD hS ((WJ G a s').length + wr.length) 2 (heO _ _ _) rfl (vp_lit (by decide)) d_L_node_8 (fun f' ef H locs hP hD hS => ?_)
  subst ef
  rw [ap_set] at hP
  refine lv_goto (tgt := 16) hx hb d_L_node_9 (by decide) ?_
  refine lv_iconst (v := (0 : Int32)) hx hb d_L_node_16 (by decide) ?_
  exact W.widen (k := 1) (n := 6) (Nat.zero_le _) (Nat.zero_le _) (vx_ret (W.iret hx hb hr (fun t ht _ => ⟨⟨0, (), rfl, rfl, by subst ht; exact hP⟩, hS.F ht⟩) hS.2.2 d_L_node_17 (hlocks := hlocks)))
set_option maxHeartbeats 4000000 in
set_option maxRecDepth 100000 in
theorem w_nodeT (l : Launch) (hst : l.stackTraces = false) (G : va_G × (Nat → ClassId)) (Y : (Nat → Nat) × (Nat → Nat)) (a : Nat → Nat) (sj : SJ) (wr : va_W) (o : Nat) (f : Nat → Int64) (x1 x2 : Int32) (ht : qThrN (sj.1 44) (sj.1 45) x1 x2) : CW l y_L_node b_L_node [(0, 9, 12, 13)] G Y [.ref (a 0), .int x1, .int x2, .ref o] (WJ G a sj ++ (wr ++ [(o, aJ G 1 f)])) (WJ G a sj ++ (wr ++ [(o, aJ G 1 f)])) 1 := by
  refine entW (by decide) (Nat.le_of_ble_eq_true rfl) ?_
  intro p e s m below meth c ls hx hb hr hlocks hml htab hown htl hK hsk hxp hP hD hl
  have hl : lv_has ls 5 [(0, .ref (a 0)), (1, .int x1), (2, .int x2), (3, .ref o)] := hl
  have hS : va_S (cA (WJ G a sj ++ (wr ++ [(o, aJ G 1 f)]))) s.heap s.heap [] := va_S.rf
  have hC : [0, 5, 29].map (fun i => (WJ G a sj ++ (wr ++ [(o, aJ G 1 f)]))[i]?) = (tN a sj).map some := rfl
  refine lv_aload_n hx hb d_L_node_0 rfl (lv_at hl 3 rfl) ?_
  refine lv_iconst (v := (0 : Int32)) hx hb d_L_node_1 (by decide) ?_
  refine lv_aload_n hx hb d_L_node_2 rfl (lv_at hl 0 rfl) ?_
  refine lv_iload_n hx hb d_L_node_3 rfl (lv_at hl 1 rfl) ?_
  refine lv_iload_n hx hb d_L_node_4 rfl (lv_at hl 2 rfl) ?_
  obtain ⟨m1, m2, m3, m4, m5⟩ := mv_J_node
  have hcw : CallW rmw s [Value.ref (a 0), .int x1, .int x2, .ref o].toArray "JoinOrdersLaw" "JoinOrders" 15 y_J_node b_J_node 4 (some .long) (wl y_J_node b_J_node 4 (some .long)) rmx 1 6 2 :=
    ⟨callB_of 2 htl (gI m1) rfl rfl rfl (htl _ (by rw [m5.1]; exact m4)) (htl _ k_1183) m5.2 ⟨Nat.le_of_ble_eq_true rfl, Nat.le_of_ble_eq_true rfl⟩, htl _ m2, htl _ m3⟩
  refine vx_calll (S := Unit) (SX := Unit) (post := fun _ _ => False) (B := fun _ _ => True) (A1 := cA (tN a sj)) (A0 := cA (WJ G a sj ++ (wr ++ [(o, aJ G 1 f)]))) (px := fun _ => True) (BX := fun E _ t => E = nseN ∧ va_P G.1 classes (tN a sj) t.heap) (AX := cA (tN a sj))
    (vx_runV (As := [.int x1, .int x2]) (rest := [.int (0 : Int32), .ref o]) ⟨hx, hb, hml, hown, htl⟩ (t_node l hst G Y a sj x1 x2 ht _) hcw ⟨cX_blind, va_recv (ci := 11) hK hP rfl (heJ G a sj _), pcX hK hsk hxp hP hD hC (by decide)⟩ rfl rfl hl.1 rfl (lv_room (Nat.le_of_ble_eq_true rfl)) d_L_node_5 ⟨Nat.le_of_ble_eq_true rfl, Nat.le_of_ble_eq_true rfl⟩)
    hS (fun q _ h => cA_free hD hC q h) (cA_free hD hC) (fun q _ h => cA_free hD hC q h) ?_ (fun r u t H1 locs1 _ _ hp => hp.elim)
  intro E ce q9 u t H1 locs1 ht9 hvm hpx hB hz hk hS1 hcell hv hcl
  obtain ⟨hE, hB⟩ := hB
  subst hE
  subst ht9
  obtain ⟨h1, -⟩ := va_joinS hP hD hC rfl hk hB
  rw [va_sets_self _ _ _ hC] at h1
  refine vx_catch (own := "JoinOrdersLaw") (name := nseN) (E := nseN) hown [] ⟨0, 9, 12, 13⟩ [] htab (fun z hz => by cases hz) rfl (by decide) (htl _ k_1109) ((hxp.1 _ xW_cast).use (xW_tab xW_cast)) hcell hv hcl ?_
  show W p l e rmw s m _ below meth c t.heap locs1 (0 + 1) (0 + 6) _ (F0 m 12 ls [.ref q9])
  refine lv_astore (lv' := [(4, .ref q9), (0, .ref (a 0)), (1, .int x1), (2, .int x2), (3, .ref o)]) hx hb d_L_node_12 hl (by decide) rfl (fun ls hl => ?_)
  refine lv_iconst (v := (1 : Int32)) hx hb d_L_node_14 (by decide) ?_
  exact vx_ret (W.iret hx hb hr (fun t ht _ => ⟨⟨1, (), rfl, rfl, (show va_P G.1 classes _ t.heap by rw [ht]; exact h1)⟩, hS1.F ht⟩) hS1.2.2 d_L_node_15 (hlocks := hlocks))
