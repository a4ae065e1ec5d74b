theorem k_118 : (.classLink "JoinOrdersLaw" 8 "JoinOrders" : Cond) ∈ lg_w := inG (List.mem_of_getElem? (i := 118) (by decide +kernel)) (by decide +kernel)
theorem k_119 : (.instantiable "JoinOrders" 18 : Cond) ∈ lg_w := inG (List.mem_of_getElem? (i := 119) (by decide +kernel)) (by decide +kernel)
theorem k_120 : (.methodLink "JoinOrdersLaw" 19 ⟨"JoinOrders", "<init>", "()V"⟩ : Cond) ∈ lg_w := inG (List.mem_of_getElem? (i := 120) (by decide +kernel)) (by decide +kernel)
theorem k_1190 : (.classLink "JoinOrdersLaw" 20 "JoinOrdersModel" : Cond) ∈ lg_w := inG (List.mem_of_getElem? (i := 1190) (by decide +kernel)) (by decide +kernel)
theorem k_1191 : (.instantiable "JoinOrdersModel" 44 : Cond) ∈ lg_w := inG (List.mem_of_getElem? (i := 1191) (by decide +kernel)) (by decide +kernel)
theorem k_1192 : (.methodLink "JoinOrdersLaw" 22 ⟨"JoinOrdersModel", "<init>", "()V"⟩ : Cond) ∈ lg_w := inG (List.mem_of_getElem? (i := 1192) (by decide +kernel)) (by decide +kernel)
theorem xW_in : xW.all (fun w => decide (w ∈ lw_tbl)) = true := by decide +kernel
set_option maxRecDepth 100000 in
theorem le_xP {args : Array Value} {s : State} (hts : ∀ w ∈ lw_tbl, w.before args s = true) (hgv : (Jvm.Cond.and given_1 narrow_1).before args s = true) : xP (fun q => s.heap.size ≤ q) s s.heap := by
  have hs := flat_of_before _ hgv
  have hA : ∀ a : Nat, a < s.heap.size → ¬ (fun q => s.heap.size ≤ q) a := fun a h => Nat.not_le.mpr h
  refine ⟨fun w hw => va_Nw.of (xW_tab hw) (hts w (of_decide_eq_true (List.all_eq_true.mp xW_in w hw))), ?_, ?_⟩
  · exact vx_Zqof (hts _ (List.mem_of_getElem? (i := 1141) (by decide +kernel))) (hts _ (List.mem_of_getElem? (i := 114) (by decide +kernel))) (hs _ (by decide +kernel)) hA
  · exact vx_Zqof (hts _ (List.mem_of_getElem? (i := 1143) (by decide +kernel))) (hts _ (List.mem_of_getElem? (i := 114) (by decide +kernel))) (hs _ (by decide +kernel)) hA
set_option maxHeartbeats 4000000 in
set_option maxRecDepth 100000 in
theorem whole_start {p : Program} {e : Env} {s : State} {m : MethodId} {below : List Frame} {meth : Method} {c : Code} (l : Launch) (hflags : l.flags = flags0) {b L : Nat} {xs : Nat → Int32} (hL : L ≤ 2048) (C0 : lw_At p s m meth c b L xs) : W p l e room_1 s m #[Value.ref b] below meth c s.heap [] 0 0 (lw_Z below #[Value.ref b] s) (entryFrame m ([Value.ref b] : List Value).toArray 8) := by
  obtain ⟨hx, hb, hr, hml, hown, hts, hX, hbl, hlocks, hgv⟩ := C0
  have htl := le_htl hts
  obtain ⟨G, hK⟩ := le_K hts
  obtain ⟨Y, hsk⟩ := le_sK hts hgv
  have hxp := le_xP hts hgv
  have hst : l.stackTraces = false := by
    unfold Launch.stackTraces
    rw [hflags]
    decide +kernel
  have C : LX p s m c b L xs G Y := ⟨hx, hb, hml, hown, htl, hK, hsk, hX, hbl⟩
  have hl := lv_entry [.ref b] (n := 8) (Nat.le_of_ble_eq_true rfl)
  rw [lg_entry_eq]
  generalize (lg_sl [.ref b] ++ List.replicate (8 - (lg_sl [.ref b]).length) Slot.unset).toArray = ls at hl ⊢
  have hl : lv_has ls 8 [(0, .ref b)] := hl
  have hP : va_P G.1 classes [] s.heap := fun k q h => by simp at h
  have hD : va_D (fun q : Nat => s.heap.size ≤ q) [] := ⟨fun i j p q h => by simp at h, fun k q h => by simp at h⟩
  have hS : va_S (fun q : Nat => s.heap.size ≤ q) s.heap s.heap [] := va_S.rf
  have hA : ∀ q : Nat, s.heap.size ≤ q → (fun q : Nat => s.heap.size ≤ q) q := fun q h => h
  refine va_new (D := G.1) (ci := 11) (fs := [.null, .null, .null, .null, .int 0, .int 0, .null, .null, .null, .null, .null, .null, .null, .null, .null, .null, .null, .null]) (C := n_J) (T := T_J) (N := 18) hx hb htl iw_J ty_J ty_J_ok hown (htl _ k_118) (htl _ k_119) (htl _ k_93) hK hP hD hS hA rfl (df_J) (Nat.le_of_ble_eq_true rfl) (Nat.le_of_ble_eq_true rfl) d_law_0 (fun q1 H hP hD hS => ?_)
  refine W.widen (k := 1) (n := 18) (Nat.le_of_ble_eq_true rfl) (Nat.le_of_ble_eq_true rfl) ?_
  have hP := vp_rot hP
  have hD := vd_rot hD
  refine lv_dup hx hb d_law_3 rfl ?_
  refine callC hx hb hml hown htl (n_J_init l G) xb_j (le_xJ hts) mi_J_init k_120 ⟨rfl, rfl, Nat.le_of_ble_eq_true rfl, Nat.le_of_ble_eq_true rfl, Nat.le_of_ble_eq_true rfl, Nat.le_of_ble_eq_true rfl⟩ hK hA hS hP hD hl.1 (lv_room (Nat.le_of_ble_eq_true rfl)) d_law_4 (fun H locs u1 hP hD hS => ?_)
  refine W.widen (k := 165) (n := 9967) (Nat.le_of_ble_eq_true rfl) (Nat.le_of_ble_eq_true rfl) ?_
  obtain ⟨a, ha⟩ : ∃ z, z = consF q1 u1 := ⟨_, rfl⟩
  rw [← ha, ← WJ_0, List.append_nil] at hP hD
  have e1 : q1 = a 0 := by rw [ha]; rfl
  rw [e1]
  refine lv_astore_n (lv' := [(1, .ref (a 0)), (0, .ref b)]) hx hb d_law_7 rfl hl (by decide) rfl (fun ls hl => ?_)
  generalize hwj : WJ G a s0J = wj at hP hD
  refine va_new (D := G.1) (ci := 12) (fs := [.int 0, .null, .null, .null, .null, .int 0, .int 0, .int 0, .int 0, .int 0, .int 0, .int 0, .long 0, .int 0, .int 0, .int 0, .null, .int 0, .int 0, .null, .int 0, .null, .int 0, .int 0, .int 0, .null, .null, .null, .null, .null, .null, .null, .null, .int 0, .null, .int 0, .int 0, .int 0, .int 0, .int 0, .int 0, .null, .int 0, .null]) (C := n_R) (T := T_R) (N := 44) hx hb htl iw_R ty_R ty_R_ok hown (htl _ k_1190) (htl _ k_1191) (htl _ k_105) hK hP hD hS hA rfl (df_R) (Nat.le_of_ble_eq_true rfl) (Nat.le_of_ble_eq_true rfl) d_law_8 (fun q2 H hP hD hS => ?_)
  refine W.widen (k := 166) (n := 10011) (Nat.le_of_ble_eq_true rfl) (Nat.le_of_ble_eq_true rfl) ?_
  have hP := vp_rot hP
  have hD := vd_rot hD
  refine lv_dup hx hb d_law_11 rfl ?_
  refine callC hx hb hml hown htl (n_R_init l G) xb_t trivial mi_R_init k_1192 ⟨rfl, rfl, Nat.le_of_ble_eq_true rfl, Nat.le_of_ble_eq_true rfl, Nat.le_of_ble_eq_true rfl, Nat.le_of_ble_eq_true rfl⟩ hK hA hS hP hD hl.1 (lv_room (Nat.le_of_ble_eq_true rfl)) d_law_12 (fun H locs u2 hP hD hS => ?_)
  refine W.widen (k := 184) (n := 19858) (Nat.le_of_ble_eq_true rfl) (Nat.le_of_ble_eq_true rfl) ?_
  obtain ⟨bb, hbb⟩ : ∃ z, z = consF q2 u2 := ⟨_, rfl⟩
  rw [← hbb, ← WR_0] at hP hD
  have e2 : q2 = bb 0 := by rw [hbb]; rfl
  rw [e2]
  generalize hwr : WR G bb t0R = wr at hP hD
  refine lv_astore_n (lv' := [(2, .ref (bb 0)), (1, .ref (a 0)), (0, .ref b)]) hx hb d_law_15 rfl hl (by decide) rfl (fun ls hl => ?_)
  refine lv_iconst (v := (1 : Int32)) hx hb d_law_16 (by decide) ?_
  refine newA (atype := .long) (a0 := (1, .inr (.inl (fun _ => 0)))) hx hb (htl _ k_390) rfl hK 2 rfl hP hD hS hA (fun _ => rfl) (by decide) (by decide) (by decide) (Nat.le_of_ble_eq_true rfl) (Nat.le_of_ble_eq_true rfl) d_law_17 (fun o H hP hD hS => ?_)
  refine W.widen (k := 185) (n := 19859) (Nat.le_of_ble_eq_true rfl) (Nat.le_of_ble_eq_true rfl) ?_
  obtain ⟨hP, hD⟩ := lw_re hP hD
  rw [← hwj, ← hwr] at hP hD
  refine lv_astore_n (lv' := [(3, .ref o), (2, .ref (bb 0)), (1, .ref (a 0)), (0, .ref b)]) hx hb d_law_19 rfl hl (by decide) rfl (fun ls hl => ?_)
  refine lv_iconst (v := (0 : Int32)) hx hb d_law_20 (by decide) ?_
  refine lv_istore (lv' := [(4, .int (qi 0)), (3, .ref o), (2, .ref (bb 0)), (1, .ref (a 0)), (0, .ref b)]) hx hb d_law_21 hl (by decide) rfl (fun ls hl => ?_)
  exact law_loop C hst hxp hr hlocks hL L 0 (by omega) (Nat.zero_le _) σ0 s0J t0R (fun _ => 0) H locs ls 185 19859 rel0J rel0R ⟨hP, hD, hS⟩ hl (by omega) (by omega)
