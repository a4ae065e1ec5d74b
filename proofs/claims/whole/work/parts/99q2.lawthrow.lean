theorem ap_adr {x y : va_W} (h : y.map Prod.fst = x.map Prod.fst) (wr : va_W) (o : Nat) (e1 e2 : va_E) : (y ++ (wr ++ [(o, e1)])).map Prod.fst = (x ++ (wr ++ [(o, e2)])).map Prod.fst := by
  rw [List.map_append, List.map_append, h, List.map_append, List.map_append]
  rfl
theorem lw_call {p : Program} {l : Launch} {e : Env} {s : State} {m : MethodId} {args : Array Value} {below : List Frame} {meth : Method} {c : Code} {H : Heap} {locs : List Loc} {cells slots : Nat} {Q : State → Prop} {cc : ByteArray} {G : va_G × (Nat → ClassId)} {Y : (Nat → Nat) × (Nat → Nat)} {y : MethodName} {b : ByteArray} {hh : List (Nat × Nat × Nat × Nat)} {As : List Value} {ws w1 : va_W} {v : Int32} {pc idx nL : Nat} {ls : Array Slot} {st0 rest : List Value}
    (hx : p.tables.exec = Jvm.exec) (hb : c.code = cc) (hml : c.maxLocals = nL) (hown : s.vm.findClass R_law = some m.cls) (htl : ∀ w ∈ lg_w, w.before args s = true) (hM : CW l y b hh G Y As ws w1 v) (hG : GoodIn lg_w (va_wsS R_law idx y (wlx y b hh))) (hd : y.cls ≠ "java/lang/invoke/MethodHandle" ∧ y.cls ≠ "java/lang/invoke/VarHandle" ∧ (parseMethodDescriptor y.desc).map (fun d => d.parameters.length) = some 4) (hn : As.length = 4)
    (hK : va_K G.1 classes (tyL G) s) (hsk : sK Y (fun q => s.heap.size ≤ q) s s.heap) (hxp : xP (fun q => s.heap.size ≤ q) s s.heap) (hP : va_P G.1 classes ws H) (hD : va_D (fun q : Nat => s.heap.size ≤ q) ws) (hS : va_S (fun q : Nat => s.heap.size ≤ q) s.heap H locs) (hadr : w1.map Prod.fst = ws.map Prod.fst) (hsize : ls.size = nL) (hst : st0 = As.reverse ++ rest) (hW : 2 * (F0 m pc ls st0).monitorRoom + (rest.map fun v => v.category).sum ≤ 8) (hdg : decode cc pc = .ok (.invokestatic idx, 3)) (hc : cells + 1 ≤ 601024) (hs : slots + 6 ≤ 7293034)
    (kk : ∀ (H1 : Heap) (locs1 : List Loc), va_P G.1 classes w1 H1 → va_D (fun q : Nat => s.heap.size ≤ q) w1 → va_S (fun q : Nat => s.heap.size ≤ q) s.heap H1 locs1 → W p l e room_1 s m args below meth c H1 locs1 (cells + 1) (slots + 6) Q (F0 m (pc + 3) ls (.int v :: rest))) : W p l e room_1 s m args below meth c H locs cells slots Q (F0 m pc ls st0) := by
  have hA : ∀ q, cA ws q → s.heap.size ≤ q := ap_A hD
  have hpc : ∀ U : State, U.heap = H → s.WarmedH U.vm → va_Pc As (cX G.1 classes (tyL G) Y ws) As.toArray U := fun U hU hW9 =>
    ⟨rfl, ⟨by rw [hU]; exact hP, va_K.moved hW9.alike hK, hD.weaken (fun _ _ _ _ => trivial), by rw [hU]; exact hsk.sub hS hA hW9⟩, by rw [hU]; exact hxp.sub hS (fun q h => h.elim (hA q) (fun h => Nat.le_trans hS.1 h)) hW9⟩
  refine vx_calli (vx_runSX (As := As) (rest := rest) ⟨hx, hb, hml, hown, htl⟩ hM (vx_cwSW 4 htl hG rfl rfl rfl hd ⟨Nat.le_of_ble_eq_true rfl, Nat.le_of_ble_eq_true rfl⟩) ⟨cX_blind, hpc⟩ rfl hn hsize hst hW hdg ⟨hc, hs⟩) hS (fun q _ h => hA q h) hA (fun q _ h => hA q h) (fun E ce q9 u t H1 locs1 _ _ hpx => hpx.elim) (fun r u t H1 locs1 ht hvm hw hB hz hk hS1 => ?_)
  subst ht
  subst hw
  have hP0 : va_P G.1 classes ([] ++ (ws ++ [])) H := by rw [List.append_nil]; exact hP
  have hD0 : va_D (fun q : Nat => s.heap.size ≤ q) ([] ++ (ws ++ [])) := by rw [List.append_nil]; exact hD
  obtain ⟨-, h2⟩ := ap_join hP0 hD0 hadr hk hB
  rw [List.append_nil] at h2
  exact kk _ _ hB h2 hS1
set_option maxHeartbeats 4000000 in
set_option maxRecDepth 100000 in
theorem law_c14 {p : Program} {l : Launch} {e : Env} {s : State} {m : MethodId} {below : List Frame} {meth : Method} {c : Code} {b L : Nat} {xs : Nat → Int32} {G : va_G × (Nat → ClassId)} {Y : (Nat → Nat) × (Nat → Nat)} {a bb : Nat → Nat} {o : Nat} (C : LX p s m c b L xs G Y) (hst : l.stackTraces = false) (hxp : xP (fun q => s.heap.size ≤ q) s s.heap) (hL : L ≤ 2048) {i : Nat} (hi : i + 4 ≤ L) {σ : Qσ} {sj : SJ} {t : SR} {f : Nat → Int64} {H : Heap} {locs : List Loc} {ls : Array Slot} {cells slots : Nat} {Q : State → Prop} (hJ : qRelJ σ sj) (hR : qRelR σ t) (hw : LW G a bb o s sj t f H locs) (hl : lv_has ls 8 [(4, .int (qi i)), (3, .ref o), (2, .ref (bb 0)), (1, .ref (a 0)), (0, .ref b)]) (hc : cells + 1 ≤ 601024) (hs : slots + 6 ≤ 7293034)
    (kk : ∀ (σ' : Qσ) (sj' : SJ) (t' : SR) (f' : Nat → Int64) (H1 : Heap) (locs1 : List Loc) (ls1 : Array Slot), qRelJ σ' sj' → qRelR σ' t' → LW G a bb o s sj' t' f' H1 locs1 → lv_has ls1 8 [(4, .int (qi i)), (3, .ref o), (2, .ref (bb 0)), (1, .ref (a 0)), (0, .ref b)] → W p l e room_1 s m #[Value.ref b] below meth c H1 locs1 (cells + 1) (slots + 6) Q (F0 m 1190 ls1 [])) : W p l e room_1 s m #[Value.ref b] below meth c H locs cells slots Q (F0 m 558 ls []) := by
  obtain ⟨hx, hb, hml, hown, htl, hK, hsk, hX, hbl⟩ := C
  have hbA : ¬ (fun q : Nat => s.heap.size ≤ q) b := Nat.not_le.mpr hbl
  obtain ⟨hP, hD, hS⟩ := hw
  have n1 : vp_in (qi i + (1 : Int32)) L := ix_in hL hi 1 (by decide)
  obtain ⟨x1, e1⟩ : ∃ z, z = xs (qi i + (1 : Int32)).toNatClampNeg := ⟨_, rfl⟩
  have n2 : vp_in (qi i + (2 : Int32)) L := ix_in hL hi 2 (by decide)
  obtain ⟨x2, e2⟩ : ∃ z, z = xs (qi i + (2 : Int32)).toNatClampNeg := ⟨_, rfl⟩
  rcases qq_edge σ sj t hJ hR 300000 (Nat.le_of_ble_eq_true rfl) x1 x2 with ⟨v, t', ej, er, h0, hR'⟩ | ⟨ht, v, t', er, h0, hR'⟩
  · refine lv_aload_n hx hb d_law_558 rfl (lv_at hl 3 rfl) ?_
    refine lv_aload_n hx hb d_law_559 rfl (lv_at hl 4 rfl) ?_
    refine lv_iload hx hb d_law_560 (lv_at hl 0 rfl) ?_
    refine lv_iconst (v := (1 : Int32)) hx hb d_law_562 (by decide) ?_
    refine lv_iadd hx hb d_law_563 ?_
    refine va_sld hx hb hX hbl hbA hS n1 d_law_564 ?_
    refine lv_lit (y := x1) e1.symm ?_
    refine lv_aload_n hx hb d_law_565 rfl (lv_at hl 4 rfl) ?_
    refine lv_iload hx hb d_law_566 (lv_at hl 0 rfl) ?_
    refine lv_iconst (v := (2 : Int32)) hx hb d_law_568 (by decide) ?_
    refine lv_iadd hx hb d_law_569 ?_
    refine va_sld hx hb hX hbl hbA hS n2 d_law_570 ?_
    refine lv_lit (y := x2) e2.symm ?_
    refine lv_aload_n hx hb d_law_571 rfl (lv_at hl 1 rfl) ?_
    refine lw_call (As := [.ref (a 0), .int x1, .int x2, .ref o]) (rest := []) (w1 := WJ G a sj ++ (WR G bb t ++ [(o, aJ G 1 (vp_updL f (0 : Int32).toNatClampNeg v.toInt64))])) (v := (0 : Int32)) hx hb hml hown htl (w_edge l G Y a sj (WR G bb t) o f x1 x2 v ej) (gW k_1106 k_1107 k_92 k_1108) (by decide) rfl hK hsk hxp hP hD hS (ap_adr (WJ_a G a sj sj) _ _ _ _) hl.1 rfl (lv_room (Nat.le_of_ble_eq_true rfl)) d_law_572 hc hs (fun H locs hP hD hS => ?_)
    refine lv_istore (lv' := [(5, .int (0 : Int32)), (4, .int (qi i)), (3, .ref o), (2, .ref (bb 0)), (1, .ref (a 0)), (0, .ref b)]) hx hb d_law_575 hl (by decide) rfl (fun ls hl => ?_)
    refine lv_aload_n hx hb d_law_577 rfl (lv_at hl 3 rfl) ?_
    refine lv_aload_n hx hb d_law_578 rfl (lv_at hl 5 rfl) ?_
    refine lv_iload hx hb d_law_579 (lv_at hl 1 rfl) ?_
    refine lv_iconst (v := (1 : Int32)) hx hb d_law_581 (by decide) ?_
    refine lv_iadd hx hb d_law_582 ?_
    refine va_sld hx hb hX hbl hbA hS n1 d_law_583 ?_
    refine lv_lit (y := x1) e1.symm ?_
    refine lv_aload_n hx hb d_law_584 rfl (lv_at hl 5 rfl) ?_
    refine lv_iload hx hb d_law_585 (lv_at hl 1 rfl) ?_
    refine lv_iconst (v := (2 : Int32)) hx hb d_law_587 (by decide) ?_
    refine lv_iadd hx hb d_law_588 ?_
    refine va_sld hx hb hX hbl hbA hS n2 d_law_589 ?_
    refine lv_lit (y := x2) e2.symm ?_
    refine ap_i (u := WJ G a sj) (wc := WR G bb t) (w1 := WR G bb t') (v := [(o, aJ G 1 (vp_updL f (0 : Int32).toNatClampNeg v.toInt64))]) (As := [.int x1, .int x2]) (rest := []) (ci := 12) (q0 := 165) hx hb hml hown htl (CR_edge l G Y bb 300000 t x1 x2 v t' er) mv_R_edge k_1630 ⟨rfl, rfl, Nat.le_of_ble_eq_true rfl, Nat.le_of_ble_eq_true rfl, hc, hs⟩ hK hsk hS hP hD rfl (heR G a sj bb t _) (WR_a G bb t t') rfl hl.1 rfl (lv_room (Nat.le_of_ble_eq_true rfl)) d_law_590 (fun H locs hP hD hS => ?_)
    refine lv_istore (lv' := [(6, .int v), (5, .int (0 : Int32)), (4, .int (qi i)), (3, .ref o), (2, .ref (bb 0)), (1, .ref (a 0)), (0, .ref b)]) hx hb d_law_593 hl (by decide) rfl (fun ls hl => ?_)
    refine lv_aload_n hx hb d_law_595 rfl (lv_at hl 4 rfl) ?_
    refine ap_i (u := WJ G a sj) (wc := WR G bb t') (w1 := WR G bb t') (v := [(o, aJ G 1 (vp_updL f (0 : Int32).toNatClampNeg v.toInt64))]) (As := []) (rest := []) (ci := 12) (q0 := 165) hx hb hml hown htl (CR_thrown l G Y bb 300000 t' (t'.1 0) t' rfl) mv_R_thrown k_1329 ⟨rfl, rfl, Nat.le_of_ble_eq_true rfl, Nat.le_of_ble_eq_true rfl, hc, hs⟩ hK hsk hS hP hD rfl (heR G a sj bb t' _) rfl rfl hl.1 rfl (lv_room (Nat.le_of_ble_eq_true rfl)) d_law_596 (fun H locs hP hD hS => ?_)
    refine lv_iload hx hb d_law_599 (lv_at hl 1 rfl) ?_
    refine lv_icmp_eq (tgt := 606) hx hb d_law_601 (by decide) (fun _ => ?_) (fun h => absurd h0 h)
    refine lv_iload hx hb d_law_606 (lv_at hl 1 rfl) ?_
    refine lv_if_ne (tgt := 623) hx hb d_law_608 (by decide) (fun h => absurd rfl h) (fun _ => ?_)
    refine lv_aload_n hx hb d_law_611 rfl (lv_at hl 3 rfl) ?_
    refine lv_iconst (v := (0 : Int32)) hx hb d_law_612 (by decide) ?_
    refine va_lald hx hb hK hP ((WJ G a sj).length + (WR G bb t').length) 2 (heO _ _ _) rfl (vp_lit (by decide)) d_law_613 ?_
    refine lv_iload hx hb d_law_614 (lv_at hl 0 rfl) ?_
    refine lv_i2l hx hb d_law_616 rfl ?_
    refine lx_eq (tgt := 623) hx hb d_law_617 d_law_618 (by decide) (fun _ => ?_) (fun h => absurd (if_pos rfl) h)
    refine lv_goto (tgt := 1190) hx hb d_law_623 (by decide) ?_
    exact kk σ sj t' (vp_updL f (0 : Int32).toNatClampNeg v.toInt64) H locs ls hJ hR' ⟨hP, hD, hS⟩ (lv_sub hl [2, 3, 4, 5, 6] rfl)
  · refine lv_aload_n hx hb d_law_558 rfl (lv_at hl 3 rfl) ?_
    refine lv_aload_n hx hb d_law_559 rfl (lv_at hl 4 rfl) ?_
    refine lv_iload hx hb d_law_560 (lv_at hl 0 rfl) ?_
    refine lv_iconst (v := (1 : Int32)) hx hb d_law_562 (by decide) ?_
    refine lv_iadd hx hb d_law_563 ?_
    refine va_sld hx hb hX hbl hbA hS n1 d_law_564 ?_
    refine lv_lit (y := x1) e1.symm ?_
    refine lv_aload_n hx hb d_law_565 rfl (lv_at hl 4 rfl) ?_
    refine lv_iload hx hb d_law_566 (lv_at hl 0 rfl) ?_
    refine lv_iconst (v := (2 : Int32)) hx hb d_law_568 (by decide) ?_
    refine lv_iadd hx hb d_law_569 ?_
    refine va_sld hx hb hX hbl hbA hS n2 d_law_570 ?_
    refine lv_lit (y := x2) e2.symm ?_
    refine lv_aload_n hx hb d_law_571 rfl (lv_at hl 1 rfl) ?_
    refine lw_call (As := [.ref (a 0), .int x1, .int x2, .ref o]) (rest := []) (w1 := WJ G a sj ++ (WR G bb t ++ [(o, aJ G 1 f)])) (v := (1 : Int32)) hx hb hml hown htl (w_edgeT l hst G Y a sj (WR G bb t) o f x1 x2 ht) (gW k_1106 k_1107 k_92 k_1108) (by decide) rfl hK hsk hxp hP hD hS rfl hl.1 rfl (lv_room (Nat.le_of_ble_eq_true rfl)) d_law_572 hc hs (fun H locs hP hD hS => ?_)
    refine lv_istore (lv' := [(5, .int (1 : Int32)), (4, .int (qi i)), (3, .ref o), (2, .ref (bb 0)), (1, .ref (a 0)), (0, .ref b)]) hx hb d_law_575 hl (by decide) rfl (fun ls hl => ?_)
    refine lv_aload_n hx hb d_law_577 rfl (lv_at hl 3 rfl) ?_
    refine lv_aload_n hx hb d_law_578 rfl (lv_at hl 5 rfl) ?_
    refine lv_iload hx hb d_law_579 (lv_at hl 1 rfl) ?_
    refine lv_iconst (v := (1 : Int32)) hx hb d_law_581 (by decide) ?_
    refine lv_iadd hx hb d_law_582 ?_
    refine va_sld hx hb hX hbl hbA hS n1 d_law_583 ?_
    refine lv_lit (y := x1) e1.symm ?_
    refine lv_aload_n hx hb d_law_584 rfl (lv_at hl 5 rfl) ?_
    refine lv_iload hx hb d_law_585 (lv_at hl 1 rfl) ?_
    refine lv_iconst (v := (2 : Int32)) hx hb d_law_587 (by decide) ?_
    refine lv_iadd hx hb d_law_588 ?_
    refine va_sld hx hb hX hbl hbA hS n2 d_law_589 ?_
    refine lv_lit (y := x2) e2.symm ?_
    refine ap_i (u := WJ G a sj) (wc := WR G bb t) (w1 := WR G bb t') (v := [(o, aJ G 1 f)]) (As := [.int x1, .int x2]) (rest := []) (ci := 12) (q0 := 165) hx hb hml hown htl (CR_edge l G Y bb 300000 t x1 x2 v t' er) mv_R_edge k_1630 ⟨rfl, rfl, Nat.le_of_ble_eq_true rfl, Nat.le_of_ble_eq_true rfl, hc, hs⟩ hK hsk hS hP hD rfl (heR G a sj bb t _) (WR_a G bb t t') rfl hl.1 rfl (lv_room (Nat.le_of_ble_eq_true rfl)) d_law_590 (fun H locs hP hD hS => ?_)
    refine lv_istore (lv' := [(6, .int v), (5, .int (1 : Int32)), (4, .int (qi i)), (3, .ref o), (2, .ref (bb 0)), (1, .ref (a 0)), (0, .ref b)]) hx hb d_law_593 hl (by decide) rfl (fun ls hl => ?_)
    refine lv_aload_n hx hb d_law_595 rfl (lv_at hl 4 rfl) ?_
    refine ap_i (u := WJ G a sj) (wc := WR G bb t') (w1 := WR G bb t') (v := [(o, aJ G 1 f)]) (As := []) (rest := []) (ci := 12) (q0 := 165) hx hb hml hown htl (CR_thrown l G Y bb 300000 t' (t'.1 0) t' rfl) mv_R_thrown k_1329 ⟨rfl, rfl, Nat.le_of_ble_eq_true rfl, Nat.le_of_ble_eq_true rfl, hc, hs⟩ hK hsk hS hP hD rfl (heR G a sj bb t' _) rfl rfl hl.1 rfl (lv_room (Nat.le_of_ble_eq_true rfl)) d_law_596 (fun H locs hP hD hS => ?_)
    refine lv_iload hx hb d_law_599 (lv_at hl 1 rfl) ?_
    refine lv_icmp_eq (tgt := 606) hx hb d_law_601 (by decide) (fun _ => ?_) (fun h => absurd h0 h)
    refine lv_iload hx hb d_law_606 (lv_at hl 1 rfl) ?_
    refine lv_if_ne (tgt := 623) hx hb d_law_608 (by decide) (fun _ => ?_) (fun h => absurd h (by decide))
    refine lv_goto (tgt := 1190) hx hb d_law_623 (by decide) ?_
    exact kk σ sj t' f H locs ls hJ hR' ⟨hP, hD, hS⟩ (lv_sub hl [2, 3, 4, 5, 6] rfl)
set_option maxHeartbeats 4000000 in
set_option maxRecDepth 100000 in
theorem law_c21 {p : Program} {l : Launch} {e : Env} {s : State} {m : MethodId} {below : List Frame} {meth : Method} {c : Code} {b L : Nat} {xs : Nat → Int32} {G : va_G × (Nat → ClassId)} {Y : (Nat → Nat) × (Nat → Nat)} {a bb : Nat → Nat} {o : Nat} (C : LX p s m c b L xs G Y) (hst : l.stackTraces = false) (hxp : xP (fun q => s.heap.size ≤ q) s s.heap) (hL : L ≤ 2048) {i : Nat} (hi : i + 4 ≤ L) {σ : Qσ} {sj : SJ} {t : SR} {f : Nat → Int64} {H : Heap} {locs : List Loc} {ls : Array Slot} {cells slots : Nat} {Q : State → Prop} (hJ : qRelJ σ sj) (hR : qRelR σ t) (hw : LW G a bb o s sj t f H locs) (hl : lv_has ls 8 [(4, .int (qi i)), (3, .ref o), (2, .ref (bb 0)), (1, .ref (a 0)), (0, .ref b)]) (hc : cells + 1 ≤ 601024) (hs : slots + 6 ≤ 7293034)
    (kk : ∀ (σ' : Qσ) (sj' : SJ) (t' : SR) (f' : Nat → Int64) (H1 : Heap) (locs1 : List Loc) (ls1 : Array Slot), qRelJ σ' sj' → qRelR σ' t' → LW G a bb o s sj' t' f' H1 locs1 → lv_has ls1 8 [(4, .int (qi i)), (3, .ref o), (2, .ref (bb 0)), (1, .ref (a 0)), (0, .ref b)] → W p l e room_1 s m #[Value.ref b] below meth c H1 locs1 (cells + 1) (slots + 6) Q (F0 m 1190 ls1 [])) : W p l e room_1 s m #[Value.ref b] below meth c H locs cells slots Q (F0 m 887 ls []) := by
  obtain ⟨hx, hb, hml, hown, htl, hK, hsk, hX, hbl⟩ := C
  have hbA : ¬ (fun q : Nat => s.heap.size ≤ q) b := Nat.not_le.mpr hbl
  obtain ⟨hP, hD, hS⟩ := hw
  have n1 : vp_in (qi i + (1 : Int32)) L := ix_in hL hi 1 (by decide)
  obtain ⟨x1, e1⟩ : ∃ z, z = xs (qi i + (1 : Int32)).toNatClampNeg := ⟨_, rfl⟩
  have n2 : vp_in (qi i + (2 : Int32)) L := ix_in hL hi 2 (by decide)
  obtain ⟨x2, e2⟩ : ∃ z, z = xs (qi i + (2 : Int32)).toNatClampNeg := ⟨_, rfl⟩
  rcases qq_node σ sj t hJ hR 300000 (Nat.le_of_ble_eq_true rfl) x1 x2 with ⟨v, s', t', ej, er, h0, hJ', hR'⟩ | ⟨ht, v, t', er, h0, hR'⟩
  · refine lv_aload_n hx hb d_law_887 rfl (lv_at hl 3 rfl) ?_
    refine lv_aload_n hx hb d_law_888 rfl (lv_at hl 4 rfl) ?_
    refine lv_iload hx hb d_law_889 (lv_at hl 0 rfl) ?_
    refine lv_iconst (v := (1 : Int32)) hx hb d_law_891 (by decide) ?_
    refine lv_iadd hx hb d_law_892 ?_
    refine va_sld hx hb hX hbl hbA hS n1 d_law_893 ?_
    refine lv_lit (y := x1) e1.symm ?_
    refine lv_aload_n hx hb d_law_894 rfl (lv_at hl 4 rfl) ?_
    refine lv_iload hx hb d_law_895 (lv_at hl 0 rfl) ?_
    refine lv_iconst (v := (2 : Int32)) hx hb d_law_897 (by decide) ?_
    refine lv_iadd hx hb d_law_898 ?_
    refine va_sld hx hb hX hbl hbA hS n2 d_law_899 ?_
    refine lv_lit (y := x2) e2.symm ?_
    refine lv_aload_n hx hb d_law_900 rfl (lv_at hl 1 rfl) ?_
    refine lw_call (As := [.ref (a 0), .int x1, .int x2, .ref o]) (rest := []) (w1 := WJ G a s' ++ (WR G bb t ++ [(o, aJ G 1 (vp_updL f (0 : Int32).toNatClampNeg v))])) (v := (0 : Int32)) hx hb hml hown htl (w_node l G Y a sj (WR G bb t) o f x1 x2 v s' ej) (gW k_1180 k_1181 k_92 k_1182) (by decide) rfl hK hsk hxp hP hD hS (ap_adr (WJ_a G a sj s') _ _ _ _) hl.1 rfl (lv_room (Nat.le_of_ble_eq_true rfl)) d_law_901 hc hs (fun H locs hP hD hS => ?_)
    refine lv_istore (lv' := [(5, .int (0 : Int32)), (4, .int (qi i)), (3, .ref o), (2, .ref (bb 0)), (1, .ref (a 0)), (0, .ref b)]) hx hb d_law_904 hl (by decide) rfl (fun ls hl => ?_)
    refine lv_aload_n hx hb d_law_906 rfl (lv_at hl 3 rfl) ?_
    refine lv_aload_n hx hb d_law_907 rfl (lv_at hl 5 rfl) ?_
    refine lv_iload hx hb d_law_908 (lv_at hl 1 rfl) ?_
    refine lv_iconst (v := (1 : Int32)) hx hb d_law_910 (by decide) ?_
    refine lv_iadd hx hb d_law_911 ?_
    refine va_sld hx hb hX hbl hbA hS n1 d_law_912 ?_
    refine lv_lit (y := x1) e1.symm ?_
    refine lv_aload_n hx hb d_law_913 rfl (lv_at hl 5 rfl) ?_
    refine lv_iload hx hb d_law_914 (lv_at hl 1 rfl) ?_
    refine lv_iconst (v := (2 : Int32)) hx hb d_law_916 (by decide) ?_
    refine lv_iadd hx hb d_law_917 ?_
    refine va_sld hx hb hX hbl hbA hS n2 d_law_918 ?_
    refine lv_lit (y := x2) e2.symm ?_
    refine ap_l (u := WJ G a s') (wc := WR G bb t) (w1 := WR G bb t') (v := [(o, aJ G 1 (vp_updL f (0 : Int32).toNatClampNeg v))]) (As := [.int x1, .int x2]) (rest := []) (ci := 12) (q0 := 165) hx hb hml hown htl (CR_node l G Y bb 300000 t x1 x2 v t' er) mv_R_node k_1660 ⟨rfl, rfl, Nat.le_of_ble_eq_true rfl, Nat.le_of_ble_eq_true rfl, hc, hs⟩ hK hsk hS hP hD rfl (heR G a s' bb t _) (WR_a G bb t t') rfl hl.1 rfl (lv_room (Nat.le_of_ble_eq_true rfl)) d_law_919 (fun H locs hP hD hS => ?_)
    refine lv_lstore (lv' := [(6, .long v), (5, .int (0 : Int32)), (4, .int (qi i)), (3, .ref o), (2, .ref (bb 0)), (1, .ref (a 0)), (0, .ref b)]) hx hb d_law_922 hl (by decide) rfl (fun ls hl => ?_)
    refine lv_aload_n hx hb d_law_924 rfl (lv_at hl 4 rfl) ?_
    refine ap_i (u := WJ G a s') (wc := WR G bb t') (w1 := WR G bb t') (v := [(o, aJ G 1 (vp_updL f (0 : Int32).toNatClampNeg v))]) (As := []) (rest := []) (ci := 12) (q0 := 165) hx hb hml hown htl (CR_thrown l G Y bb 300000 t' (t'.1 0) t' rfl) mv_R_thrown k_1329 ⟨rfl, rfl, Nat.le_of_ble_eq_true rfl, Nat.le_of_ble_eq_true rfl, hc, hs⟩ hK hsk hS hP hD rfl (heR G a s' bb t' _) rfl rfl hl.1 rfl (lv_room (Nat.le_of_ble_eq_true rfl)) d_law_925 (fun H locs hP hD hS => ?_)
    refine lv_iload hx hb d_law_928 (lv_at hl 1 rfl) ?_
    refine lv_icmp_eq (tgt := 935) hx hb d_law_930 (by decide) (fun _ => ?_) (fun h => absurd h0 h)
    refine lv_iload hx hb d_law_935 (lv_at hl 1 rfl) ?_
    refine lv_if_ne (tgt := 951) hx hb d_law_937 (by decide) (fun h => absurd rfl h) (fun _ => ?_)
    refine lv_aload_n hx hb d_law_940 rfl (lv_at hl 3 rfl) ?_
    refine lv_iconst (v := (0 : Int32)) hx hb d_law_941 (by decide) ?_
    refine va_lald hx hb hK hP ((WJ G a s').length + (WR G bb t').length) 2 (heO _ _ _) rfl (vp_lit (by decide)) d_law_942 ?_
    refine lv_lload hx hb d_law_943 (lv_at hl 0 rfl) ?_
    refine lx_eq (tgt := 951) hx hb d_law_945 d_law_946 (by decide) (fun _ => ?_) (fun h => absurd (if_pos rfl) h)
    refine lv_goto (tgt := 1190) hx hb d_law_951 (by decide) ?_
    exact kk σ s' t' (vp_updL f (0 : Int32).toNatClampNeg v) H locs ls hJ' hR' ⟨hP, hD, hS⟩ (lv_sub hl [2, 3, 4, 5, 6] rfl)
  · refine lv_aload_n hx hb d_law_887 rfl (lv_at hl 3 rfl) ?_
    refine lv_aload_n hx hb d_law_888 rfl (lv_at hl 4 rfl) ?_
    refine lv_iload hx hb d_law_889 (lv_at hl 0 rfl) ?_
    refine lv_iconst (v := (1 : Int32)) hx hb d_law_891 (by decide) ?_
    refine lv_iadd hx hb d_law_892 ?_
    refine va_sld hx hb hX hbl hbA hS n1 d_law_893 ?_
    refine lv_lit (y := x1) e1.symm ?_
    refine lv_aload_n hx hb d_law_894 rfl (lv_at hl 4 rfl) ?_
    refine lv_iload hx hb d_law_895 (lv_at hl 0 rfl) ?_
    refine lv_iconst (v := (2 : Int32)) hx hb d_law_897 (by decide) ?_
    refine lv_iadd hx hb d_law_898 ?_
    refine va_sld hx hb hX hbl hbA hS n2 d_law_899 ?_
    refine lv_lit (y := x2) e2.symm ?_
    refine lv_aload_n hx hb d_law_900 rfl (lv_at hl 1 rfl) ?_
    refine lw_call (As := [.ref (a 0), .int x1, .int x2, .ref o]) (rest := []) (w1 := WJ G a sj ++ (WR G bb t ++ [(o, aJ G 1 f)])) (v := (1 : Int32)) hx hb hml hown htl (w_nodeT l hst G Y a sj (WR G bb t) o f x1 x2 ht) (gW k_1180 k_1181 k_92 k_1182) (by decide) rfl hK hsk hxp hP hD hS rfl hl.1 rfl (lv_room (Nat.le_of_ble_eq_true rfl)) d_law_901 hc hs (fun H locs hP hD hS => ?_)
    refine lv_istore (lv' := [(5, .int (1 : Int32)), (4, .int (qi i)), (3, .ref o), (2, .ref (bb 0)), (1, .ref (a 0)), (0, .ref b)]) hx hb d_law_904 hl (by decide) rfl (fun ls hl => ?_)
    refine lv_aload_n hx hb d_law_906 rfl (lv_at hl 3 rfl) ?_
    refine lv_aload_n hx hb d_law_907 rfl (lv_at hl 5 rfl) ?_
    refine lv_iload hx hb d_law_908 (lv_at hl 1 rfl) ?_
    refine lv_iconst (v := (1 : Int32)) hx hb d_law_910 (by decide) ?_
    refine lv_iadd hx hb d_law_911 ?_
    refine va_sld hx hb hX hbl hbA hS n1 d_law_912 ?_
    refine lv_lit (y := x1) e1.symm ?_
    refine lv_aload_n hx hb d_law_913 rfl (lv_at hl 5 rfl) ?_
    refine lv_iload hx hb d_law_914 (lv_at hl 1 rfl) ?_
    refine lv_iconst (v := (2 : Int32)) hx hb d_law_916 (by decide) ?_
    refine lv_iadd hx hb d_law_917 ?_
    refine va_sld hx hb hX hbl hbA hS n2 d_law_918 ?_
    refine lv_lit (y := x2) e2.symm ?_
    refine ap_l (u := WJ G a sj) (wc := WR G bb t) (w1 := WR G bb t') (v := [(o, aJ G 1 f)]) (As := [.int x1, .int x2]) (rest := []) (ci := 12) (q0 := 165) hx hb hml hown htl (CR_node l G Y bb 300000 t x1 x2 v t' er) mv_R_node k_1660 ⟨rfl, rfl, Nat.le_of_ble_eq_true rfl, Nat.le_of_ble_eq_true rfl, hc, hs⟩ hK hsk hS hP hD rfl (heR G a sj bb t _) (WR_a G bb t t') rfl hl.1 rfl (lv_room (Nat.le_of_ble_eq_true rfl)) d_law_919 (fun H locs hP hD hS => ?_)
    refine lv_lstore (lv' := [(6, .long v), (5, .int (1 : Int32)), (4, .int (qi i)), (3, .ref o), (2, .ref (bb 0)), (1, .ref (a 0)), (0, .ref b)]) hx hb d_law_922 hl (by decide) rfl (fun ls hl => ?_)
    refine lv_aload_n hx hb d_law_924 rfl (lv_at hl 4 rfl) ?_
    refine ap_i (u := WJ G a sj) (wc := WR G bb t') (w1 := WR G bb t') (v := [(o, aJ G 1 f)]) (As := []) (rest := []) (ci := 12) (q0 := 165) hx hb hml hown htl (CR_thrown l G Y bb 300000 t' (t'.1 0) t' rfl) mv_R_thrown k_1329 ⟨rfl, rfl, Nat.le_of_ble_eq_true rfl, Nat.le_of_ble_eq_true rfl, hc, hs⟩ hK hsk hS hP hD rfl (heR G a sj bb t' _) rfl rfl hl.1 rfl (lv_room (Nat.le_of_ble_eq_true rfl)) d_law_925 (fun H locs hP hD hS => ?_)
    refine lv_iload hx hb d_law_928 (lv_at hl 1 rfl) ?_
    refine lv_icmp_eq (tgt := 935) hx hb d_law_930 (by decide) (fun _ => ?_) (fun h => absurd h0 h)
    refine lv_iload hx hb d_law_935 (lv_at hl 1 rfl) ?_
    refine lv_if_ne (tgt := 951) hx hb d_law_937 (by decide) (fun _ => ?_) (fun h => absurd h (by decide))
    refine lv_goto (tgt := 1190) hx hb d_law_951 (by decide) ?_
    exact kk σ sj t' f H locs ls hJ hR' ⟨hP, hD, hS⟩ (lv_sub hl [2, 3, 4, 5, 6] rfl)
