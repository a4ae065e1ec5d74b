set_option maxHeartbeats 4000000 in
set_option maxRecDepth 100000 in
theorem law_c7 {p : Program} {l : Launch} {e : Env} {s : State} {m : MethodId} {below : List Frame} {meth : Method} {c : Code} {b L : Nat} {xs : Nat → Int32} {G : va_G × (Nat → ClassId)} {Y : (Nat → Nat) × (Nat → Nat)} {a bb : Nat → Nat} {o : Nat} (C : LX p s m c b L xs G Y) (hL : L ≤ 2048) {i : Nat} (hi : i + 4 ≤ L) {σ : Qσ} {sj : SJ} {t : SR} {f : Nat → Int64} {H : Heap} {locs : List Loc} {ls : Array Slot} {cells slots : Nat} {Q : State → Prop} (hJ : qRelJ σ sj) (hR : qRelR σ t) (hw : LW G a bb o s sj t f H locs) (hl : lv_has ls 8 [(4, .int (qi i)), (3, .ref o), (2, .ref (bb 0)), (1, .ref (a 0)), (0, .ref b)]) (hc : cells + 1 ≤ 601024) (hs : slots + 6 ≤ 7293034)
    (kk : ∀ (σ' : Qσ) (sj' : SJ) (t' : SR) (f' : Nat → Int64) (H1 : Heap) (locs1 : List Loc) (ls1 : Array Slot), qRelJ σ' sj' → qRelR σ' t' → LW G a bb o s sj' t' f' H1 locs1 → lv_has ls1 8 [(4, .int (qi i)), (3, .ref o), (2, .ref (bb 0)), (1, .ref (a 0)), (0, .ref b)] → W p l e room_1 s m #[Value.ref b] below meth c H1 locs1 (cells + 1) (slots + 6) Q (F0 m 1190 ls1 [])) : W p l e room_1 s m #[Value.ref b] below meth c H locs cells slots Q (F0 m 407 ls []) := by
  obtain ⟨hx, hb, hml, hown, htl, hK, hsk, hX, hbl⟩ := C
  have hbA : ¬ (fun q : Nat => s.heap.size ≤ q) b := Nat.not_le.mpr hbl
  obtain ⟨hP, hD, hS⟩ := hw
  have n1 : vp_in (qi i + (1 : Int32)) L := ix_in hL hi 1 (by decide)
  obtain ⟨x1, e1⟩ : ∃ z, z = xs (qi i + (1 : Int32)).toNatClampNeg := ⟨_, rfl⟩
  obtain ⟨σ', v, s', t', ej, er, hJ', hR'⟩ := qq_cut σ sj t hJ hR 300000 (Nat.le_of_ble_eq_true rfl) x1
  refine lv_aload_n hx hb d_law_407 rfl (lv_at hl 3 rfl) ?_
  refine lv_aload_n hx hb d_law_408 rfl (lv_at hl 4 rfl) ?_
  refine lv_iload hx hb d_law_409 (lv_at hl 0 rfl) ?_
  refine lv_iconst (v := (1 : Int32)) hx hb d_law_411 (by decide) ?_
  refine lv_iadd hx hb d_law_412 ?_
  refine va_sld hx hb hX hbl hbA hS n1 d_law_413 ?_
  refine lv_lit (y := x1) e1.symm ?_
  refine ap_i (u := []) (wc := WJ G a sj) (w1 := WJ G a s') (v := WR G bb t ++ [(o, aJ G 1 f)]) (As := [.int x1]) (rest := []) (ci := 11) (q0 := 0) hx hb hml hown htl (CJ_cut l G Y a 300000 sj x1 v s'  ej) mv_J_cut k_806 ⟨rfl, rfl, Nat.le_of_ble_eq_true rfl, Nat.le_of_ble_eq_true rfl, Nat.le_of_succ_le hc, Nat.le_trans (Nat.le_add_right _ 6) hs⟩ hK hsk hS hP hD rfl (heJ G a sj _) (WJ_a G a sj s') rfl hl.1 rfl (lv_room (Nat.le_of_ble_eq_true rfl)) d_law_414 (fun H locs hP hD hS => ?_)
  refine lv_aload_n hx hb d_law_417 rfl (lv_at hl 2 rfl) ?_
  refine lv_aload_n hx hb d_law_418 rfl (lv_at hl 4 rfl) ?_
  refine lv_iload hx hb d_law_419 (lv_at hl 0 rfl) ?_
  refine lv_iconst (v := (1 : Int32)) hx hb d_law_421 (by decide) ?_
  refine lv_iadd hx hb d_law_422 ?_
  refine va_sld hx hb hX hbl hbA hS n1 d_law_423 ?_
  refine lv_lit (y := x1) e1.symm ?_
  refine ap_i (u := WJ G a s') (wc := WR G bb t) (w1 := WR G bb t') (v := [(o, aJ G 1 f)]) (As := [.int x1]) (rest := [.int v]) (ci := 12) (q0 := 165) hx hb hml hown htl (CR_cut l G Y bb 300000 t x1 v t'  er) mv_R_cut k_1474 ⟨rfl, rfl, Nat.le_of_ble_eq_true rfl, Nat.le_of_ble_eq_true rfl, Nat.le_of_succ_le hc, Nat.le_trans (Nat.le_add_right _ 6) hs⟩ hK hsk hS hP hD rfl (heR G a s' bb t _) (WR_a G bb t t') rfl hl.1 rfl (lv_room (Nat.le_of_ble_eq_true rfl)) d_law_424 (fun H locs hP hD hS => ?_)
  refine lv_icmp_eq (tgt := 1190) hx hb d_law_427 (by decide) (fun _ => ?_) (fun h => absurd rfl h)
  exact W.widen (Nat.le_succ _) (Nat.le_add_right _ 6) (kk σ' s' t' f H locs ls hJ' hR' ⟨hP, hD, hS⟩ hl)
set_option maxHeartbeats 4000000 in
set_option maxRecDepth 100000 in
theorem law_c8 {p : Program} {l : Launch} {e : Env} {s : State} {m : MethodId} {below : List Frame} {meth : Method} {c : Code} {b L : Nat} {xs : Nat → Int32} {G : va_G × (Nat → ClassId)} {Y : (Nat → Nat) × (Nat → Nat)} {a bb : Nat → Nat} {o : Nat} (C : LX p s m c b L xs G Y) (hL : L ≤ 2048) {i : Nat} (hi : i + 4 ≤ L) {σ : Qσ} {sj : SJ} {t : SR} {f : Nat → Int64} {H : Heap} {locs : List Loc} {ls : Array Slot} {cells slots : Nat} {Q : State → Prop} (hJ : qRelJ σ sj) (hR : qRelR σ t) (hw : LW G a bb o s sj t f H locs) (hl : lv_has ls 8 [(4, .int (qi i)), (3, .ref o), (2, .ref (bb 0)), (1, .ref (a 0)), (0, .ref b)]) (hc : cells + 1 ≤ 601024) (hs : slots + 6 ≤ 7293034)
    (kk : ∀ (σ' : Qσ) (sj' : SJ) (t' : SR) (f' : Nat → Int64) (H1 : Heap) (locs1 : List Loc) (ls1 : Array Slot), qRelJ σ' sj' → qRelR σ' t' → LW G a bb o s sj' t' f' H1 locs1 → lv_has ls1 8 [(4, .int (qi i)), (3, .ref o), (2, .ref (bb 0)), (1, .ref (a 0)), (0, .ref b)] → W p l e room_1 s m #[Value.ref b] below meth c H1 locs1 (cells + 1) (slots + 6) Q (F0 m 1190 ls1 [])) : W p l e room_1 s m #[Value.ref b] below meth c H locs cells slots Q (F0 m 432 ls []) := by
  obtain ⟨hx, hb, hml, hown, htl, hK, hsk, hX, hbl⟩ := C
  have hbA : ¬ (fun q : Nat => s.heap.size ≤ q) b := Nat.not_le.mpr hbl
  obtain ⟨hP, hD, hS⟩ := hw
  have n1 : vp_in (qi i + (1 : Int32)) L := ix_in hL hi 1 (by decide)
  obtain ⟨x1, e1⟩ : ∃ z, z = xs (qi i + (1 : Int32)).toNatClampNeg := ⟨_, rfl⟩
  have n2 : vp_in (qi i + (2 : Int32)) L := ix_in hL hi 2 (by decide)
  obtain ⟨x2, e2⟩ : ∃ z, z = xs (qi i + (2 : Int32)).toNatClampNeg := ⟨_, rfl⟩
  obtain ⟨σ', v, s', t', ej, er, hJ', hR'⟩ := qq_by σ sj t hJ hR 300000 (Nat.le_of_ble_eq_true rfl) x1 x2
  refine lv_aload_n hx hb d_law_432 rfl (lv_at hl 3 rfl) ?_
  refine lv_aload_n hx hb d_law_433 rfl (lv_at hl 4 rfl) ?_
  refine lv_iload hx hb d_law_434 (lv_at hl 0 rfl) ?_
  refine lv_iconst (v := (1 : Int32)) hx hb d_law_436 (by decide) ?_
  refine lv_iadd hx hb d_law_437 ?_
  refine va_sld hx hb hX hbl hbA hS n1 d_law_438 ?_
  refine lv_lit (y := x1) e1.symm ?_
  refine lv_aload_n hx hb d_law_439 rfl (lv_at hl 4 rfl) ?_
  refine lv_iload hx hb d_law_440 (lv_at hl 0 rfl) ?_
  refine lv_iconst (v := (2 : Int32)) hx hb d_law_442 (by decide) ?_
  refine lv_iadd hx hb d_law_443 ?_
  refine va_sld hx hb hX hbl hbA hS n2 d_law_444 ?_
  refine lv_lit (y := x2) e2.symm ?_
  refine ap_i (u := []) (wc := WJ G a sj) (w1 := WJ G a s') (v := WR G bb t ++ [(o, aJ G 1 f)]) (As := [.int x1, .int x2]) (rest := []) (ci := 11) (q0 := 0) hx hb hml hown htl (CJ_by l G Y a 300000 sj x1 x2 v s'  ej) mv_J_by k_819 ⟨rfl, rfl, Nat.le_of_ble_eq_true rfl, Nat.le_of_ble_eq_true rfl, Nat.le_of_succ_le hc, Nat.le_trans (Nat.le_add_right _ 6) hs⟩ hK hsk hS hP hD rfl (heJ G a sj _) (WJ_a G a sj s') rfl hl.1 rfl (lv_room (Nat.le_of_ble_eq_true rfl)) d_law_445 (fun H locs hP hD hS => ?_)
  refine lv_aload_n hx hb d_law_448 rfl (lv_at hl 2 rfl) ?_
  refine lv_aload_n hx hb d_law_449 rfl (lv_at hl 4 rfl) ?_
  refine lv_iload hx hb d_law_450 (lv_at hl 0 rfl) ?_
  refine lv_iconst (v := (1 : Int32)) hx hb d_law_452 (by decide) ?_
  refine lv_iadd hx hb d_law_453 ?_
  refine va_sld hx hb hX hbl hbA hS n1 d_law_454 ?_
  refine lv_lit (y := x1) e1.symm ?_
  refine lv_aload_n hx hb d_law_455 rfl (lv_at hl 4 rfl) ?_
  refine lv_iload hx hb d_law_456 (lv_at hl 0 rfl) ?_
  refine lv_iconst (v := (2 : Int32)) hx hb d_law_458 (by decide) ?_
  refine lv_iadd hx hb d_law_459 ?_
  refine va_sld hx hb hX hbl hbA hS n2 d_law_460 ?_
  refine lv_lit (y := x2) e2.symm ?_
  refine ap_i (u := WJ G a s') (wc := WR G bb t) (w1 := WR G bb t') (v := [(o, aJ G 1 f)]) (As := [.int x1, .int x2]) (rest := [.int v]) (ci := 12) (q0 := 165) hx hb hml hown htl (CR_by l G Y bb 300000 t x1 x2 v t'  er) mv_R_by k_1486 ⟨rfl, rfl, Nat.le_of_ble_eq_true rfl, Nat.le_of_ble_eq_true rfl, Nat.le_of_succ_le hc, Nat.le_trans (Nat.le_add_right _ 6) hs⟩ hK hsk hS hP hD rfl (heR G a s' bb t _) (WR_a G bb t t') rfl hl.1 rfl (lv_room (Nat.le_of_ble_eq_true rfl)) d_law_461 (fun H locs hP hD hS => ?_)
  refine lv_icmp_eq (tgt := 1190) hx hb d_law_464 (by decide) (fun _ => ?_) (fun h => absurd rfl h)
  exact W.widen (Nat.le_succ _) (Nat.le_add_right _ 6) (kk σ' s' t' f H locs ls hJ' hR' ⟨hP, hD, hS⟩ hl)
set_option maxHeartbeats 4000000 in
set_option maxRecDepth 100000 in
theorem law_c9 {p : Program} {l : Launch} {e : Env} {s : State} {m : MethodId} {below : List Frame} {meth : Method} {c : Code} {b L : Nat} {xs : Nat → Int32} {G : va_G × (Nat → ClassId)} {Y : (Nat → Nat) × (Nat → Nat)} {a bb : Nat → Nat} {o : Nat} (C : LX p s m c b L xs G Y) (hL : L ≤ 2048) {i : Nat} (hi : i + 4 ≤ L) {σ : Qσ} {sj : SJ} {t : SR} {f : Nat → Int64} {H : Heap} {locs : List Loc} {ls : Array Slot} {cells slots : Nat} {Q : State → Prop} (hJ : qRelJ σ sj) (hR : qRelR σ t) (hw : LW G a bb o s sj t f H locs) (hl : lv_has ls 8 [(4, .int (qi i)), (3, .ref o), (2, .ref (bb 0)), (1, .ref (a 0)), (0, .ref b)]) (hc : cells + 1 ≤ 601024) (hs : slots + 6 ≤ 7293034)
    (kk : ∀ (σ' : Qσ) (sj' : SJ) (t' : SR) (f' : Nat → Int64) (H1 : Heap) (locs1 : List Loc) (ls1 : Array Slot), qRelJ σ' sj' → qRelR σ' t' → LW G a bb o s sj' t' f' H1 locs1 → lv_has ls1 8 [(4, .int (qi i)), (3, .ref o), (2, .ref (bb 0)), (1, .ref (a 0)), (0, .ref b)] → W p l e room_1 s m #[Value.ref b] below meth c H1 locs1 (cells + 1) (slots + 6) Q (F0 m 1190 ls1 [])) : W p l e room_1 s m #[Value.ref b] below meth c H locs cells slots Q (F0 m 469 ls []) := by
  obtain ⟨hx, hb, hml, hown, htl, hK, hsk, hX, hbl⟩ := C
  have hbA : ¬ (fun q : Nat => s.heap.size ≤ q) b := Nat.not_le.mpr hbl
  obtain ⟨hP, hD, hS⟩ := hw
  have n1 : vp_in (qi i + (1 : Int32)) L := ix_in hL hi 1 (by decide)
  obtain ⟨x1, e1⟩ : ∃ z, z = xs (qi i + (1 : Int32)).toNatClampNeg := ⟨_, rfl⟩
  obtain ⟨σ', v, s', t', ej, er, hJ', hR'⟩ := qq_limit σ sj t hJ hR 300000 (Nat.le_of_ble_eq_true rfl) x1
  refine lv_aload_n hx hb d_law_469 rfl (lv_at hl 3 rfl) ?_
  refine lv_aload_n hx hb d_law_470 rfl (lv_at hl 4 rfl) ?_
  refine lv_iload hx hb d_law_471 (lv_at hl 0 rfl) ?_
  refine lv_iconst (v := (1 : Int32)) hx hb d_law_473 (by decide) ?_
  refine lv_iadd hx hb d_law_474 ?_
  refine va_sld hx hb hX hbl hbA hS n1 d_law_475 ?_
  refine lv_lit (y := x1) e1.symm ?_
  refine ap_i (u := []) (wc := WJ G a sj) (w1 := WJ G a s') (v := WR G bb t ++ [(o, aJ G 1 f)]) (As := [.int x1]) (rest := []) (ci := 11) (q0 := 0) hx hb hml hown htl (CJ_limit l G Y a 300000 sj x1 v s'  ej) mv_J_limit k_823 ⟨rfl, rfl, Nat.le_of_ble_eq_true rfl, Nat.le_of_ble_eq_true rfl, Nat.le_of_succ_le hc, Nat.le_trans (Nat.le_add_right _ 6) hs⟩ hK hsk hS hP hD rfl (heJ G a sj _) (WJ_a G a sj s') rfl hl.1 rfl (lv_room (Nat.le_of_ble_eq_true rfl)) d_law_476 (fun H locs hP hD hS => ?_)
  refine lv_aload_n hx hb d_law_479 rfl (lv_at hl 2 rfl) ?_
  refine lv_aload_n hx hb d_law_480 rfl (lv_at hl 4 rfl) ?_
  refine lv_iload hx hb d_law_481 (lv_at hl 0 rfl) ?_
  refine lv_iconst (v := (1 : Int32)) hx hb d_law_483 (by decide) ?_
  refine lv_iadd hx hb d_law_484 ?_
  refine va_sld hx hb hX hbl hbA hS n1 d_law_485 ?_
  refine lv_lit (y := x1) e1.symm ?_
  refine ap_i (u := WJ G a s') (wc := WR G bb t) (w1 := WR G bb t') (v := [(o, aJ G 1 f)]) (As := [.int x1]) (rest := [.int v]) (ci := 12) (q0 := 165) hx hb hml hown htl (CR_limit l G Y bb 300000 t x1 v t'  er) mv_R_limit k_1494 ⟨rfl, rfl, Nat.le_of_ble_eq_true rfl, Nat.le_of_ble_eq_true rfl, Nat.le_of_succ_le hc, Nat.le_trans (Nat.le_add_right _ 6) hs⟩ hK hsk hS hP hD rfl (heR G a s' bb t _) (WR_a G bb t t') rfl hl.1 rfl (lv_room (Nat.le_of_ble_eq_true rfl)) d_law_486 (fun H locs hP hD hS => ?_)
  refine lv_icmp_eq (tgt := 1190) hx hb d_law_489 (by decide) (fun _ => ?_) (fun h => absurd rfl h)
  exact W.widen (Nat.le_succ _) (Nat.le_add_right _ 6) (kk σ' s' t' f H locs ls hJ' hR' ⟨hP, hD, hS⟩ hl)
set_option maxHeartbeats 4000000 in
set_option maxRecDepth 100000 in
theorem law_c10 {p : Program} {l : Launch} {e : Env} {s : State} {m : MethodId} {below : List Frame} {meth : Method} {c : Code} {b L : Nat} {xs : Nat → Int32} {G : va_G × (Nat → ClassId)} {Y : (Nat → Nat) × (Nat → Nat)} {a bb : Nat → Nat} {o : Nat} (C : LX p s m c b L xs G Y) (hL : L ≤ 2048) {i : Nat} (hi : i + 4 ≤ L) {σ : Qσ} {sj : SJ} {t : SR} {f : Nat → Int64} {H : Heap} {locs : List Loc} {ls : Array Slot} {cells slots : Nat} {Q : State → Prop} (hJ : qRelJ σ sj) (hR : qRelR σ t) (hw : LW G a bb o s sj t f H locs) (hl : lv_has ls 8 [(4, .int (qi i)), (3, .ref o), (2, .ref (bb 0)), (1, .ref (a 0)), (0, .ref b)]) (hc : cells + 1 ≤ 601024) (hs : slots + 6 ≤ 7293034)
    (kk : ∀ (σ' : Qσ) (sj' : SJ) (t' : SR) (f' : Nat → Int64) (H1 : Heap) (locs1 : List Loc) (ls1 : Array Slot), qRelJ σ' sj' → qRelR σ' t' → LW G a bb o s sj' t' f' H1 locs1 → lv_has ls1 8 [(4, .int (qi i)), (3, .ref o), (2, .ref (bb 0)), (1, .ref (a 0)), (0, .ref b)] → W p l e room_1 s m #[Value.ref b] below meth c H1 locs1 (cells + 1) (slots + 6) Q (F0 m 1190 ls1 [])) : W p l e room_1 s m #[Value.ref b] below meth c H locs cells slots Q (F0 m 494 ls []) := by
  obtain ⟨hx, hb, hml, hown, htl, hK, hsk, hX, hbl⟩ := C
  have hbA : ¬ (fun q : Nat => s.heap.size ≤ q) b := Nat.not_le.mpr hbl
  obtain ⟨hP, hD, hS⟩ := hw
  obtain ⟨σ', v, s', t', ej, er, hJ', hR'⟩ := qq_choose σ sj t hJ hR 300000 (Nat.le_of_ble_eq_true rfl) 
  refine lv_aload_n hx hb d_law_494 rfl (lv_at hl 3 rfl) ?_
  refine ap_i (u := []) (wc := WJ G a sj) (w1 := WJ G a s') (v := WR G bb t ++ [(o, aJ G 1 f)]) (As := []) (rest := []) (ci := 11) (q0 := 0) hx hb hml hown htl (CJ_choose l G Y a 300000 sj  v s'  ej) mv_J_choose k_828 ⟨rfl, rfl, Nat.le_of_ble_eq_true rfl, Nat.le_of_ble_eq_true rfl, Nat.le_of_succ_le hc, Nat.le_trans (Nat.le_add_right _ 6) hs⟩ hK hsk hS hP hD rfl (heJ G a sj _) (WJ_a G a sj s') rfl hl.1 rfl (lv_room (Nat.le_of_ble_eq_true rfl)) d_law_495 (fun H locs hP hD hS => ?_)
  refine lv_aload_n hx hb d_law_498 rfl (lv_at hl 2 rfl) ?_
  refine ap_i (u := WJ G a s') (wc := WR G bb t) (w1 := WR G bb t') (v := [(o, aJ G 1 f)]) (As := []) (rest := [.int v]) (ci := 12) (q0 := 165) hx hb hml hown htl (CR_choose l G Y bb 300000 t  v t'  er) mv_R_choose k_1499 ⟨rfl, rfl, Nat.le_of_ble_eq_true rfl, Nat.le_of_ble_eq_true rfl, Nat.le_of_succ_le hc, Nat.le_trans (Nat.le_add_right _ 6) hs⟩ hK hsk hS hP hD rfl (heR G a s' bb t _) (WR_a G bb t t') rfl hl.1 rfl (lv_room (Nat.le_of_ble_eq_true rfl)) d_law_499 (fun H locs hP hD hS => ?_)
  refine lv_icmp_eq (tgt := 1190) hx hb d_law_502 (by decide) (fun _ => ?_) (fun h => absurd rfl h)
  exact W.widen (Nat.le_succ _) (Nat.le_add_right _ 6) (kk σ' s' t' f H locs ls hJ' hR' ⟨hP, hD, hS⟩ hl)
set_option maxHeartbeats 4000000 in
set_option maxRecDepth 100000 in
theorem law_c11 {p : Program} {l : Launch} {e : Env} {s : State} {m : MethodId} {below : List Frame} {meth : Method} {c : Code} {b L : Nat} {xs : Nat → Int32} {G : va_G × (Nat → ClassId)} {Y : (Nat → Nat) × (Nat → Nat)} {a bb : Nat → Nat} {o : Nat} (C : LX p s m c b L xs G Y) (hL : L ≤ 2048) {i : Nat} (hi : i + 4 ≤ L) {σ : Qσ} {sj : SJ} {t : SR} {f : Nat → Int64} {H : Heap} {locs : List Loc} {ls : Array Slot} {cells slots : Nat} {Q : State → Prop} (hJ : qRelJ σ sj) (hR : qRelR σ t) (hw : LW G a bb o s sj t f H locs) (hl : lv_has ls 8 [(4, .int (qi i)), (3, .ref o), (2, .ref (bb 0)), (1, .ref (a 0)), (0, .ref b)]) (hc : cells + 1 ≤ 601024) (hs : slots + 6 ≤ 7293034)
    (kk : ∀ (σ' : Qσ) (sj' : SJ) (t' : SR) (f' : Nat → Int64) (H1 : Heap) (locs1 : List Loc) (ls1 : Array Slot), qRelJ σ' sj' → qRelR σ' t' → LW G a bb o s sj' t' f' H1 locs1 → lv_has ls1 8 [(4, .int (qi i)), (3, .ref o), (2, .ref (bb 0)), (1, .ref (a 0)), (0, .ref b)] → W p l e room_1 s m #[Value.ref b] below meth c H1 locs1 (cells + 1) (slots + 6) Q (F0 m 1190 ls1 [])) : W p l e room_1 s m #[Value.ref b] below meth c H locs cells slots Q (F0 m 507 ls []) := by
  obtain ⟨hx, hb, hml, hown, htl, hK, hsk, hX, hbl⟩ := C
  have hbA : ¬ (fun q : Nat => s.heap.size ≤ q) b := Nat.not_le.mpr hbl
  obtain ⟨hP, hD, hS⟩ := hw
  obtain ⟨σ', v, s', t', ej, er, hJ', hR'⟩ := qq_step σ sj t hJ hR 300000 (Nat.le_of_ble_eq_true rfl) 
  refine lv_aload_n hx hb d_law_507 rfl (lv_at hl 3 rfl) ?_
  refine ap_i (u := []) (wc := WJ G a sj) (w1 := WJ G a s') (v := WR G bb t ++ [(o, aJ G 1 f)]) (As := []) (rest := []) (ci := 11) (q0 := 0) hx hb hml hown htl (CJ_step l G Y a 300000 sj  v s'  ej) mv_J_step k_944 ⟨rfl, rfl, Nat.le_of_ble_eq_true rfl, Nat.le_of_ble_eq_true rfl, Nat.le_of_succ_le hc, Nat.le_trans (Nat.le_add_right _ 6) hs⟩ hK hsk hS hP hD rfl (heJ G a sj _) (WJ_a G a sj s') rfl hl.1 rfl (lv_room (Nat.le_of_ble_eq_true rfl)) d_law_508 (fun H locs hP hD hS => ?_)
  refine lv_aload_n hx hb d_law_511 rfl (lv_at hl 2 rfl) ?_
  refine ap_i (u := WJ G a s') (wc := WR G bb t) (w1 := WR G bb t') (v := [(o, aJ G 1 f)]) (As := []) (rest := [.int v]) (ci := 12) (q0 := 165) hx hb hml hown htl (CR_step l G Y bb 300000 t  v t'  er) mv_R_step k_1570 ⟨rfl, rfl, Nat.le_of_ble_eq_true rfl, Nat.le_of_ble_eq_true rfl, Nat.le_of_succ_le hc, Nat.le_trans (Nat.le_add_right _ 6) hs⟩ hK hsk hS hP hD rfl (heR G a s' bb t _) (WR_a G bb t t') rfl hl.1 rfl (lv_room (Nat.le_of_ble_eq_true rfl)) d_law_512 (fun H locs hP hD hS => ?_)
  refine lv_icmp_eq (tgt := 1190) hx hb d_law_515 (by decide) (fun _ => ?_) (fun h => absurd rfl h)
  exact W.widen (Nat.le_succ _) (Nat.le_add_right _ 6) (kk σ' s' t' f H locs ls hJ' hR' ⟨hP, hD, hS⟩ hl)
set_option maxHeartbeats 4000000 in
set_option maxRecDepth 100000 in
theorem law_c12 {p : Program} {l : Launch} {e : Env} {s : State} {m : MethodId} {below : List Frame} {meth : Method} {c : Code} {b L : Nat} {xs : Nat → Int32} {G : va_G × (Nat → ClassId)} {Y : (Nat → Nat) × (Nat → Nat)} {a bb : Nat → Nat} {o : Nat} (C : LX p s m c b L xs G Y) (hL : L ≤ 2048) {i : Nat} (hi : i + 4 ≤ L) {σ : Qσ} {sj : SJ} {t : SR} {f : Nat → Int64} {H : Heap} {locs : List Loc} {ls : Array Slot} {cells slots : Nat} {Q : State → Prop} (hJ : qRelJ σ sj) (hR : qRelR σ t) (hw : LW G a bb o s sj t f H locs) (hl : lv_has ls 8 [(4, .int (qi i)), (3, .ref o), (2, .ref (bb 0)), (1, .ref (a 0)), (0, .ref b)]) (hc : cells + 1 ≤ 601024) (hs : slots + 6 ≤ 7293034)
    (kk : ∀ (σ' : Qσ) (sj' : SJ) (t' : SR) (f' : Nat → Int64) (H1 : Heap) (locs1 : List Loc) (ls1 : Array Slot), qRelJ σ' sj' → qRelR σ' t' → LW G a bb o s sj' t' f' H1 locs1 → lv_has ls1 8 [(4, .int (qi i)), (3, .ref o), (2, .ref (bb 0)), (1, .ref (a 0)), (0, .ref b)] → W p l e room_1 s m #[Value.ref b] below meth c H1 locs1 (cells + 1) (slots + 6) Q (F0 m 1190 ls1 [])) : W p l e room_1 s m #[Value.ref b] below meth c H locs cells slots Q (F0 m 520 ls []) := by
  obtain ⟨hx, hb, hml, hown, htl, hK, hsk, hX, hbl⟩ := C
  have hbA : ¬ (fun q : Nat => s.heap.size ≤ q) b := Nat.not_le.mpr hbl
  obtain ⟨hP, hD, hS⟩ := hw
  obtain ⟨x, σ', hx8, hnx, v, s', t', ej, er, hJ', hR'⟩ := qq_undo σ sj t hJ hR 300000 (Nat.le_of_ble_eq_true rfl)
  match x, hx8, hnx, ej with
  | 0, _, hnx, ej =>
    refine lv_aload_n hx hb d_law_520 rfl (lv_at hl 3 rfl) ?_
    refine ap_i (u := []) (wc := WJ G a sj) (w1 := WJ G a s') (v := WR G bb t ++ [(o, aJ G 1 f)]) (As := []) (rest := []) (ci := 11) (q0 := 0) hx hb hml hown htl (CJ_undo0 l G Y a 300000 sj hnx v s'  ej) mv_J_undo k_989 ⟨rfl, rfl, Nat.le_of_ble_eq_true rfl, Nat.le_of_ble_eq_true rfl, Nat.le_of_succ_le hc, Nat.le_trans (Nat.le_add_right _ 6) hs⟩ hK hsk hS hP hD rfl (heJ G a sj _) (WJ_a G a sj s') rfl hl.1 rfl (lv_room (Nat.le_of_ble_eq_true rfl)) d_law_521 (fun H locs hP hD hS => ?_)
    refine lv_aload_n hx hb d_law_524 rfl (lv_at hl 2 rfl) ?_
    refine ap_i (u := WJ G a s') (wc := WR G bb t) (w1 := WR G bb t') (v := [(o, aJ G 1 f)]) (As := []) (rest := [.int v]) (ci := 12) (q0 := 165) hx hb hml hown htl (CR_undo l G Y bb 300000 t  v t'  er) mv_R_undo k_1610 ⟨rfl, rfl, Nat.le_of_ble_eq_true rfl, Nat.le_of_ble_eq_true rfl, Nat.le_of_succ_le hc, Nat.le_trans (Nat.le_add_right _ 6) hs⟩ hK hsk hS hP hD rfl (heR G a s' bb t _) (WR_a G bb t t') rfl hl.1 rfl (lv_room (Nat.le_of_ble_eq_true rfl)) d_law_525 (fun H locs hP hD hS => ?_)
    refine lv_icmp_eq (tgt := 1190) hx hb d_law_528 (by decide) (fun _ => ?_) (fun h => absurd rfl h)
    exact W.widen (Nat.le_succ _) (Nat.le_add_right _ 6) (kk σ' s' t' f H locs ls hJ' hR' ⟨hP, hD, hS⟩ hl)
  | 1, _, hnx, ej =>
    refine lv_aload_n hx hb d_law_520 rfl (lv_at hl 3 rfl) ?_
    refine ap_i (u := []) (wc := WJ G a sj) (w1 := WJ G a s') (v := WR G bb t ++ [(o, aJ G 1 f)]) (As := []) (rest := []) (ci := 11) (q0 := 0) hx hb hml hown htl (CJ_undo1 l G Y a 300000 sj hnx v s'  ej) mv_J_undo k_989 ⟨rfl, rfl, Nat.le_of_ble_eq_true rfl, Nat.le_of_ble_eq_true rfl, Nat.le_of_succ_le hc, Nat.le_trans (Nat.le_add_right _ 6) hs⟩ hK hsk hS hP hD rfl (heJ G a sj _) (WJ_a G a sj s') rfl hl.1 rfl (lv_room (Nat.le_of_ble_eq_true rfl)) d_law_521 (fun H locs hP hD hS => ?_)
    refine lv_aload_n hx hb d_law_524 rfl (lv_at hl 2 rfl) ?_
    refine ap_i (u := WJ G a s') (wc := WR G bb t) (w1 := WR G bb t') (v := [(o, aJ G 1 f)]) (As := []) (rest := [.int v]) (ci := 12) (q0 := 165) hx hb hml hown htl (CR_undo l G Y bb 300000 t  v t'  er) mv_R_undo k_1610 ⟨rfl, rfl, Nat.le_of_ble_eq_true rfl, Nat.le_of_ble_eq_true rfl, Nat.le_of_succ_le hc, Nat.le_trans (Nat.le_add_right _ 6) hs⟩ hK hsk hS hP hD rfl (heR G a s' bb t _) (WR_a G bb t t') rfl hl.1 rfl (lv_room (Nat.le_of_ble_eq_true rfl)) d_law_525 (fun H locs hP hD hS => ?_)
    refine lv_icmp_eq (tgt := 1190) hx hb d_law_528 (by decide) (fun _ => ?_) (fun h => absurd rfl h)
    exact W.widen (Nat.le_succ _) (Nat.le_add_right _ 6) (kk σ' s' t' f H locs ls hJ' hR' ⟨hP, hD, hS⟩ hl)
  | 2, _, hnx, ej =>
    refine lv_aload_n hx hb d_law_520 rfl (lv_at hl 3 rfl) ?_
    refine ap_i (u := []) (wc := WJ G a sj) (w1 := WJ G a s') (v := WR G bb t ++ [(o, aJ G 1 f)]) (As := []) (rest := []) (ci := 11) (q0 := 0) hx hb hml hown htl (CJ_undo2 l G Y a 300000 sj hnx v s'  ej) mv_J_undo k_989 ⟨rfl, rfl, Nat.le_of_ble_eq_true rfl, Nat.le_of_ble_eq_true rfl, Nat.le_of_succ_le hc, Nat.le_trans (Nat.le_add_right _ 6) hs⟩ hK hsk hS hP hD rfl (heJ G a sj _) (WJ_a G a sj s') rfl hl.1 rfl (lv_room (Nat.le_of_ble_eq_true rfl)) d_law_521 (fun H locs hP hD hS => ?_)
    refine lv_aload_n hx hb d_law_524 rfl (lv_at hl 2 rfl) ?_
    refine ap_i (u := WJ G a s') (wc := WR G bb t) (w1 := WR G bb t') (v := [(o, aJ G 1 f)]) (As := []) (rest := [.int v]) (ci := 12) (q0 := 165) hx hb hml hown htl (CR_undo l G Y bb 300000 t  v t'  er) mv_R_undo k_1610 ⟨rfl, rfl, Nat.le_of_ble_eq_true rfl, Nat.le_of_ble_eq_true rfl, Nat.le_of_succ_le hc, Nat.le_trans (Nat.le_add_right _ 6) hs⟩ hK hsk hS hP hD rfl (heR G a s' bb t _) (WR_a G bb t t') rfl hl.1 rfl (lv_room (Nat.le_of_ble_eq_true rfl)) d_law_525 (fun H locs hP hD hS => ?_)
    refine lv_icmp_eq (tgt := 1190) hx hb d_law_528 (by decide) (fun _ => ?_) (fun h => absurd rfl h)
    exact W.widen (Nat.le_succ _) (Nat.le_add_right _ 6) (kk σ' s' t' f H locs ls hJ' hR' ⟨hP, hD, hS⟩ hl)
  | 3, _, hnx, ej =>
    refine lv_aload_n hx hb d_law_520 rfl (lv_at hl 3 rfl) ?_
    refine ap_i (u := []) (wc := WJ G a sj) (w1 := WJ G a s') (v := WR G bb t ++ [(o, aJ G 1 f)]) (As := []) (rest := []) (ci := 11) (q0 := 0) hx hb hml hown htl (CJ_undo3 l G Y a 300000 sj hnx v s'  ej) mv_J_undo k_989 ⟨rfl, rfl, Nat.le_of_ble_eq_true rfl, Nat.le_of_ble_eq_true rfl, Nat.le_of_succ_le hc, Nat.le_trans (Nat.le_add_right _ 6) hs⟩ hK hsk hS hP hD rfl (heJ G a sj _) (WJ_a G a sj s') rfl hl.1 rfl (lv_room (Nat.le_of_ble_eq_true rfl)) d_law_521 (fun H locs hP hD hS => ?_)
    refine lv_aload_n hx hb d_law_524 rfl (lv_at hl 2 rfl) ?_
    refine ap_i (u := WJ G a s') (wc := WR G bb t) (w1 := WR G bb t') (v := [(o, aJ G 1 f)]) (As := []) (rest := [.int v]) (ci := 12) (q0 := 165) hx hb hml hown htl (CR_undo l G Y bb 300000 t  v t'  er) mv_R_undo k_1610 ⟨rfl, rfl, Nat.le_of_ble_eq_true rfl, Nat.le_of_ble_eq_true rfl, Nat.le_of_succ_le hc, Nat.le_trans (Nat.le_add_right _ 6) hs⟩ hK hsk hS hP hD rfl (heR G a s' bb t _) (WR_a G bb t t') rfl hl.1 rfl (lv_room (Nat.le_of_ble_eq_true rfl)) d_law_525 (fun H locs hP hD hS => ?_)
    refine lv_icmp_eq (tgt := 1190) hx hb d_law_528 (by decide) (fun _ => ?_) (fun h => absurd rfl h)
    exact W.widen (Nat.le_succ _) (Nat.le_add_right _ 6) (kk σ' s' t' f H locs ls hJ' hR' ⟨hP, hD, hS⟩ hl)
  | 4, _, hnx, ej =>
    refine lv_aload_n hx hb d_law_520 rfl (lv_at hl 3 rfl) ?_
    refine ap_i (u := []) (wc := WJ G a sj) (w1 := WJ G a s') (v := WR G bb t ++ [(o, aJ G 1 f)]) (As := []) (rest := []) (ci := 11) (q0 := 0) hx hb hml hown htl (CJ_undo4 l G Y a 300000 sj hnx v s'  ej) mv_J_undo k_989 ⟨rfl, rfl, Nat.le_of_ble_eq_true rfl, Nat.le_of_ble_eq_true rfl, Nat.le_of_succ_le hc, Nat.le_trans (Nat.le_add_right _ 6) hs⟩ hK hsk hS hP hD rfl (heJ G a sj _) (WJ_a G a sj s') rfl hl.1 rfl (lv_room (Nat.le_of_ble_eq_true rfl)) d_law_521 (fun H locs hP hD hS => ?_)
    refine lv_aload_n hx hb d_law_524 rfl (lv_at hl 2 rfl) ?_
    refine ap_i (u := WJ G a s') (wc := WR G bb t) (w1 := WR G bb t') (v := [(o, aJ G 1 f)]) (As := []) (rest := [.int v]) (ci := 12) (q0 := 165) hx hb hml hown htl (CR_undo l G Y bb 300000 t  v t'  er) mv_R_undo k_1610 ⟨rfl, rfl, Nat.le_of_ble_eq_true rfl, Nat.le_of_ble_eq_true rfl, Nat.le_of_succ_le hc, Nat.le_trans (Nat.le_add_right _ 6) hs⟩ hK hsk hS hP hD rfl (heR G a s' bb t _) (WR_a G bb t t') rfl hl.1 rfl (lv_room (Nat.le_of_ble_eq_true rfl)) d_law_525 (fun H locs hP hD hS => ?_)
    refine lv_icmp_eq (tgt := 1190) hx hb d_law_528 (by decide) (fun _ => ?_) (fun h => absurd rfl h)
    exact W.widen (Nat.le_succ _) (Nat.le_add_right _ 6) (kk σ' s' t' f H locs ls hJ' hR' ⟨hP, hD, hS⟩ hl)
  | 5, _, hnx, ej =>
    refine lv_aload_n hx hb d_law_520 rfl (lv_at hl 3 rfl) ?_
    refine ap_i (u := []) (wc := WJ G a sj) (w1 := WJ G a s') (v := WR G bb t ++ [(o, aJ G 1 f)]) (As := []) (rest := []) (ci := 11) (q0 := 0) hx hb hml hown htl (CJ_undo5 l G Y a 300000 sj hnx v s'  ej) mv_J_undo k_989 ⟨rfl, rfl, Nat.le_of_ble_eq_true rfl, Nat.le_of_ble_eq_true rfl, Nat.le_of_succ_le hc, Nat.le_trans (Nat.le_add_right _ 6) hs⟩ hK hsk hS hP hD rfl (heJ G a sj _) (WJ_a G a sj s') rfl hl.1 rfl (lv_room (Nat.le_of_ble_eq_true rfl)) d_law_521 (fun H locs hP hD hS => ?_)
    refine lv_aload_n hx hb d_law_524 rfl (lv_at hl 2 rfl) ?_
    refine ap_i (u := WJ G a s') (wc := WR G bb t) (w1 := WR G bb t') (v := [(o, aJ G 1 f)]) (As := []) (rest := [.int v]) (ci := 12) (q0 := 165) hx hb hml hown htl (CR_undo l G Y bb 300000 t  v t'  er) mv_R_undo k_1610 ⟨rfl, rfl, Nat.le_of_ble_eq_true rfl, Nat.le_of_ble_eq_true rfl, Nat.le_of_succ_le hc, Nat.le_trans (Nat.le_add_right _ 6) hs⟩ hK hsk hS hP hD rfl (heR G a s' bb t _) (WR_a G bb t t') rfl hl.1 rfl (lv_room (Nat.le_of_ble_eq_true rfl)) d_law_525 (fun H locs hP hD hS => ?_)
    refine lv_icmp_eq (tgt := 1190) hx hb d_law_528 (by decide) (fun _ => ?_) (fun h => absurd rfl h)
    exact W.widen (Nat.le_succ _) (Nat.le_add_right _ 6) (kk σ' s' t' f H locs ls hJ' hR' ⟨hP, hD, hS⟩ hl)
  | 6, _, hnx, ej =>
    refine lv_aload_n hx hb d_law_520 rfl (lv_at hl 3 rfl) ?_
    refine ap_i (u := []) (wc := WJ G a sj) (w1 := WJ G a s') (v := WR G bb t ++ [(o, aJ G 1 f)]) (As := []) (rest := []) (ci := 11) (q0 := 0) hx hb hml hown htl (CJ_undo6 l G Y a 300000 sj hnx v s'  ej) mv_J_undo k_989 ⟨rfl, rfl, Nat.le_of_ble_eq_true rfl, Nat.le_of_ble_eq_true rfl, Nat.le_of_succ_le hc, Nat.le_trans (Nat.le_add_right _ 6) hs⟩ hK hsk hS hP hD rfl (heJ G a sj _) (WJ_a G a sj s') rfl hl.1 rfl (lv_room (Nat.le_of_ble_eq_true rfl)) d_law_521 (fun H locs hP hD hS => ?_)
    refine lv_aload_n hx hb d_law_524 rfl (lv_at hl 2 rfl) ?_
    refine ap_i (u := WJ G a s') (wc := WR G bb t) (w1 := WR G bb t') (v := [(o, aJ G 1 f)]) (As := []) (rest := [.int v]) (ci := 12) (q0 := 165) hx hb hml hown htl (CR_undo l G Y bb 300000 t  v t'  er) mv_R_undo k_1610 ⟨rfl, rfl, Nat.le_of_ble_eq_true rfl, Nat.le_of_ble_eq_true rfl, Nat.le_of_succ_le hc, Nat.le_trans (Nat.le_add_right _ 6) hs⟩ hK hsk hS hP hD rfl (heR G a s' bb t _) (WR_a G bb t t') rfl hl.1 rfl (lv_room (Nat.le_of_ble_eq_true rfl)) d_law_525 (fun H locs hP hD hS => ?_)
    refine lv_icmp_eq (tgt := 1190) hx hb d_law_528 (by decide) (fun _ => ?_) (fun h => absurd rfl h)
    exact W.widen (Nat.le_succ _) (Nat.le_add_right _ 6) (kk σ' s' t' f H locs ls hJ' hR' ⟨hP, hD, hS⟩ hl)
  | 7, _, hnx, ej =>
    refine lv_aload_n hx hb d_law_520 rfl (lv_at hl 3 rfl) ?_
    refine ap_i (u := []) (wc := WJ G a sj) (w1 := WJ G a s') (v := WR G bb t ++ [(o, aJ G 1 f)]) (As := []) (rest := []) (ci := 11) (q0 := 0) hx hb hml hown htl (CJ_undo7 l G Y a 300000 sj hnx v s'  ej) mv_J_undo k_989 ⟨rfl, rfl, Nat.le_of_ble_eq_true rfl, Nat.le_of_ble_eq_true rfl, Nat.le_of_succ_le hc, Nat.le_trans (Nat.le_add_right _ 6) hs⟩ hK hsk hS hP hD rfl (heJ G a sj _) (WJ_a G a sj s') rfl hl.1 rfl (lv_room (Nat.le_of_ble_eq_true rfl)) d_law_521 (fun H locs hP hD hS => ?_)
    refine lv_aload_n hx hb d_law_524 rfl (lv_at hl 2 rfl) ?_
    refine ap_i (u := WJ G a s') (wc := WR G bb t) (w1 := WR G bb t') (v := [(o, aJ G 1 f)]) (As := []) (rest := [.int v]) (ci := 12) (q0 := 165) hx hb hml hown htl (CR_undo l G Y bb 300000 t  v t'  er) mv_R_undo k_1610 ⟨rfl, rfl, Nat.le_of_ble_eq_true rfl, Nat.le_of_ble_eq_true rfl, Nat.le_of_succ_le hc, Nat.le_trans (Nat.le_add_right _ 6) hs⟩ hK hsk hS hP hD rfl (heR G a s' bb t _) (WR_a G bb t t') rfl hl.1 rfl (lv_room (Nat.le_of_ble_eq_true rfl)) d_law_525 (fun H locs hP hD hS => ?_)
    refine lv_icmp_eq (tgt := 1190) hx hb d_law_528 (by decide) (fun _ => ?_) (fun h => absurd rfl h)
    exact W.widen (Nat.le_succ _) (Nat.le_add_right _ 6) (kk σ' s' t' f H locs ls hJ' hR' ⟨hP, hD, hS⟩ hl)
  | n + 8, h, _, _ => exact absurd h (by omega)
set_option maxHeartbeats 4000000 in
set_option maxRecDepth 100000 in
theorem law_c13 {p : Program} {l : Launch} {e : Env} {s : State} {m : MethodId} {below : List Frame} {meth : Method} {c : Code} {b L : Nat} {xs : Nat → Int32} {G : va_G × (Nat → ClassId)} {Y : (Nat → Nat) × (Nat → Nat)} {a bb : Nat → Nat} {o : Nat} (C : LX p s m c b L xs G Y) (hL : L ≤ 2048) {i : Nat} (hi : i + 4 ≤ L) {σ : Qσ} {sj : SJ} {t : SR} {f : Nat → Int64} {H : Heap} {locs : List Loc} {ls : Array Slot} {cells slots : Nat} {Q : State → Prop} (hJ : qRelJ σ sj) (hR : qRelR σ t) (hw : LW G a bb o s sj t f H locs) (hl : lv_has ls 8 [(4, .int (qi i)), (3, .ref o), (2, .ref (bb 0)), (1, .ref (a 0)), (0, .ref b)]) (hc : cells + 1 ≤ 601024) (hs : slots + 6 ≤ 7293034)
    (kk : ∀ (σ' : Qσ) (sj' : SJ) (t' : SR) (f' : Nat → Int64) (H1 : Heap) (locs1 : List Loc) (ls1 : Array Slot), qRelJ σ' sj' → qRelR σ' t' → LW G a bb o s sj' t' f' H1 locs1 → lv_has ls1 8 [(4, .int (qi i)), (3, .ref o), (2, .ref (bb 0)), (1, .ref (a 0)), (0, .ref b)] → W p l e room_1 s m #[Value.ref b] below meth c H1 locs1 (cells + 1) (slots + 6) Q (F0 m 1190 ls1 [])) : W p l e room_1 s m #[Value.ref b] below meth c H locs cells slots Q (F0 m 533 ls []) := by
  obtain ⟨hx, hb, hml, hown, htl, hK, hsk, hX, hbl⟩ := C
  have hbA : ¬ (fun q : Nat => s.heap.size ≤ q) b := Nat.not_le.mpr hbl
  obtain ⟨hP, hD, hS⟩ := hw
  have n1 : vp_in (qi i + (1 : Int32)) L := ix_in hL hi 1 (by decide)
  obtain ⟨x1, e1⟩ : ∃ z, z = xs (qi i + (1 : Int32)).toNatClampNeg := ⟨_, rfl⟩
  obtain ⟨σ', v, s', t', ej, er, hJ', hR'⟩ := qq_count σ sj t hJ hR 300000 (Nat.le_of_ble_eq_true rfl) x1
  refine lv_aload_n hx hb d_law_533 rfl (lv_at hl 3 rfl) ?_
  refine lv_aload_n hx hb d_law_534 rfl (lv_at hl 4 rfl) ?_
  refine lv_iload hx hb d_law_535 (lv_at hl 0 rfl) ?_
  refine lv_iconst (v := (1 : Int32)) hx hb d_law_537 (by decide) ?_
  refine lv_iadd hx hb d_law_538 ?_
  refine va_sld hx hb hX hbl hbA hS n1 d_law_539 ?_
  refine lv_lit (y := x1) e1.symm ?_
  refine ap_i (u := []) (wc := WJ G a sj) (w1 := WJ G a s') (v := WR G bb t ++ [(o, aJ G 1 f)]) (As := [.int x1]) (rest := []) (ci := 11) (q0 := 0) hx hb hml hown htl (CJ_count l G Y a 300000 sj x1 v s'  ej) mv_J_count k_993 ⟨rfl, rfl, Nat.le_of_ble_eq_true rfl, Nat.le_of_ble_eq_true rfl, Nat.le_of_succ_le hc, Nat.le_trans (Nat.le_add_right _ 6) hs⟩ hK hsk hS hP hD rfl (heJ G a sj _) (WJ_a G a sj s') rfl hl.1 rfl (lv_room (Nat.le_of_ble_eq_true rfl)) d_law_540 (fun H locs hP hD hS => ?_)
  refine lv_aload_n hx hb d_law_543 rfl (lv_at hl 2 rfl) ?_
  refine lv_aload_n hx hb d_law_544 rfl (lv_at hl 4 rfl) ?_
  refine lv_iload hx hb d_law_545 (lv_at hl 0 rfl) ?_
  refine lv_iconst (v := (1 : Int32)) hx hb d_law_547 (by decide) ?_
  refine lv_iadd hx hb d_law_548 ?_
  refine va_sld hx hb hX hbl hbA hS n1 d_law_549 ?_
  refine lv_lit (y := x1) e1.symm ?_
  refine ap_i (u := WJ G a s') (wc := WR G bb t) (w1 := WR G bb t') (v := [(o, aJ G 1 f)]) (As := [.int x1]) (rest := [.int v]) (ci := 12) (q0 := 165) hx hb hml hown htl (CR_count l G Y bb 300000 t x1 v t'  er) mv_R_count k_1614 ⟨rfl, rfl, Nat.le_of_ble_eq_true rfl, Nat.le_of_ble_eq_true rfl, Nat.le_of_succ_le hc, Nat.le_trans (Nat.le_add_right _ 6) hs⟩ hK hsk hS hP hD rfl (heR G a s' bb t _) (WR_a G bb t t') rfl hl.1 rfl (lv_room (Nat.le_of_ble_eq_true rfl)) d_law_550 (fun H locs hP hD hS => ?_)
  refine lv_icmp_eq (tgt := 1190) hx hb d_law_553 (by decide) (fun _ => ?_) (fun h => absurd rfl h)
  exact W.widen (Nat.le_succ _) (Nat.le_add_right _ 6) (kk σ' s' t' f H locs ls hJ' hR' ⟨hP, hD, hS⟩ hl)
