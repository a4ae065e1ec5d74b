set_option maxHeartbeats 4000000 in
set_option maxRecDepth 100000 in
theorem law_c15 {p : Program} {l : Launch} {e : Env} {s : State} {m : MethodId} {below : List Frame} {meth : Method} {c : Code} {b L : Nat} {xs : Nat → Int32} {G : va_G × (Nat → ClassId)} {Y : (Nat → Nat) × (Nat → Nat)} {a bb : Nat → Nat} {o : Nat} (C : LX p s m c b L xs G Y) (hL : L ≤ 2048) {i : Nat} (hi : i + 4 ≤ L) {σ : Qσ} {sj : SJ} {t : SR} {f : Nat → Int64} {H : Heap} {locs : List Loc} {ls : Array Slot} {cells slots : Nat} {Q : State → Prop} (hJ : qRelJ σ sj) (hR : qRelR σ t) (hw : LW G a bb o s sj t f H locs) (hl : lv_has ls 8 [(4, .int (qi i)), (3, .ref o), (2, .ref (bb 0)), (1, .ref (a 0)), (0, .ref b)]) (hc : cells + 1 ≤ 601024) (hs : slots + 6 ≤ 7293034)
    (kk : ∀ (σ' : Qσ) (sj' : SJ) (t' : SR) (f' : Nat → Int64) (H1 : Heap) (locs1 : List Loc) (ls1 : Array Slot), qRelJ σ' sj' → qRelR σ' t' → LW G a bb o s sj' t' f' H1 locs1 → lv_has ls1 8 [(4, .int (qi i)), (3, .ref o), (2, .ref (bb 0)), (1, .ref (a 0)), (0, .ref b)] → W p l e room_1 s m #[Value.ref b] below meth c H1 locs1 (cells + 1) (slots + 6) Q (F0 m 1190 ls1 [])) : W p l e room_1 s m #[Value.ref b] below meth c H locs cells slots Q (F0 m 626 ls []) := by
  obtain ⟨hx, hb, hml, hown, htl, hK, hsk, hX, hbl⟩ := C
  have hbA : ¬ (fun q : Nat => s.heap.size ≤ q) b := Nat.not_le.mpr hbl
  obtain ⟨hP, hD, hS⟩ := hw
  have n1 : vp_in (qi i + (1 : Int32)) L := ix_in hL hi 1 (by decide)
  obtain ⟨x1, e1⟩ : ∃ z, z = xs (qi i + (1 : Int32)).toNatClampNeg := ⟨_, rfl⟩
  have n2 : vp_in (qi i + (2 : Int32)) L := ix_in hL hi 2 (by decide)
  obtain ⟨x2, e2⟩ : ∃ z, z = xs (qi i + (2 : Int32)).toNatClampNeg := ⟨_, rfl⟩
  by_cases z2 : x2 = 0
  · obtain ⟨σ', v, s', t', ej, er, hJ', hR'⟩ := qq_size σ sj t hJ hR 300000 (Nat.le_of_ble_eq_true rfl) x1 (0 : Int32)
    refine lv_aload_n hx hb d_law_626 rfl (lv_at hl 3 rfl) ?_
    refine lv_aload_n hx hb d_law_627 rfl (lv_at hl 4 rfl) ?_
    refine lv_iload hx hb d_law_628 (lv_at hl 0 rfl) ?_
    refine lv_iconst (v := (1 : Int32)) hx hb d_law_630 (by decide) ?_
    refine lv_iadd hx hb d_law_631 ?_
    refine va_sld hx hb hX hbl hbA hS n1 d_law_632 ?_
    refine lv_lit (y := x1) e1.symm ?_
    refine lv_aload_n hx hb d_law_633 rfl (lv_at hl 4 rfl) ?_
    refine lv_iload hx hb d_law_634 (lv_at hl 0 rfl) ?_
    refine lv_iconst (v := (2 : Int32)) hx hb d_law_636 (by decide) ?_
    refine lv_iadd hx hb d_law_637 ?_
    refine va_sld hx hb hX hbl hbA hS n2 d_law_638 ?_
    refine lv_lit (y := x2) e2.symm ?_
    refine lv_if_eq (tgt := 646) hx hb d_law_639 (by decide) (fun _ => ?_) (fun h => absurd z2 h)
    refine lv_iconst (v := (0 : Int32)) hx hb d_law_646 (by decide) ?_
    refine ap_l (u := []) (wc := WJ G a sj) (w1 := WJ G a s') (v := WR G bb t ++ [(o, aJ G 1 f)]) (As := [.int x1, .int (0 : Int32)]) (rest := []) (ci := 11) (q0 := 0) hx hb hml hown htl (CJ_size l G Y a 300000 sj x1 (0 : Int32) v s'  ej) mv_J_size k_1007 ⟨rfl, rfl, Nat.le_of_ble_eq_true rfl, Nat.le_of_ble_eq_true rfl, Nat.le_of_succ_le hc, Nat.le_trans (Nat.le_add_right _ 6) hs⟩ hK hsk hS hP hD rfl (heJ G a sj _) (WJ_a G a sj s') rfl hl.1 rfl (lv_room (Nat.le_of_ble_eq_true rfl)) d_law_647 (fun H locs hP hD hS => ?_)
    refine lv_aload_n hx hb d_law_650 rfl (lv_at hl 2 rfl) ?_
    refine lv_aload_n hx hb d_law_651 rfl (lv_at hl 4 rfl) ?_
    refine lv_iload hx hb d_law_652 (lv_at hl 0 rfl) ?_
    refine lv_iconst (v := (1 : Int32)) hx hb d_law_654 (by decide) ?_
    refine lv_iadd hx hb d_law_655 ?_
    refine va_sld hx hb hX hbl hbA hS n1 d_law_656 ?_
    refine lv_lit (y := x1) e1.symm ?_
    refine lv_aload_n hx hb d_law_657 rfl (lv_at hl 4 rfl) ?_
    refine lv_iload hx hb d_law_658 (lv_at hl 0 rfl) ?_
    refine lv_iconst (v := (2 : Int32)) hx hb d_law_660 (by decide) ?_
    refine lv_iadd hx hb d_law_661 ?_
    refine va_sld hx hb hX hbl hbA hS n2 d_law_662 ?_
    refine lv_lit (y := x2) e2.symm ?_
    refine lv_if_eq (tgt := 670) hx hb d_law_663 (by decide) (fun _ => ?_) (fun h => absurd z2 h)
    refine lv_iconst (v := (0 : Int32)) hx hb d_law_670 (by decide) ?_
    refine ap_l (u := WJ G a s') (wc := WR G bb t) (w1 := WR G bb t') (v := [(o, aJ G 1 f)]) (As := [.int x1, .int (0 : Int32)]) (rest := [.long v]) (ci := 12) (q0 := 165) hx hb hml hown htl (CR_size l G Y bb 300000 t x1 (0 : Int32) v t'  er) mv_R_size k_1635 ⟨rfl, rfl, Nat.le_of_ble_eq_true rfl, Nat.le_of_ble_eq_true rfl, Nat.le_of_succ_le hc, Nat.le_trans (Nat.le_add_right _ 6) hs⟩ hK hsk hS hP hD rfl (heR G a s' bb t _) (WR_a G bb t t') rfl hl.1 rfl (lv_room (Nat.le_of_ble_eq_true rfl)) d_law_671 (fun H locs hP hD hS => ?_)
    refine lx_eq (tgt := 1190) hx hb d_law_674 d_law_675 (by decide) (fun _ => ?_) (fun h => absurd rfl h)
    exact W.widen (Nat.le_succ _) (Nat.le_add_right _ 6) (kk σ' s' t' f H locs ls hJ' hR' ⟨hP, hD, hS⟩ hl)
  · obtain ⟨σ', v, s', t', ej, er, hJ', hR'⟩ := qq_size σ sj t hJ hR 300000 (Nat.le_of_ble_eq_true rfl) x1 (1 : Int32)
    refine lv_aload_n hx hb d_law_626 rfl (lv_at hl 3 rfl) ?_
    refine lv_aload_n hx hb d_law_627 rfl (lv_at hl 4 rfl) ?_
    refine lv_iload hx hb d_law_628 (lv_at hl 0 rfl) ?_
    refine lv_iconst (v := (1 : Int32)) hx hb d_law_630 (by decide) ?_
    refine lv_iadd hx hb d_law_631 ?_
    refine va_sld hx hb hX hbl hbA hS n1 d_law_632 ?_
    refine lv_lit (y := x1) e1.symm ?_
    refine lv_aload_n hx hb d_law_633 rfl (lv_at hl 4 rfl) ?_
    refine lv_iload hx hb d_law_634 (lv_at hl 0 rfl) ?_
    refine lv_iconst (v := (2 : Int32)) hx hb d_law_636 (by decide) ?_
    refine lv_iadd hx hb d_law_637 ?_
    refine va_sld hx hb hX hbl hbA hS n2 d_law_638 ?_
    refine lv_lit (y := x2) e2.symm ?_
    refine lv_if_eq (tgt := 646) hx hb d_law_639 (by decide) (fun h => absurd h z2) (fun _ => ?_)
    refine lv_iconst (v := (1 : Int32)) hx hb d_law_642 (by decide) ?_
    refine lv_goto (tgt := 647) hx hb d_law_643 (by decide) ?_
    refine ap_l (u := []) (wc := WJ G a sj) (w1 := WJ G a s') (v := WR G bb t ++ [(o, aJ G 1 f)]) (As := [.int x1, .int (1 : Int32)]) (rest := []) (ci := 11) (q0 := 0) hx hb hml hown htl (CJ_size l G Y a 300000 sj x1 (1 : Int32) v s'  ej) mv_J_size k_1007 ⟨rfl, rfl, Nat.le_of_ble_eq_true rfl, Nat.le_of_ble_eq_true rfl, Nat.le_of_succ_le hc, Nat.le_trans (Nat.le_add_right _ 6) hs⟩ hK hsk hS hP hD rfl (heJ G a sj _) (WJ_a G a sj s') rfl hl.1 rfl (lv_room (Nat.le_of_ble_eq_true rfl)) d_law_647 (fun H locs hP hD hS => ?_)
    refine lv_aload_n hx hb d_law_650 rfl (lv_at hl 2 rfl) ?_
    refine lv_aload_n hx hb d_law_651 rfl (lv_at hl 4 rfl) ?_
    refine lv_iload hx hb d_law_652 (lv_at hl 0 rfl) ?_
    refine lv_iconst (v := (1 : Int32)) hx hb d_law_654 (by decide) ?_
    refine lv_iadd hx hb d_law_655 ?_
    refine va_sld hx hb hX hbl hbA hS n1 d_law_656 ?_
    refine lv_lit (y := x1) e1.symm ?_
    refine lv_aload_n hx hb d_law_657 rfl (lv_at hl 4 rfl) ?_
    refine lv_iload hx hb d_law_658 (lv_at hl 0 rfl) ?_
    refine lv_iconst (v := (2 : Int32)) hx hb d_law_660 (by decide) ?_
    refine lv_iadd hx hb d_law_661 ?_
    refine va_sld hx hb hX hbl hbA hS n2 d_law_662 ?_
    refine lv_lit (y := x2) e2.symm ?_
    refine lv_if_eq (tgt := 670) hx hb d_law_663 (by decide) (fun h => absurd h z2) (fun _ => ?_)
    refine lv_iconst (v := (1 : Int32)) hx hb d_law_666 (by decide) ?_
    refine lv_goto (tgt := 671) hx hb d_law_667 (by decide) ?_
    refine ap_l (u := WJ G a s') (wc := WR G bb t) (w1 := WR G bb t') (v := [(o, aJ G 1 f)]) (As := [.int x1, .int (1 : Int32)]) (rest := [.long v]) (ci := 12) (q0 := 165) hx hb hml hown htl (CR_size l G Y bb 300000 t x1 (1 : Int32) v t'  er) mv_R_size k_1635 ⟨rfl, rfl, Nat.le_of_ble_eq_true rfl, Nat.le_of_ble_eq_true rfl, Nat.le_of_succ_le hc, Nat.le_trans (Nat.le_add_right _ 6) hs⟩ hK hsk hS hP hD rfl (heR G a s' bb t _) (WR_a G bb t t') rfl hl.1 rfl (lv_room (Nat.le_of_ble_eq_true rfl)) d_law_671 (fun H locs hP hD hS => ?_)
    refine lx_eq (tgt := 1190) hx hb d_law_674 d_law_675 (by decide) (fun _ => ?_) (fun h => absurd rfl h)
    exact W.widen (Nat.le_succ _) (Nat.le_add_right _ 6) (kk σ' s' t' f H locs ls hJ' hR' ⟨hP, hD, hS⟩ hl)
set_option maxHeartbeats 4000000 in
set_option maxRecDepth 100000 in
theorem law_c16 {p : Program} {l : Launch} {e : Env} {s : State} {m : MethodId} {below : List Frame} {meth : Method} {c : Code} {b L : Nat} {xs : Nat → Int32} {G : va_G × (Nat → ClassId)} {Y : (Nat → Nat) × (Nat → Nat)} {a bb : Nat → Nat} {o : Nat} (C : LX p s m c b L xs G Y) (hL : L ≤ 2048) {i : Nat} (hi : i + 4 ≤ L) {σ : Qσ} {sj : SJ} {t : SR} {f : Nat → Int64} {H : Heap} {locs : List Loc} {ls : Array Slot} {cells slots : Nat} {Q : State → Prop} (hJ : qRelJ σ sj) (hR : qRelR σ t) (hw : LW G a bb o s sj t f H locs) (hl : lv_has ls 8 [(4, .int (qi i)), (3, .ref o), (2, .ref (bb 0)), (1, .ref (a 0)), (0, .ref b)]) (hc : cells + 1 ≤ 601024) (hs : slots + 6 ≤ 7293034)
    (kk : ∀ (σ' : Qσ) (sj' : SJ) (t' : SR) (f' : Nat → Int64) (H1 : Heap) (locs1 : List Loc) (ls1 : Array Slot), qRelJ σ' sj' → qRelR σ' t' → LW G a bb o s sj' t' f' H1 locs1 → lv_has ls1 8 [(4, .int (qi i)), (3, .ref o), (2, .ref (bb 0)), (1, .ref (a 0)), (0, .ref b)] → W p l e room_1 s m #[Value.ref b] below meth c H1 locs1 (cells + 1) (slots + 6) Q (F0 m 1190 ls1 [])) : W p l e room_1 s m #[Value.ref b] below meth c H locs cells slots Q (F0 m 680 ls []) := by
  obtain ⟨hx, hb, hml, hown, htl, hK, hsk, hX, hbl⟩ := C
  have hbA : ¬ (fun q : Nat => s.heap.size ≤ q) b := Nat.not_le.mpr hbl
  obtain ⟨hP, hD, hS⟩ := hw
  have n1 : vp_in (qi i + (1 : Int32)) L := ix_in hL hi 1 (by decide)
  obtain ⟨x1, e1⟩ : ∃ z, z = xs (qi i + (1 : Int32)).toNatClampNeg := ⟨_, rfl⟩
  obtain ⟨σ', v, s', t', ej, er, hJ', hR'⟩ := qq_connected σ sj t hJ hR 300000 (Nat.le_of_ble_eq_true rfl) x1
  refine lv_aload_n hx hb d_law_680 rfl (lv_at hl 3 rfl) ?_
  refine lv_aload_n hx hb d_law_681 rfl (lv_at hl 4 rfl) ?_
  refine lv_iload hx hb d_law_682 (lv_at hl 0 rfl) ?_
  refine lv_iconst (v := (1 : Int32)) hx hb d_law_684 (by decide) ?_
  refine lv_iadd hx hb d_law_685 ?_
  refine va_sld hx hb hX hbl hbA hS n1 d_law_686 ?_
  refine lv_lit (y := x1) e1.symm ?_
  refine ap_i (u := []) (wc := WJ G a sj) (w1 := WJ G a s') (v := WR G bb t ++ [(o, aJ G 1 f)]) (As := [.int x1]) (rest := []) (ci := 11) (q0 := 0) hx hb hml hown htl (CJ_connected l G Y a 300000 sj x1 v s'  ej) mv_J_connected k_1012 ⟨rfl, rfl, Nat.le_of_ble_eq_true rfl, Nat.le_of_ble_eq_true rfl, Nat.le_of_succ_le hc, Nat.le_trans (Nat.le_add_right _ 6) hs⟩ hK hsk hS hP hD rfl (heJ G a sj _) (WJ_a G a sj s') rfl hl.1 rfl (lv_room (Nat.le_of_ble_eq_true rfl)) d_law_687 (fun H locs hP hD hS => ?_)
  refine lv_aload_n hx hb d_law_690 rfl (lv_at hl 2 rfl) ?_
  refine lv_aload_n hx hb d_law_691 rfl (lv_at hl 4 rfl) ?_
  refine lv_iload hx hb d_law_692 (lv_at hl 0 rfl) ?_
  refine lv_iconst (v := (1 : Int32)) hx hb d_law_694 (by decide) ?_
  refine lv_iadd hx hb d_law_695 ?_
  refine va_sld hx hb hX hbl hbA hS n1 d_law_696 ?_
  refine lv_lit (y := x1) e1.symm ?_
  refine ap_i (u := WJ G a s') (wc := WR G bb t) (w1 := WR G bb t') (v := [(o, aJ G 1 f)]) (As := [.int x1]) (rest := [.int v]) (ci := 12) (q0 := 165) hx hb hml hown htl (CR_connected l G Y bb 300000 t x1 v t'  er) mv_R_connected k_1640 ⟨rfl, rfl, Nat.le_of_ble_eq_true rfl, Nat.le_of_ble_eq_true rfl, Nat.le_of_succ_le hc, Nat.le_trans (Nat.le_add_right _ 6) hs⟩ hK hsk hS hP hD rfl (heR G a s' bb t _) (WR_a G bb t t') rfl hl.1 rfl (lv_room (Nat.le_of_ble_eq_true rfl)) d_law_697 (fun H locs hP hD hS => ?_)
  refine lv_icmp_eq (tgt := 1190) hx hb d_law_700 (by decide) (fun _ => ?_) (fun h => absurd rfl h)
  exact W.widen (Nat.le_succ _) (Nat.le_add_right _ 6) (kk σ' s' t' f H locs ls hJ' hR' ⟨hP, hD, hS⟩ hl)
set_option maxHeartbeats 4000000 in
set_option maxRecDepth 100000 in
theorem law_c17 {p : Program} {l : Launch} {e : Env} {s : State} {m : MethodId} {below : List Frame} {meth : Method} {c : Code} {b L : Nat} {xs : Nat → Int32} {G : va_G × (Nat → ClassId)} {Y : (Nat → Nat) × (Nat → Nat)} {a bb : Nat → Nat} {o : Nat} (C : LX p s m c b L xs G Y) (hL : L ≤ 2048) {i : Nat} (hi : i + 4 ≤ L) {σ : Qσ} {sj : SJ} {t : SR} {f : Nat → Int64} {H : Heap} {locs : List Loc} {ls : Array Slot} {cells slots : Nat} {Q : State → Prop} (hJ : qRelJ σ sj) (hR : qRelR σ t) (hw : LW G a bb o s sj t f H locs) (hl : lv_has ls 8 [(4, .int (qi i)), (3, .ref o), (2, .ref (bb 0)), (1, .ref (a 0)), (0, .ref b)]) (hc : cells + 1 ≤ 601024) (hs : slots + 6 ≤ 7293034)
    (kk : ∀ (σ' : Qσ) (sj' : SJ) (t' : SR) (f' : Nat → Int64) (H1 : Heap) (locs1 : List Loc) (ls1 : Array Slot), qRelJ σ' sj' → qRelR σ' t' → LW G a bb o s sj' t' f' H1 locs1 → lv_has ls1 8 [(4, .int (qi i)), (3, .ref o), (2, .ref (bb 0)), (1, .ref (a 0)), (0, .ref b)] → W p l e room_1 s m #[Value.ref b] below meth c H1 locs1 (cells + 1) (slots + 6) Q (F0 m 1190 ls1 [])) : W p l e room_1 s m #[Value.ref b] below meth c H locs cells slots Q (F0 m 705 ls []) := by
  obtain ⟨hx, hb, hml, hown, htl, hK, hsk, hX, hbl⟩ := C
  have hbA : ¬ (fun q : Nat => s.heap.size ≤ q) b := Nat.not_le.mpr hbl
  obtain ⟨hP, hD, hS⟩ := hw
  have n1 : vp_in (qi i + (1 : Int32)) L := ix_in hL hi 1 (by decide)
  obtain ⟨x1, e1⟩ : ∃ z, z = xs (qi i + (1 : Int32)).toNatClampNeg := ⟨_, rfl⟩
  have n2 : vp_in (qi i + (2 : Int32)) L := ix_in hL hi 2 (by decide)
  obtain ⟨x2, e2⟩ : ∃ z, z = xs (qi i + (2 : Int32)).toNatClampNeg := ⟨_, rfl⟩
  obtain ⟨σ', v, s', t', ej, er, hJ', hR'⟩ := qq_joined σ sj t hJ hR 300000 (Nat.le_of_ble_eq_true rfl) x1 x2
  refine lv_aload_n hx hb d_law_705 rfl (lv_at hl 3 rfl) ?_
  refine lv_aload_n hx hb d_law_706 rfl (lv_at hl 4 rfl) ?_
  refine lv_iload hx hb d_law_707 (lv_at hl 0 rfl) ?_
  refine lv_iconst (v := (1 : Int32)) hx hb d_law_709 (by decide) ?_
  refine lv_iadd hx hb d_law_710 ?_
  refine va_sld hx hb hX hbl hbA hS n1 d_law_711 ?_
  refine lv_lit (y := x1) e1.symm ?_
  refine lv_aload_n hx hb d_law_712 rfl (lv_at hl 4 rfl) ?_
  refine lv_iload hx hb d_law_713 (lv_at hl 0 rfl) ?_
  refine lv_iconst (v := (2 : Int32)) hx hb d_law_715 (by decide) ?_
  refine lv_iadd hx hb d_law_716 ?_
  refine va_sld hx hb hX hbl hbA hS n2 d_law_717 ?_
  refine lv_lit (y := x2) e2.symm ?_
  refine ap_i (u := []) (wc := WJ G a sj) (w1 := WJ G a s') (v := WR G bb t ++ [(o, aJ G 1 f)]) (As := [.int x1, .int x2]) (rest := []) (ci := 11) (q0 := 0) hx hb hml hown htl (CJ_joined l G Y a 300000 sj x1 x2 v s'  ej) mv_J_joined k_1013 ⟨rfl, rfl, Nat.le_of_ble_eq_true rfl, Nat.le_of_ble_eq_true rfl, Nat.le_of_succ_le hc, Nat.le_trans (Nat.le_add_right _ 6) hs⟩ hK hsk hS hP hD rfl (heJ G a sj _) (WJ_a G a sj s') rfl hl.1 rfl (lv_room (Nat.le_of_ble_eq_true rfl)) d_law_718 (fun H locs hP hD hS => ?_)
  refine lv_aload_n hx hb d_law_721 rfl (lv_at hl 2 rfl) ?_
  refine lv_aload_n hx hb d_law_722 rfl (lv_at hl 4 rfl) ?_
  refine lv_iload hx hb d_law_723 (lv_at hl 0 rfl) ?_
  refine lv_iconst (v := (1 : Int32)) hx hb d_law_725 (by decide) ?_
  refine lv_iadd hx hb d_law_726 ?_
  refine va_sld hx hb hX hbl hbA hS n1 d_law_727 ?_
  refine lv_lit (y := x1) e1.symm ?_
  refine lv_aload_n hx hb d_law_728 rfl (lv_at hl 4 rfl) ?_
  refine lv_iload hx hb d_law_729 (lv_at hl 0 rfl) ?_
  refine lv_iconst (v := (2 : Int32)) hx hb d_law_731 (by decide) ?_
  refine lv_iadd hx hb d_law_732 ?_
  refine va_sld hx hb hX hbl hbA hS n2 d_law_733 ?_
  refine lv_lit (y := x2) e2.symm ?_
  refine ap_i (u := WJ G a s') (wc := WR G bb t) (w1 := WR G bb t') (v := [(o, aJ G 1 f)]) (As := [.int x1, .int x2]) (rest := [.int v]) (ci := 12) (q0 := 165) hx hb hml hown htl (CR_joined l G Y bb 300000 t x1 x2 v t'  er) mv_R_joined k_1644 ⟨rfl, rfl, Nat.le_of_ble_eq_true rfl, Nat.le_of_ble_eq_true rfl, Nat.le_of_succ_le hc, Nat.le_trans (Nat.le_add_right _ 6) hs⟩ hK hsk hS hP hD rfl (heR G a s' bb t _) (WR_a G bb t t') rfl hl.1 rfl (lv_room (Nat.le_of_ble_eq_true rfl)) d_law_734 (fun H locs hP hD hS => ?_)
  refine lv_icmp_eq (tgt := 1190) hx hb d_law_737 (by decide) (fun _ => ?_) (fun h => absurd rfl h)
  exact W.widen (Nat.le_succ _) (Nat.le_add_right _ 6) (kk σ' s' t' f H locs ls hJ' hR' ⟨hP, hD, hS⟩ hl)
set_option maxHeartbeats 4000000 in
set_option maxRecDepth 100000 in
theorem law_c18 {p : Program} {l : Launch} {e : Env} {s : State} {m : MethodId} {below : List Frame} {meth : Method} {c : Code} {b L : Nat} {xs : Nat → Int32} {G : va_G × (Nat → ClassId)} {Y : (Nat → Nat) × (Nat → Nat)} {a bb : Nat → Nat} {o : Nat} (C : LX p s m c b L xs G Y) (hL : L ≤ 2048) {i : Nat} (hi : i + 4 ≤ L) {σ : Qσ} {sj : SJ} {t : SR} {f : Nat → Int64} {H : Heap} {locs : List Loc} {ls : Array Slot} {cells slots : Nat} {Q : State → Prop} (hJ : qRelJ σ sj) (hR : qRelR σ t) (hw : LW G a bb o s sj t f H locs) (hl : lv_has ls 8 [(4, .int (qi i)), (3, .ref o), (2, .ref (bb 0)), (1, .ref (a 0)), (0, .ref b)]) (hc : cells + 1 ≤ 601024) (hs : slots + 6 ≤ 7293034)
    (kk : ∀ (σ' : Qσ) (sj' : SJ) (t' : SR) (f' : Nat → Int64) (H1 : Heap) (locs1 : List Loc) (ls1 : Array Slot), qRelJ σ' sj' → qRelR σ' t' → LW G a bb o s sj' t' f' H1 locs1 → lv_has ls1 8 [(4, .int (qi i)), (3, .ref o), (2, .ref (bb 0)), (1, .ref (a 0)), (0, .ref b)] → W p l e room_1 s m #[Value.ref b] below meth c H1 locs1 (cells + 1) (slots + 6) Q (F0 m 1190 ls1 [])) : W p l e room_1 s m #[Value.ref b] below meth c H locs cells slots Q (F0 m 742 ls []) := by
  obtain ⟨hx, hb, hml, hown, htl, hK, hsk, hX, hbl⟩ := C
  have hbA : ¬ (fun q : Nat => s.heap.size ≤ q) b := Nat.not_le.mpr hbl
  obtain ⟨hP, hD, hS⟩ := hw
  have n1 : vp_in (qi i + (1 : Int32)) L := ix_in hL hi 1 (by decide)
  obtain ⟨x1, e1⟩ : ∃ z, z = xs (qi i + (1 : Int32)).toNatClampNeg := ⟨_, rfl⟩
  have n2 : vp_in (qi i + (2 : Int32)) L := ix_in hL hi 2 (by decide)
  obtain ⟨x2, e2⟩ : ∃ z, z = xs (qi i + (2 : Int32)).toNatClampNeg := ⟨_, rfl⟩
  by_cases z2 : x2 = 0
  · obtain ⟨σ', v, s', t', ej, er, hJ', hR'⟩ := show ∃ σ', qOk σ' (sJ_pair 300000 sj x1 (0 : Int32)) (sR_pair 300000 t x1 (0 : Int32)) from qq_pair σ sj t hJ hR 300000 (Nat.le_of_ble_eq_true rfl) x1 false
    refine lv_aload_n hx hb d_law_742 rfl (lv_at hl 3 rfl) ?_
    refine lv_aload_n hx hb d_law_743 rfl (lv_at hl 4 rfl) ?_
    refine lv_iload hx hb d_law_744 (lv_at hl 0 rfl) ?_
    refine lv_iconst (v := (1 : Int32)) hx hb d_law_746 (by decide) ?_
    refine lv_iadd hx hb d_law_747 ?_
    refine va_sld hx hb hX hbl hbA hS n1 d_law_748 ?_
    refine lv_lit (y := x1) e1.symm ?_
    refine lv_aload_n hx hb d_law_749 rfl (lv_at hl 4 rfl) ?_
    refine lv_iload hx hb d_law_750 (lv_at hl 0 rfl) ?_
    refine lv_iconst (v := (2 : Int32)) hx hb d_law_752 (by decide) ?_
    refine lv_iadd hx hb d_law_753 ?_
    refine va_sld hx hb hX hbl hbA hS n2 d_law_754 ?_
    refine lv_lit (y := x2) e2.symm ?_
    refine lv_if_eq (tgt := 762) hx hb d_law_755 (by decide) (fun _ => ?_) (fun h => absurd z2 h)
    refine lv_iconst (v := (0 : Int32)) hx hb d_law_762 (by decide) ?_
    refine ap_i (u := []) (wc := WJ G a sj) (w1 := WJ G a s') (v := WR G bb t ++ [(o, aJ G 1 f)]) (As := [.int x1, .int (0 : Int32)]) (rest := []) (ci := 11) (q0 := 0) hx hb hml hown htl (CJ_pair l G Y a 300000 sj x1 (0 : Int32) v s'  ej) mv_J_pair k_1018 ⟨rfl, rfl, Nat.le_of_ble_eq_true rfl, Nat.le_of_ble_eq_true rfl, Nat.le_of_succ_le hc, Nat.le_trans (Nat.le_add_right _ 6) hs⟩ hK hsk hS hP hD rfl (heJ G a sj _) (WJ_a G a sj s') rfl hl.1 rfl (lv_room (Nat.le_of_ble_eq_true rfl)) d_law_763 (fun H locs hP hD hS => ?_)
    refine lv_aload_n hx hb d_law_766 rfl (lv_at hl 2 rfl) ?_
    refine lv_aload_n hx hb d_law_767 rfl (lv_at hl 4 rfl) ?_
    refine lv_iload hx hb d_law_768 (lv_at hl 0 rfl) ?_
    refine lv_iconst (v := (1 : Int32)) hx hb d_law_770 (by decide) ?_
    refine lv_iadd hx hb d_law_771 ?_
    refine va_sld hx hb hX hbl hbA hS n1 d_law_772 ?_
    refine lv_lit (y := x1) e1.symm ?_
    refine lv_aload_n hx hb d_law_773 rfl (lv_at hl 4 rfl) ?_
    refine lv_iload hx hb d_law_774 (lv_at hl 0 rfl) ?_
    refine lv_iconst (v := (2 : Int32)) hx hb d_law_776 (by decide) ?_
    refine lv_iadd hx hb d_law_777 ?_
    refine va_sld hx hb hX hbl hbA hS n2 d_law_778 ?_
    refine lv_lit (y := x2) e2.symm ?_
    refine lv_if_eq (tgt := 786) hx hb d_law_779 (by decide) (fun _ => ?_) (fun h => absurd z2 h)
    refine lv_iconst (v := (0 : Int32)) hx hb d_law_786 (by decide) ?_
    refine ap_i (u := WJ G a s') (wc := WR G bb t) (w1 := WR G bb t') (v := [(o, aJ G 1 f)]) (As := [.int x1, .int (0 : Int32)]) (rest := [.int v]) (ci := 12) (q0 := 165) hx hb hml hown htl (CR_pair l G Y bb 300000 t x1 (0 : Int32) v t'  er) mv_R_pair k_1648 ⟨rfl, rfl, Nat.le_of_ble_eq_true rfl, Nat.le_of_ble_eq_true rfl, Nat.le_of_succ_le hc, Nat.le_trans (Nat.le_add_right _ 6) hs⟩ hK hsk hS hP hD rfl (heR G a s' bb t _) (WR_a G bb t t') rfl hl.1 rfl (lv_room (Nat.le_of_ble_eq_true rfl)) d_law_787 (fun H locs hP hD hS => ?_)
    refine lv_icmp_eq (tgt := 1190) hx hb d_law_790 (by decide) (fun _ => ?_) (fun h => absurd rfl h)
    exact W.widen (Nat.le_succ _) (Nat.le_add_right _ 6) (kk σ' s' t' f H locs ls hJ' hR' ⟨hP, hD, hS⟩ hl)
  · obtain ⟨σ', v, s', t', ej, er, hJ', hR'⟩ := show ∃ σ', qOk σ' (sJ_pair 300000 sj x1 (1 : Int32)) (sR_pair 300000 t x1 (1 : Int32)) from qq_pair σ sj t hJ hR 300000 (Nat.le_of_ble_eq_true rfl) x1 true
    refine lv_aload_n hx hb d_law_742 rfl (lv_at hl 3 rfl) ?_
    refine lv_aload_n hx hb d_law_743 rfl (lv_at hl 4 rfl) ?_
    refine lv_iload hx hb d_law_744 (lv_at hl 0 rfl) ?_
    refine lv_iconst (v := (1 : Int32)) hx hb d_law_746 (by decide) ?_
    refine lv_iadd hx hb d_law_747 ?_
    refine va_sld hx hb hX hbl hbA hS n1 d_law_748 ?_
    refine lv_lit (y := x1) e1.symm ?_
    refine lv_aload_n hx hb d_law_749 rfl (lv_at hl 4 rfl) ?_
    refine lv_iload hx hb d_law_750 (lv_at hl 0 rfl) ?_
    refine lv_iconst (v := (2 : Int32)) hx hb d_law_752 (by decide) ?_
    refine lv_iadd hx hb d_law_753 ?_
    refine va_sld hx hb hX hbl hbA hS n2 d_law_754 ?_
    refine lv_lit (y := x2) e2.symm ?_
    refine lv_if_eq (tgt := 762) hx hb d_law_755 (by decide) (fun h => absurd h z2) (fun _ => ?_)
    refine lv_iconst (v := (1 : Int32)) hx hb d_law_758 (by decide) ?_
    refine lv_goto (tgt := 763) hx hb d_law_759 (by decide) ?_
    refine ap_i (u := []) (wc := WJ G a sj) (w1 := WJ G a s') (v := WR G bb t ++ [(o, aJ G 1 f)]) (As := [.int x1, .int (1 : Int32)]) (rest := []) (ci := 11) (q0 := 0) hx hb hml hown htl (CJ_pair l G Y a 300000 sj x1 (1 : Int32) v s'  ej) mv_J_pair k_1018 ⟨rfl, rfl, Nat.le_of_ble_eq_true rfl, Nat.le_of_ble_eq_true rfl, Nat.le_of_succ_le hc, Nat.le_trans (Nat.le_add_right _ 6) hs⟩ hK hsk hS hP hD rfl (heJ G a sj _) (WJ_a G a sj s') rfl hl.1 rfl (lv_room (Nat.le_of_ble_eq_true rfl)) d_law_763 (fun H locs hP hD hS => ?_)
    refine lv_aload_n hx hb d_law_766 rfl (lv_at hl 2 rfl) ?_
    refine lv_aload_n hx hb d_law_767 rfl (lv_at hl 4 rfl) ?_
    refine lv_iload hx hb d_law_768 (lv_at hl 0 rfl) ?_
    refine lv_iconst (v := (1 : Int32)) hx hb d_law_770 (by decide) ?_
    refine lv_iadd hx hb d_law_771 ?_
    refine va_sld hx hb hX hbl hbA hS n1 d_law_772 ?_
    refine lv_lit (y := x1) e1.symm ?_
    refine lv_aload_n hx hb d_law_773 rfl (lv_at hl 4 rfl) ?_
    refine lv_iload hx hb d_law_774 (lv_at hl 0 rfl) ?_
    refine lv_iconst (v := (2 : Int32)) hx hb d_law_776 (by decide) ?_
    refine lv_iadd hx hb d_law_777 ?_
    refine va_sld hx hb hX hbl hbA hS n2 d_law_778 ?_
    refine lv_lit (y := x2) e2.symm ?_
    refine lv_if_eq (tgt := 786) hx hb d_law_779 (by decide) (fun h => absurd h z2) (fun _ => ?_)
    refine lv_iconst (v := (1 : Int32)) hx hb d_law_782 (by decide) ?_
    refine lv_goto (tgt := 787) hx hb d_law_783 (by decide) ?_
    refine ap_i (u := WJ G a s') (wc := WR G bb t) (w1 := WR G bb t') (v := [(o, aJ G 1 f)]) (As := [.int x1, .int (1 : Int32)]) (rest := [.int v]) (ci := 12) (q0 := 165) hx hb hml hown htl (CR_pair l G Y bb 300000 t x1 (1 : Int32) v t'  er) mv_R_pair k_1648 ⟨rfl, rfl, Nat.le_of_ble_eq_true rfl, Nat.le_of_ble_eq_true rfl, Nat.le_of_succ_le hc, Nat.le_trans (Nat.le_add_right _ 6) hs⟩ hK hsk hS hP hD rfl (heR G a s' bb t _) (WR_a G bb t t') rfl hl.1 rfl (lv_room (Nat.le_of_ble_eq_true rfl)) d_law_787 (fun H locs hP hD hS => ?_)
    refine lv_icmp_eq (tgt := 1190) hx hb d_law_790 (by decide) (fun _ => ?_) (fun h => absurd rfl h)
    exact W.widen (Nat.le_succ _) (Nat.le_add_right _ 6) (kk σ' s' t' f H locs ls hJ' hR' ⟨hP, hD, hS⟩ hl)
set_option maxHeartbeats 4000000 in
set_option maxRecDepth 100000 in
theorem law_c19 {p : Program} {l : Launch} {e : Env} {s : State} {m : MethodId} {below : List Frame} {meth : Method} {c : Code} {b L : Nat} {xs : Nat → Int32} {G : va_G × (Nat → ClassId)} {Y : (Nat → Nat) × (Nat → Nat)} {a bb : Nat → Nat} {o : Nat} (C : LX p s m c b L xs G Y) (hL : L ≤ 2048) {i : Nat} (hi : i + 4 ≤ L) {σ : Qσ} {sj : SJ} {t : SR} {f : Nat → Int64} {H : Heap} {locs : List Loc} {ls : Array Slot} {cells slots : Nat} {Q : State → Prop} (hJ : qRelJ σ sj) (hR : qRelR σ t) (hw : LW G a bb o s sj t f H locs) (hl : lv_has ls 8 [(4, .int (qi i)), (3, .ref o), (2, .ref (bb 0)), (1, .ref (a 0)), (0, .ref b)]) (hc : cells + 1 ≤ 601024) (hs : slots + 6 ≤ 7293034)
    (kk : ∀ (σ' : Qσ) (sj' : SJ) (t' : SR) (f' : Nat → Int64) (H1 : Heap) (locs1 : List Loc) (ls1 : Array Slot), qRelJ σ' sj' → qRelR σ' t' → LW G a bb o s sj' t' f' H1 locs1 → lv_has ls1 8 [(4, .int (qi i)), (3, .ref o), (2, .ref (bb 0)), (1, .ref (a 0)), (0, .ref b)] → W p l e room_1 s m #[Value.ref b] below meth c H1 locs1 (cells + 1) (slots + 6) Q (F0 m 1190 ls1 [])) : W p l e room_1 s m #[Value.ref b] below meth c H locs cells slots Q (F0 m 795 ls []) := by
  obtain ⟨hx, hb, hml, hown, htl, hK, hsk, hX, hbl⟩ := C
  have hbA : ¬ (fun q : Nat => s.heap.size ≤ q) b := Nat.not_le.mpr hbl
  obtain ⟨hP, hD, hS⟩ := hw
  have n1 : vp_in (qi i + (1 : Int32)) L := ix_in hL hi 1 (by decide)
  obtain ⟨x1, e1⟩ : ∃ z, z = xs (qi i + (1 : Int32)).toNatClampNeg := ⟨_, rfl⟩
  have n2 : vp_in (qi i + (2 : Int32)) L := ix_in hL hi 2 (by decide)
  obtain ⟨x2, e2⟩ : ∃ z, z = xs (qi i + (2 : Int32)).toNatClampNeg := ⟨_, rfl⟩
  have n3 : vp_in (qi i + (3 : Int32)) L := ix_in hL hi 3 (by decide)
  obtain ⟨x3, e3⟩ : ∃ z, z = xs (qi i + (3 : Int32)).toNatClampNeg := ⟨_, rfl⟩
  by_cases z2 : x2 = 0
  · obtain ⟨σ', v, s', t', ej, er, hJ', hR'⟩ := qq_best0 σ sj t hJ hR 300000 (Nat.le_of_ble_eq_true rfl) x1 x3
    refine lv_aload_n hx hb d_law_795 rfl (lv_at hl 3 rfl) ?_
    refine lv_aload_n hx hb d_law_796 rfl (lv_at hl 4 rfl) ?_
    refine lv_iload hx hb d_law_797 (lv_at hl 0 rfl) ?_
    refine lv_iconst (v := (1 : Int32)) hx hb d_law_799 (by decide) ?_
    refine lv_iadd hx hb d_law_800 ?_
    refine va_sld hx hb hX hbl hbA hS n1 d_law_801 ?_
    refine lv_lit (y := x1) e1.symm ?_
    refine lv_aload_n hx hb d_law_802 rfl (lv_at hl 4 rfl) ?_
    refine lv_iload hx hb d_law_803 (lv_at hl 0 rfl) ?_
    refine lv_iconst (v := (2 : Int32)) hx hb d_law_805 (by decide) ?_
    refine lv_iadd hx hb d_law_806 ?_
    refine va_sld hx hb hX hbl hbA hS n2 d_law_807 ?_
    refine lv_lit (y := x2) e2.symm ?_
    refine lv_if_eq (tgt := 815) hx hb d_law_808 (by decide) (fun _ => ?_) (fun h => absurd z2 h)
    refine lv_iconst (v := (0 : Int32)) hx hb d_law_815 (by decide) ?_
    refine lv_aload_n hx hb d_law_816 rfl (lv_at hl 4 rfl) ?_
    refine lv_iload hx hb d_law_817 (lv_at hl 0 rfl) ?_
    refine lv_iconst (v := (3 : Int32)) hx hb d_law_819 (by decide) ?_
    refine lv_iadd hx hb d_law_820 ?_
    refine va_sld hx hb hX hbl hbA hS n3 d_law_821 ?_
    refine lv_lit (y := x3) e3.symm ?_
    refine ap_l (u := []) (wc := WJ G a sj) (w1 := WJ G a s') (v := WR G bb t ++ [(o, aJ G 1 f)]) (As := [.int x1, .int (0 : Int32), .int x3]) (rest := []) (ci := 11) (q0 := 0) hx hb hml hown htl (CJ_best0 l G Y a 300000 sj x1 x3 v s'  ej) mv_J_best k_1030 ⟨rfl, rfl, Nat.le_of_ble_eq_true rfl, Nat.le_of_ble_eq_true rfl, Nat.le_of_succ_le hc, Nat.le_trans (Nat.le_add_right _ 6) hs⟩ hK hsk hS hP hD rfl (heJ G a sj _) (WJ_a G a sj s') rfl hl.1 rfl (lv_room (Nat.le_of_ble_eq_true rfl)) d_law_822 (fun H locs hP hD hS => ?_)
    refine lv_aload_n hx hb d_law_825 rfl (lv_at hl 2 rfl) ?_
    refine lv_aload_n hx hb d_law_826 rfl (lv_at hl 4 rfl) ?_
    refine lv_iload hx hb d_law_827 (lv_at hl 0 rfl) ?_
    refine lv_iconst (v := (1 : Int32)) hx hb d_law_829 (by decide) ?_
    refine lv_iadd hx hb d_law_830 ?_
    refine va_sld hx hb hX hbl hbA hS n1 d_law_831 ?_
    refine lv_lit (y := x1) e1.symm ?_
    refine lv_aload_n hx hb d_law_832 rfl (lv_at hl 4 rfl) ?_
    refine lv_iload hx hb d_law_833 (lv_at hl 0 rfl) ?_
    refine lv_iconst (v := (2 : Int32)) hx hb d_law_835 (by decide) ?_
    refine lv_iadd hx hb d_law_836 ?_
    refine va_sld hx hb hX hbl hbA hS n2 d_law_837 ?_
    refine lv_lit (y := x2) e2.symm ?_
    refine lv_if_eq (tgt := 845) hx hb d_law_838 (by decide) (fun _ => ?_) (fun h => absurd z2 h)
    refine lv_iconst (v := (0 : Int32)) hx hb d_law_845 (by decide) ?_
    refine lv_aload_n hx hb d_law_846 rfl (lv_at hl 4 rfl) ?_
    refine lv_iload hx hb d_law_847 (lv_at hl 0 rfl) ?_
    refine lv_iconst (v := (3 : Int32)) hx hb d_law_849 (by decide) ?_
    refine lv_iadd hx hb d_law_850 ?_
    refine va_sld hx hb hX hbl hbA hS n3 d_law_851 ?_
    refine lv_lit (y := x3) e3.symm ?_
    refine ap_l (u := WJ G a s') (wc := WR G bb t) (w1 := WR G bb t') (v := [(o, aJ G 1 f)]) (As := [.int x1, .int (0 : Int32), .int x3]) (rest := [.long v]) (ci := 12) (q0 := 165) hx hb hml hown htl (CR_best l G Y bb 300000 t x1 (0 : Int32) x3 v t'  er) mv_R_best k_1652 ⟨rfl, rfl, Nat.le_of_ble_eq_true rfl, Nat.le_of_ble_eq_true rfl, Nat.le_of_succ_le hc, Nat.le_trans (Nat.le_add_right _ 6) hs⟩ hK hsk hS hP hD rfl (heR G a s' bb t _) (WR_a G bb t t') rfl hl.1 rfl (lv_room (Nat.le_of_ble_eq_true rfl)) d_law_852 (fun H locs hP hD hS => ?_)
    refine lx_eq (tgt := 1190) hx hb d_law_855 d_law_856 (by decide) (fun _ => ?_) (fun h => absurd rfl h)
    exact W.widen (Nat.le_succ _) (Nat.le_add_right _ 6) (kk σ' s' t' f H locs ls hJ' hR' ⟨hP, hD, hS⟩ hl)
  · obtain ⟨σ', v, s', t', ej, er, hJ', hR'⟩ := qq_best1 σ sj t hJ hR 300000 (Nat.le_of_ble_eq_true rfl) x1 x3
    refine lv_aload_n hx hb d_law_795 rfl (lv_at hl 3 rfl) ?_
    refine lv_aload_n hx hb d_law_796 rfl (lv_at hl 4 rfl) ?_
    refine lv_iload hx hb d_law_797 (lv_at hl 0 rfl) ?_
    refine lv_iconst (v := (1 : Int32)) hx hb d_law_799 (by decide) ?_
    refine lv_iadd hx hb d_law_800 ?_
    refine va_sld hx hb hX hbl hbA hS n1 d_law_801 ?_
    refine lv_lit (y := x1) e1.symm ?_
    refine lv_aload_n hx hb d_law_802 rfl (lv_at hl 4 rfl) ?_
    refine lv_iload hx hb d_law_803 (lv_at hl 0 rfl) ?_
    refine lv_iconst (v := (2 : Int32)) hx hb d_law_805 (by decide) ?_
    refine lv_iadd hx hb d_law_806 ?_
    refine va_sld hx hb hX hbl hbA hS n2 d_law_807 ?_
    refine lv_lit (y := x2) e2.symm ?_
    refine lv_if_eq (tgt := 815) hx hb d_law_808 (by decide) (fun h => absurd h z2) (fun _ => ?_)
    refine lv_iconst (v := (1 : Int32)) hx hb d_law_811 (by decide) ?_
    refine lv_goto (tgt := 816) hx hb d_law_812 (by decide) ?_
    refine lv_aload_n hx hb d_law_816 rfl (lv_at hl 4 rfl) ?_
    refine lv_iload hx hb d_law_817 (lv_at hl 0 rfl) ?_
    refine lv_iconst (v := (3 : Int32)) hx hb d_law_819 (by decide) ?_
    refine lv_iadd hx hb d_law_820 ?_
    refine va_sld hx hb hX hbl hbA hS n3 d_law_821 ?_
    refine lv_lit (y := x3) e3.symm ?_
    refine ap_l (u := []) (wc := WJ G a sj) (w1 := WJ G a s') (v := WR G bb t ++ [(o, aJ G 1 f)]) (As := [.int x1, .int (1 : Int32), .int x3]) (rest := []) (ci := 11) (q0 := 0) hx hb hml hown htl (CJ_best1 l G Y a 300000 sj x1 x3 v s'  ej) mv_J_best k_1030 ⟨rfl, rfl, Nat.le_of_ble_eq_true rfl, Nat.le_of_ble_eq_true rfl, Nat.le_of_succ_le hc, Nat.le_trans (Nat.le_add_right _ 6) hs⟩ hK hsk hS hP hD rfl (heJ G a sj _) (WJ_a G a sj s') rfl hl.1 rfl (lv_room (Nat.le_of_ble_eq_true rfl)) d_law_822 (fun H locs hP hD hS => ?_)
    refine lv_aload_n hx hb d_law_825 rfl (lv_at hl 2 rfl) ?_
    refine lv_aload_n hx hb d_law_826 rfl (lv_at hl 4 rfl) ?_
    refine lv_iload hx hb d_law_827 (lv_at hl 0 rfl) ?_
    refine lv_iconst (v := (1 : Int32)) hx hb d_law_829 (by decide) ?_
    refine lv_iadd hx hb d_law_830 ?_
    refine va_sld hx hb hX hbl hbA hS n1 d_law_831 ?_
    refine lv_lit (y := x1) e1.symm ?_
    refine lv_aload_n hx hb d_law_832 rfl (lv_at hl 4 rfl) ?_
    refine lv_iload hx hb d_law_833 (lv_at hl 0 rfl) ?_
    refine lv_iconst (v := (2 : Int32)) hx hb d_law_835 (by decide) ?_
    refine lv_iadd hx hb d_law_836 ?_
    refine va_sld hx hb hX hbl hbA hS n2 d_law_837 ?_
    refine lv_lit (y := x2) e2.symm ?_
    refine lv_if_eq (tgt := 845) hx hb d_law_838 (by decide) (fun h => absurd h z2) (fun _ => ?_)
    refine lv_iconst (v := (1 : Int32)) hx hb d_law_841 (by decide) ?_
    refine lv_goto (tgt := 846) hx hb d_law_842 (by decide) ?_
    refine lv_aload_n hx hb d_law_846 rfl (lv_at hl 4 rfl) ?_
    refine lv_iload hx hb d_law_847 (lv_at hl 0 rfl) ?_
    refine lv_iconst (v := (3 : Int32)) hx hb d_law_849 (by decide) ?_
    refine lv_iadd hx hb d_law_850 ?_
    refine va_sld hx hb hX hbl hbA hS n3 d_law_851 ?_
    refine lv_lit (y := x3) e3.symm ?_
    refine ap_l (u := WJ G a s') (wc := WR G bb t) (w1 := WR G bb t') (v := [(o, aJ G 1 f)]) (As := [.int x1, .int (1 : Int32), .int x3]) (rest := [.long v]) (ci := 12) (q0 := 165) hx hb hml hown htl (CR_best l G Y bb 300000 t x1 (1 : Int32) x3 v t'  er) mv_R_best k_1652 ⟨rfl, rfl, Nat.le_of_ble_eq_true rfl, Nat.le_of_ble_eq_true rfl, Nat.le_of_succ_le hc, Nat.le_trans (Nat.le_add_right _ 6) hs⟩ hK hsk hS hP hD rfl (heR G a s' bb t _) (WR_a G bb t t') rfl hl.1 rfl (lv_room (Nat.le_of_ble_eq_true rfl)) d_law_852 (fun H locs hP hD hS => ?_)
    refine lx_eq (tgt := 1190) hx hb d_law_855 d_law_856 (by decide) (fun _ => ?_) (fun h => absurd rfl h)
    exact W.widen (Nat.le_succ _) (Nat.le_add_right _ 6) (kk σ' s' t' f H locs ls hJ' hR' ⟨hP, hD, hS⟩ hl)
set_option maxHeartbeats 4000000 in
set_option maxRecDepth 100000 in
theorem law_c20 {p : Program} {l : Launch} {e : Env} {s : State} {m : MethodId} {below : List Frame} {meth : Method} {c : Code} {b L : Nat} {xs : Nat → Int32} {G : va_G × (Nat → ClassId)} {Y : (Nat → Nat) × (Nat → Nat)} {a bb : Nat → Nat} {o : Nat} (C : LX p s m c b L xs G Y) (hL : L ≤ 2048) {i : Nat} (hi : i + 4 ≤ L) {σ : Qσ} {sj : SJ} {t : SR} {f : Nat → Int64} {H : Heap} {locs : List Loc} {ls : Array Slot} {cells slots : Nat} {Q : State → Prop} (hJ : qRelJ σ sj) (hR : qRelR σ t) (hw : LW G a bb o s sj t f H locs) (hl : lv_has ls 8 [(4, .int (qi i)), (3, .ref o), (2, .ref (bb 0)), (1, .ref (a 0)), (0, .ref b)]) (hc : cells + 1 ≤ 601024) (hs : slots + 6 ≤ 7293034)
    (kk : ∀ (σ' : Qσ) (sj' : SJ) (t' : SR) (f' : Nat → Int64) (H1 : Heap) (locs1 : List Loc) (ls1 : Array Slot), qRelJ σ' sj' → qRelR σ' t' → LW G a bb o s sj' t' f' H1 locs1 → lv_has ls1 8 [(4, .int (qi i)), (3, .ref o), (2, .ref (bb 0)), (1, .ref (a 0)), (0, .ref b)] → W p l e room_1 s m #[Value.ref b] below meth c H1 locs1 (cells + 1) (slots + 6) Q (F0 m 1190 ls1 [])) : W p l e room_1 s m #[Value.ref b] below meth c H locs cells slots Q (F0 m 861 ls []) := by
  obtain ⟨hx, hb, hml, hown, htl, hK, hsk, hX, hbl⟩ := C
  have hbA : ¬ (fun q : Nat => s.heap.size ≤ q) b := Nat.not_le.mpr hbl
  obtain ⟨hP, hD, hS⟩ := hw
  have n1 : vp_in (qi i + (1 : Int32)) L := ix_in hL hi 1 (by decide)
  obtain ⟨x1, e1⟩ : ∃ z, z = xs (qi i + (1 : Int32)).toNatClampNeg := ⟨_, rfl⟩
  obtain ⟨σ', v, s', t', ej, er, hJ', hR'⟩ := qq_greedy σ sj t hJ hR 300000 (Nat.le_of_ble_eq_true rfl) x1
  refine lv_aload_n hx hb d_law_861 rfl (lv_at hl 3 rfl) ?_
  refine lv_aload_n hx hb d_law_862 rfl (lv_at hl 4 rfl) ?_
  refine lv_iload hx hb d_law_863 (lv_at hl 0 rfl) ?_
  refine lv_iconst (v := (1 : Int32)) hx hb d_law_865 (by decide) ?_
  refine lv_iadd hx hb d_law_866 ?_
  refine va_sld hx hb hX hbl hbA hS n1 d_law_867 ?_
  refine lv_lit (y := x1) e1.symm ?_
  refine ap_l (u := []) (wc := WJ G a sj) (w1 := WJ G a s') (v := WR G bb t ++ [(o, aJ G 1 f)]) (As := [.int x1]) (rest := []) (ci := 11) (q0 := 0) hx hb hml hown htl (CJ_greedy l G Y a 300000 sj x1 v s'  ej) mv_J_greedy k_1034 ⟨rfl, rfl, Nat.le_of_ble_eq_true rfl, Nat.le_of_ble_eq_true rfl, Nat.le_of_succ_le hc, Nat.le_trans (Nat.le_add_right _ 6) hs⟩ hK hsk hS hP hD rfl (heJ G a sj _) (WJ_a G a sj s') rfl hl.1 rfl (lv_room (Nat.le_of_ble_eq_true rfl)) d_law_868 (fun H locs hP hD hS => ?_)
  refine lv_aload_n hx hb d_law_871 rfl (lv_at hl 2 rfl) ?_
  refine lv_aload_n hx hb d_law_872 rfl (lv_at hl 4 rfl) ?_
  refine lv_iload hx hb d_law_873 (lv_at hl 0 rfl) ?_
  refine lv_iconst (v := (1 : Int32)) hx hb d_law_875 (by decide) ?_
  refine lv_iadd hx hb d_law_876 ?_
  refine va_sld hx hb hX hbl hbA hS n1 d_law_877 ?_
  refine lv_lit (y := x1) e1.symm ?_
  refine ap_l (u := WJ G a s') (wc := WR G bb t) (w1 := WR G bb t') (v := [(o, aJ G 1 f)]) (As := [.int x1]) (rest := [.long v]) (ci := 12) (q0 := 165) hx hb hml hown htl (CR_greedy l G Y bb 300000 t x1 v t'  er) mv_R_greedy k_1656 ⟨rfl, rfl, Nat.le_of_ble_eq_true rfl, Nat.le_of_ble_eq_true rfl, Nat.le_of_succ_le hc, Nat.le_trans (Nat.le_add_right _ 6) hs⟩ hK hsk hS hP hD rfl (heR G a s' bb t _) (WR_a G bb t t') rfl hl.1 rfl (lv_room (Nat.le_of_ble_eq_true rfl)) d_law_878 (fun H locs hP hD hS => ?_)
  refine lx_eq (tgt := 1190) hx hb d_law_881 d_law_882 (by decide) (fun _ => ?_) (fun h => absurd rfl h)
  exact W.widen (Nat.le_succ _) (Nat.le_add_right _ 6) (kk σ' s' t' f H locs ls hJ' hR' ⟨hP, hD, hS⟩ hl)
set_option maxHeartbeats 4000000 in
set_option maxRecDepth 100000 in
theorem law_c22 {p : Program} {l : Launch} {e : Env} {s : State} {m : MethodId} {below : List Frame} {meth : Method} {c : Code} {b L : Nat} {xs : Nat → Int32} {G : va_G × (Nat → ClassId)} {Y : (Nat → Nat) × (Nat → Nat)} {a bb : Nat → Nat} {o : Nat} (C : LX p s m c b L xs G Y) (hL : L ≤ 2048) {i : Nat} (hi : i + 4 ≤ L) {σ : Qσ} {sj : SJ} {t : SR} {f : Nat → Int64} {H : Heap} {locs : List Loc} {ls : Array Slot} {cells slots : Nat} {Q : State → Prop} (hJ : qRelJ σ sj) (hR : qRelR σ t) (hw : LW G a bb o s sj t f H locs) (hl : lv_has ls 8 [(4, .int (qi i)), (3, .ref o), (2, .ref (bb 0)), (1, .ref (a 0)), (0, .ref b)]) (hc : cells + 1 ≤ 601024) (hs : slots + 6 ≤ 7293034)
    (kk : ∀ (σ' : Qσ) (sj' : SJ) (t' : SR) (f' : Nat → Int64) (H1 : Heap) (locs1 : List Loc) (ls1 : Array Slot), qRelJ σ' sj' → qRelR σ' t' → LW G a bb o s sj' t' f' H1 locs1 → lv_has ls1 8 [(4, .int (qi i)), (3, .ref o), (2, .ref (bb 0)), (1, .ref (a 0)), (0, .ref b)] → W p l e room_1 s m #[Value.ref b] below meth c H1 locs1 (cells + 1) (slots + 6) Q (F0 m 1190 ls1 [])) : W p l e room_1 s m #[Value.ref b] below meth c H locs cells slots Q (F0 m 954 ls []) := by
  obtain ⟨hx, hb, hml, hown, htl, hK, hsk, hX, hbl⟩ := C
  have hbA : ¬ (fun q : Nat => s.heap.size ≤ q) b := Nat.not_le.mpr hbl
  obtain ⟨hP, hD, hS⟩ := hw
  obtain ⟨σ', v, s', t', ej, er, hJ', hR'⟩ := qq_cost σ sj t hJ hR 300000 (Nat.le_of_ble_eq_true rfl) 
  refine lv_aload_n hx hb d_law_954 rfl (lv_at hl 3 rfl) ?_
  refine ap_l (u := []) (wc := WJ G a sj) (w1 := WJ G a s') (v := WR G bb t ++ [(o, aJ G 1 f)]) (As := []) (rest := []) (ci := 11) (q0 := 0) hx hb hml hown htl (CJ_cost l G Y a 300000 sj  v s'  ej) mv_J_cost k_1039 ⟨rfl, rfl, Nat.le_of_ble_eq_true rfl, Nat.le_of_ble_eq_true rfl, Nat.le_of_succ_le hc, Nat.le_trans (Nat.le_add_right _ 6) hs⟩ hK hsk hS hP hD rfl (heJ G a sj _) (WJ_a G a sj s') rfl hl.1 rfl (lv_room (Nat.le_of_ble_eq_true rfl)) d_law_955 (fun H locs hP hD hS => ?_)
  refine lv_aload_n hx hb d_law_958 rfl (lv_at hl 2 rfl) ?_
  refine ap_l (u := WJ G a s') (wc := WR G bb t) (w1 := WR G bb t') (v := [(o, aJ G 1 f)]) (As := []) (rest := [.long v]) (ci := 12) (q0 := 165) hx hb hml hown htl (CR_cost l G Y bb 300000 t  v t'  er) mv_R_cost k_1665 ⟨rfl, rfl, Nat.le_of_ble_eq_true rfl, Nat.le_of_ble_eq_true rfl, Nat.le_of_succ_le hc, Nat.le_trans (Nat.le_add_right _ 6) hs⟩ hK hsk hS hP hD rfl (heR G a s' bb t _) (WR_a G bb t t') rfl hl.1 rfl (lv_room (Nat.le_of_ble_eq_true rfl)) d_law_959 (fun H locs hP hD hS => ?_)
  refine lx_eq (tgt := 1190) hx hb d_law_962 d_law_963 (by decide) (fun _ => ?_) (fun h => absurd rfl h)
  exact W.widen (Nat.le_succ _) (Nat.le_add_right _ 6) (kk σ' s' t' f H locs ls hJ' hR' ⟨hP, hD, hS⟩ hl)
