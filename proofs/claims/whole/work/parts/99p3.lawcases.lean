set_option maxHeartbeats 4000000 in
set_option maxRecDepth 100000 in
theorem law_c23 {p : Program} {l : Launch} {e : Env} {s : State} {m : MethodId} {below : List Frame} {meth : Method} {c : Code} {b L : Nat} {xs : Nat → Int32} {G : va_G × (Nat → ClassId)} {Y : (Nat → Nat) × (Nat → Nat)} {a bb : Nat → Nat} {o : Nat} (C : LX p s m c b L xs G Y) (hL : L ≤ 2048) {i : Nat} (hi : i + 4 ≤ L) {σ : Qσ} {sj : SJ} {t : SR} {f : Nat → Int64} {H : Heap} {locs : List Loc} {ls : Array Slot} {cells slots : Nat} {Q : State → Prop} (hJ : qRelJ σ sj) (hR : qRelR σ t) (hw : LW G a bb o s sj t f H locs) (hl : lv_has ls 8 [(4, .int (qi i)), (3, .ref o), (2, .ref (bb 0)), (1, .ref (a 0)), (0, .ref b)]) (hc : cells + 1 ≤ 601024) (hs : slots + 6 ≤ 7293034)
    (kk : ∀ (σ' : Qσ) (sj' : SJ) (t' : SR) (f' : Nat → Int64) (H1 : Heap) (locs1 : List Loc) (ls1 : Array Slot), qRelJ σ' sj' → qRelR σ' t' → LW G a bb o s sj' t' f' H1 locs1 → lv_has ls1 8 [(4, .int (qi i)), (3, .ref o), (2, .ref (bb 0)), (1, .ref (a 0)), (0, .ref b)] → W p l e room_1 s m #[Value.ref b] below meth c H1 locs1 (cells + 1) (slots + 6) Q (F0 m 1190 ls1 [])) : W p l e room_1 s m #[Value.ref b] below meth c H locs cells slots Q (F0 m 968 ls []) := by
  obtain ⟨hx, hb, hml, hown, htl, hK, hsk, hX, hbl⟩ := C
  have hbA : ¬ (fun q : Nat => s.heap.size ≤ q) b := Nat.not_le.mpr hbl
  obtain ⟨hP, hD, hS⟩ := hw
  have n1 : vp_in (qi i + (1 : Int32)) L := ix_in hL hi 1 (by decide)
  obtain ⟨x1, e1⟩ : ∃ z, z = xs (qi i + (1 : Int32)).toNatClampNeg := ⟨_, rfl⟩
  obtain ⟨σ', v, s', t', ej, er, hJ', hR'⟩ := qq_told σ sj t hJ hR 300000 (Nat.le_of_ble_eq_true rfl) x1
  refine lv_aload_n hx hb d_law_968 rfl (lv_at hl 3 rfl) ?_
  refine lv_aload_n hx hb d_law_969 rfl (lv_at hl 4 rfl) ?_
  refine lv_iload hx hb d_law_970 (lv_at hl 0 rfl) ?_
  refine lv_iconst (v := (1 : Int32)) hx hb d_law_972 (by decide) ?_
  refine lv_iadd hx hb d_law_973 ?_
  refine va_sld hx hb hX hbl hbA hS n1 d_law_974 ?_
  refine lv_lit (y := x1) e1.symm ?_
  refine ap_i (u := []) (wc := WJ G a sj) (w1 := WJ G a s') (v := WR G bb t ++ [(o, aJ G 1 f)]) (As := [.int x1]) (rest := []) (ci := 11) (q0 := 0) hx hb hml hown htl (CJ_told l G Y a 300000 sj x1 v s'  ej) mv_J_told k_1043 ⟨rfl, rfl, Nat.le_of_ble_eq_true rfl, Nat.le_of_ble_eq_true rfl, Nat.le_of_succ_le hc, Nat.le_trans (Nat.le_add_right _ 6) hs⟩ hK hsk hS hP hD rfl (heJ G a sj _) (WJ_a G a sj s') rfl hl.1 rfl (lv_room (Nat.le_of_ble_eq_true rfl)) d_law_975 (fun H locs hP hD hS => ?_)
  refine lv_aload_n hx hb d_law_978 rfl (lv_at hl 2 rfl) ?_
  refine lv_aload_n hx hb d_law_979 rfl (lv_at hl 4 rfl) ?_
  refine lv_iload hx hb d_law_980 (lv_at hl 0 rfl) ?_
  refine lv_iconst (v := (1 : Int32)) hx hb d_law_982 (by decide) ?_
  refine lv_iadd hx hb d_law_983 ?_
  refine va_sld hx hb hX hbl hbA hS n1 d_law_984 ?_
  refine lv_lit (y := x1) e1.symm ?_
  refine ap_i (u := WJ G a s') (wc := WR G bb t) (w1 := WR G bb t') (v := [(o, aJ G 1 f)]) (As := [.int x1]) (rest := [.int v]) (ci := 12) (q0 := 165) hx hb hml hown htl (CR_told l G Y bb 300000 t x1 v t'  er) mv_R_told k_1669 ⟨rfl, rfl, Nat.le_of_ble_eq_true rfl, Nat.le_of_ble_eq_true rfl, Nat.le_of_succ_le hc, Nat.le_trans (Nat.le_add_right _ 6) hs⟩ hK hsk hS hP hD rfl (heR G a s' bb t _) (WR_a G bb t t') rfl hl.1 rfl (lv_room (Nat.le_of_ble_eq_true rfl)) d_law_985 (fun H locs hP hD hS => ?_)
  refine lv_icmp_eq (tgt := 1190) hx hb d_law_988 (by decide) (fun _ => ?_) (fun h => absurd rfl h)
  exact W.widen (Nat.le_succ _) (Nat.le_add_right _ 6) (kk σ' s' t' f H locs ls hJ' hR' ⟨hP, hD, hS⟩ hl)
set_option maxHeartbeats 4000000 in
set_option maxRecDepth 100000 in
theorem law_c24 {p : Program} {l : Launch} {e : Env} {s : State} {m : MethodId} {below : List Frame} {meth : Method} {c : Code} {b L : Nat} {xs : Nat → Int32} {G : va_G × (Nat → ClassId)} {Y : (Nat → Nat) × (Nat → Nat)} {a bb : Nat → Nat} {o : Nat} (C : LX p s m c b L xs G Y) (hL : L ≤ 2048) {i : Nat} (hi : i + 4 ≤ L) {σ : Qσ} {sj : SJ} {t : SR} {f : Nat → Int64} {H : Heap} {locs : List Loc} {ls : Array Slot} {cells slots : Nat} {Q : State → Prop} (hJ : qRelJ σ sj) (hR : qRelR σ t) (hw : LW G a bb o s sj t f H locs) (hl : lv_has ls 8 [(4, .int (qi i)), (3, .ref o), (2, .ref (bb 0)), (1, .ref (a 0)), (0, .ref b)]) (hc : cells + 1 ≤ 601024) (hs : slots + 6 ≤ 7293034)
    (kk : ∀ (σ' : Qσ) (sj' : SJ) (t' : SR) (f' : Nat → Int64) (H1 : Heap) (locs1 : List Loc) (ls1 : Array Slot), qRelJ σ' sj' → qRelR σ' t' → LW G a bb o s sj' t' f' H1 locs1 → lv_has ls1 8 [(4, .int (qi i)), (3, .ref o), (2, .ref (bb 0)), (1, .ref (a 0)), (0, .ref b)] → W p l e room_1 s m #[Value.ref b] below meth c H1 locs1 (cells + 1) (slots + 6) Q (F0 m 1190 ls1 [])) : W p l e room_1 s m #[Value.ref b] below meth c H locs cells slots Q (F0 m 993 ls []) := by
  obtain ⟨hx, hb, hml, hown, htl, hK, hsk, hX, hbl⟩ := C
  have hbA : ¬ (fun q : Nat => s.heap.size ≤ q) b := Nat.not_le.mpr hbl
  obtain ⟨hP, hD, hS⟩ := hw
  have n1 : vp_in (qi i + (1 : Int32)) L := ix_in hL hi 1 (by decide)
  obtain ⟨x1, e1⟩ : ∃ z, z = xs (qi i + (1 : Int32)).toNatClampNeg := ⟨_, rfl⟩
  obtain ⟨σ', v, s', t', ej, er, hJ', hR'⟩ := qq_move σ sj t hJ hR 300000 (Nat.le_of_ble_eq_true rfl) x1
  refine lv_aload_n hx hb d_law_993 rfl (lv_at hl 3 rfl) ?_
  refine lv_aload_n hx hb d_law_994 rfl (lv_at hl 4 rfl) ?_
  refine lv_iload hx hb d_law_995 (lv_at hl 0 rfl) ?_
  refine lv_iconst (v := (1 : Int32)) hx hb d_law_997 (by decide) ?_
  refine lv_iadd hx hb d_law_998 ?_
  refine va_sld hx hb hX hbl hbA hS n1 d_law_999 ?_
  refine lv_lit (y := x1) e1.symm ?_
  refine ap_l (u := []) (wc := WJ G a sj) (w1 := WJ G a s') (v := WR G bb t ++ [(o, aJ G 1 f)]) (As := [.int x1]) (rest := []) (ci := 11) (q0 := 0) hx hb hml hown htl (CJ_move l G Y a 300000 sj x1 v s'  ej) mv_J_move k_1065 ⟨rfl, rfl, Nat.le_of_ble_eq_true rfl, Nat.le_of_ble_eq_true rfl, Nat.le_of_succ_le hc, Nat.le_trans (Nat.le_add_right _ 6) hs⟩ hK hsk hS hP hD rfl (heJ G a sj _) (WJ_a G a sj s') rfl hl.1 rfl (lv_room (Nat.le_of_ble_eq_true rfl)) d_law_1000 (fun H locs hP hD hS => ?_)
  refine lv_aload_n hx hb d_law_1003 rfl (lv_at hl 2 rfl) ?_
  refine lv_aload_n hx hb d_law_1004 rfl (lv_at hl 4 rfl) ?_
  refine lv_iload hx hb d_law_1005 (lv_at hl 0 rfl) ?_
  refine lv_iconst (v := (1 : Int32)) hx hb d_law_1007 (by decide) ?_
  refine lv_iadd hx hb d_law_1008 ?_
  refine va_sld hx hb hX hbl hbA hS n1 d_law_1009 ?_
  refine lv_lit (y := x1) e1.symm ?_
  refine ap_l (u := WJ G a s') (wc := WR G bb t) (w1 := WR G bb t') (v := [(o, aJ G 1 f)]) (As := [.int x1]) (rest := [.long v]) (ci := 12) (q0 := 165) hx hb hml hown htl (CR_move l G Y bb 300000 t x1 v t'  er) mv_R_move k_1684 ⟨rfl, rfl, Nat.le_of_ble_eq_true rfl, Nat.le_of_ble_eq_true rfl, Nat.le_of_succ_le hc, Nat.le_trans (Nat.le_add_right _ 6) hs⟩ hK hsk hS hP hD rfl (heR G a s' bb t _) (WR_a G bb t t') rfl hl.1 rfl (lv_room (Nat.le_of_ble_eq_true rfl)) d_law_1010 (fun H locs hP hD hS => ?_)
  refine lx_eq (tgt := 1190) hx hb d_law_1013 d_law_1014 (by decide) (fun _ => ?_) (fun h => absurd rfl h)
  exact W.widen (Nat.le_succ _) (Nat.le_add_right _ 6) (kk σ' s' t' f H locs ls hJ' hR' ⟨hP, hD, hS⟩ hl)
set_option maxHeartbeats 4000000 in
set_option maxRecDepth 100000 in
theorem law_c25 {p : Program} {l : Launch} {e : Env} {s : State} {m : MethodId} {below : List Frame} {meth : Method} {c : Code} {b L : Nat} {xs : Nat → Int32} {G : va_G × (Nat → ClassId)} {Y : (Nat → Nat) × (Nat → Nat)} {a bb : Nat → Nat} {o : Nat} (C : LX p s m c b L xs G Y) (hL : L ≤ 2048) {i : Nat} (hi : i + 4 ≤ L) {σ : Qσ} {sj : SJ} {t : SR} {f : Nat → Int64} {H : Heap} {locs : List Loc} {ls : Array Slot} {cells slots : Nat} {Q : State → Prop} (hJ : qRelJ σ sj) (hR : qRelR σ t) (hw : LW G a bb o s sj t f H locs) (hl : lv_has ls 8 [(4, .int (qi i)), (3, .ref o), (2, .ref (bb 0)), (1, .ref (a 0)), (0, .ref b)]) (hc : cells + 1 ≤ 601024) (hs : slots + 6 ≤ 7293034)
    (kk : ∀ (σ' : Qσ) (sj' : SJ) (t' : SR) (f' : Nat → Int64) (H1 : Heap) (locs1 : List Loc) (ls1 : Array Slot), qRelJ σ' sj' → qRelR σ' t' → LW G a bb o s sj' t' f' H1 locs1 → lv_has ls1 8 [(4, .int (qi i)), (3, .ref o), (2, .ref (bb 0)), (1, .ref (a 0)), (0, .ref b)] → W p l e room_1 s m #[Value.ref b] below meth c H1 locs1 (cells + 1) (slots + 6) Q (F0 m 1190 ls1 [])) : W p l e room_1 s m #[Value.ref b] below meth c H locs cells slots Q (F0 m 1019 ls []) := by
  obtain ⟨hx, hb, hml, hown, htl, hK, hsk, hX, hbl⟩ := C
  have hbA : ¬ (fun q : Nat => s.heap.size ≤ q) b := Nat.not_le.mpr hbl
  obtain ⟨hP, hD, hS⟩ := hw
  obtain ⟨σ', v, s', t', ej, er, hJ', hR'⟩ := qq_steps σ sj t hJ hR 300000 (Nat.le_of_ble_eq_true rfl) 
  refine lv_aload_n hx hb d_law_1019 rfl (lv_at hl 3 rfl) ?_
  refine ap_i (u := []) (wc := WJ G a sj) (w1 := WJ G a s') (v := WR G bb t ++ [(o, aJ G 1 f)]) (As := []) (rest := []) (ci := 11) (q0 := 0) hx hb hml hown htl (CJ_steps l G Y a 300000 sj  v s'  ej) mv_J_steps k_1070 ⟨rfl, rfl, Nat.le_of_ble_eq_true rfl, Nat.le_of_ble_eq_true rfl, Nat.le_of_succ_le hc, Nat.le_trans (Nat.le_add_right _ 6) hs⟩ hK hsk hS hP hD rfl (heJ G a sj _) (WJ_a G a sj s') rfl hl.1 rfl (lv_room (Nat.le_of_ble_eq_true rfl)) d_law_1020 (fun H locs hP hD hS => ?_)
  refine lv_aload_n hx hb d_law_1023 rfl (lv_at hl 2 rfl) ?_
  refine ap_i (u := WJ G a s') (wc := WR G bb t) (w1 := WR G bb t') (v := [(o, aJ G 1 f)]) (As := []) (rest := [.int v]) (ci := 12) (q0 := 165) hx hb hml hown htl (CR_steps l G Y bb 300000 t  v t'  er) mv_R_steps k_1688 ⟨rfl, rfl, Nat.le_of_ble_eq_true rfl, Nat.le_of_ble_eq_true rfl, Nat.le_of_succ_le hc, Nat.le_trans (Nat.le_add_right _ 6) hs⟩ hK hsk hS hP hD rfl (heR G a s' bb t _) (WR_a G bb t t') rfl hl.1 rfl (lv_room (Nat.le_of_ble_eq_true rfl)) d_law_1024 (fun H locs hP hD hS => ?_)
  refine lv_icmp_eq (tgt := 1190) hx hb d_law_1027 (by decide) (fun _ => ?_) (fun h => absurd rfl h)
  exact W.widen (Nat.le_succ _) (Nat.le_add_right _ 6) (kk σ' s' t' f H locs ls hJ' hR' ⟨hP, hD, hS⟩ hl)
set_option maxHeartbeats 4000000 in
set_option maxRecDepth 100000 in
theorem law_c26 {p : Program} {l : Launch} {e : Env} {s : State} {m : MethodId} {below : List Frame} {meth : Method} {c : Code} {b L : Nat} {xs : Nat → Int32} {G : va_G × (Nat → ClassId)} {Y : (Nat → Nat) × (Nat → Nat)} {a bb : Nat → Nat} {o : Nat} (C : LX p s m c b L xs G Y) (hL : L ≤ 2048) {i : Nat} (hi : i + 4 ≤ L) {σ : Qσ} {sj : SJ} {t : SR} {f : Nat → Int64} {H : Heap} {locs : List Loc} {ls : Array Slot} {cells slots : Nat} {Q : State → Prop} (hJ : qRelJ σ sj) (hR : qRelR σ t) (hw : LW G a bb o s sj t f H locs) (hl : lv_has ls 8 [(4, .int (qi i)), (3, .ref o), (2, .ref (bb 0)), (1, .ref (a 0)), (0, .ref b)]) (hc : cells + 1 ≤ 601024) (hs : slots + 6 ≤ 7293034)
    (kk : ∀ (σ' : Qσ) (sj' : SJ) (t' : SR) (f' : Nat → Int64) (H1 : Heap) (locs1 : List Loc) (ls1 : Array Slot), qRelJ σ' sj' → qRelR σ' t' → LW G a bb o s sj' t' f' H1 locs1 → lv_has ls1 8 [(4, .int (qi i)), (3, .ref o), (2, .ref (bb 0)), (1, .ref (a 0)), (0, .ref b)] → W p l e room_1 s m #[Value.ref b] below meth c H1 locs1 (cells + 1) (slots + 6) Q (F0 m 1190 ls1 [])) : W p l e room_1 s m #[Value.ref b] below meth c H locs cells slots Q (F0 m 1032 ls []) := by
  obtain ⟨hx, hb, hml, hown, htl, hK, hsk, hX, hbl⟩ := C
  have hbA : ¬ (fun q : Nat => s.heap.size ≤ q) b := Nat.not_le.mpr hbl
  obtain ⟨hP, hD, hS⟩ := hw
  have n1 : vp_in (qi i + (1 : Int32)) L := ix_in hL hi 1 (by decide)
  obtain ⟨x1, e1⟩ : ∃ z, z = xs (qi i + (1 : Int32)).toNatClampNeg := ⟨_, rfl⟩
  have n2 : vp_in (qi i + (2 : Int32)) L := ix_in hL hi 2 (by decide)
  obtain ⟨x2, e2⟩ : ∃ z, z = xs (qi i + (2 : Int32)).toNatClampNeg := ⟨_, rfl⟩
  have n3 : vp_in (qi i + (3 : Int32)) L := ix_in hL hi 3 (by decide)
  obtain ⟨x3, e3⟩ : ∃ z, z = xs (qi i + (3 : Int32)).toNatClampNeg := ⟨_, rfl⟩
  by_cases z1 : x1 = 0
  · obtain ⟨σ', v, s', t', ej, er, hJ', hR'⟩ := qq_would σ sj t hJ hR 300000 (Nat.le_of_ble_eq_true rfl) (0 : Int32) x2 x3
    refine lv_aload_n hx hb d_law_1032 rfl (lv_at hl 3 rfl) ?_
    refine lv_aload_n hx hb d_law_1033 rfl (lv_at hl 4 rfl) ?_
    refine lv_iload hx hb d_law_1034 (lv_at hl 0 rfl) ?_
    refine lv_iconst (v := (1 : Int32)) hx hb d_law_1036 (by decide) ?_
    refine lv_iadd hx hb d_law_1037 ?_
    refine va_sld hx hb hX hbl hbA hS n1 d_law_1038 ?_
    refine lv_lit (y := x1) e1.symm ?_
    refine lv_if_eq (tgt := 1046) hx hb d_law_1039 (by decide) (fun _ => ?_) (fun h => absurd z1 h)
    refine lv_iconst (v := (0 : Int32)) hx hb d_law_1046 (by decide) ?_
    refine lv_aload_n hx hb d_law_1047 rfl (lv_at hl 4 rfl) ?_
    refine lv_iload hx hb d_law_1048 (lv_at hl 0 rfl) ?_
    refine lv_iconst (v := (2 : Int32)) hx hb d_law_1050 (by decide) ?_
    refine lv_iadd hx hb d_law_1051 ?_
    refine va_sld hx hb hX hbl hbA hS n2 d_law_1052 ?_
    refine lv_lit (y := x2) e2.symm ?_
    refine lv_aload_n hx hb d_law_1053 rfl (lv_at hl 4 rfl) ?_
    refine lv_iload hx hb d_law_1054 (lv_at hl 0 rfl) ?_
    refine lv_iconst (v := (3 : Int32)) hx hb d_law_1056 (by decide) ?_
    refine lv_iadd hx hb d_law_1057 ?_
    refine va_sld hx hb hX hbl hbA hS n3 d_law_1058 ?_
    refine lv_lit (y := x3) e3.symm ?_
    refine ap_l (u := []) (wc := WJ G a sj) (w1 := WJ G a s') (v := WR G bb t ++ [(o, aJ G 1 f)]) (As := [.int (0 : Int32), .int x2, .int x3]) (rest := []) (ci := 11) (q0 := 0) hx hb hml hown htl (CJ_would l G Y a 300000 sj (0 : Int32) x2 x3 v s'  ej) mv_J_would k_1075 ⟨rfl, rfl, Nat.le_of_ble_eq_true rfl, Nat.le_of_ble_eq_true rfl, Nat.le_of_succ_le hc, Nat.le_trans (Nat.le_add_right _ 6) hs⟩ hK hsk hS hP hD rfl (heJ G a sj _) (WJ_a G a sj s') rfl hl.1 rfl (lv_room (Nat.le_of_ble_eq_true rfl)) d_law_1059 (fun H locs hP hD hS => ?_)
    refine lv_aload_n hx hb d_law_1062 rfl (lv_at hl 2 rfl) ?_
    refine lv_aload_n hx hb d_law_1063 rfl (lv_at hl 4 rfl) ?_
    refine lv_iload hx hb d_law_1064 (lv_at hl 0 rfl) ?_
    refine lv_iconst (v := (1 : Int32)) hx hb d_law_1066 (by decide) ?_
    refine lv_iadd hx hb d_law_1067 ?_
    refine va_sld hx hb hX hbl hbA hS n1 d_law_1068 ?_
    refine lv_lit (y := x1) e1.symm ?_
    refine lv_if_eq (tgt := 1076) hx hb d_law_1069 (by decide) (fun _ => ?_) (fun h => absurd z1 h)
    refine lv_iconst (v := (0 : Int32)) hx hb d_law_1076 (by decide) ?_
    refine lv_aload_n hx hb d_law_1077 rfl (lv_at hl 4 rfl) ?_
    refine lv_iload hx hb d_law_1078 (lv_at hl 0 rfl) ?_
    refine lv_iconst (v := (2 : Int32)) hx hb d_law_1080 (by decide) ?_
    refine lv_iadd hx hb d_law_1081 ?_
    refine va_sld hx hb hX hbl hbA hS n2 d_law_1082 ?_
    refine lv_lit (y := x2) e2.symm ?_
    refine lv_aload_n hx hb d_law_1083 rfl (lv_at hl 4 rfl) ?_
    refine lv_iload hx hb d_law_1084 (lv_at hl 0 rfl) ?_
    refine lv_iconst (v := (3 : Int32)) hx hb d_law_1086 (by decide) ?_
    refine lv_iadd hx hb d_law_1087 ?_
    refine va_sld hx hb hX hbl hbA hS n3 d_law_1088 ?_
    refine lv_lit (y := x3) e3.symm ?_
    refine ap_l (u := WJ G a s') (wc := WR G bb t) (w1 := WR G bb t') (v := [(o, aJ G 1 f)]) (As := [.int (0 : Int32), .int x2, .int x3]) (rest := [.long v]) (ci := 12) (q0 := 165) hx hb hml hown htl (CR_would l G Y bb 300000 t (0 : Int32) x2 x3 v t'  er) mv_R_would k_1692 ⟨rfl, rfl, Nat.le_of_ble_eq_true rfl, Nat.le_of_ble_eq_true rfl, Nat.le_of_succ_le hc, Nat.le_trans (Nat.le_add_right _ 6) hs⟩ hK hsk hS hP hD rfl (heR G a s' bb t _) (WR_a G bb t t') rfl hl.1 rfl (lv_room (Nat.le_of_ble_eq_true rfl)) d_law_1089 (fun H locs hP hD hS => ?_)
    refine lx_eq (tgt := 1190) hx hb d_law_1092 d_law_1093 (by decide) (fun _ => ?_) (fun h => absurd rfl h)
    exact W.widen (Nat.le_succ _) (Nat.le_add_right _ 6) (kk σ' s' t' f H locs ls hJ' hR' ⟨hP, hD, hS⟩ hl)
  · obtain ⟨σ', v, s', t', ej, er, hJ', hR'⟩ := qq_would σ sj t hJ hR 300000 (Nat.le_of_ble_eq_true rfl) (1 : Int32) x2 x3
    refine lv_aload_n hx hb d_law_1032 rfl (lv_at hl 3 rfl) ?_
    refine lv_aload_n hx hb d_law_1033 rfl (lv_at hl 4 rfl) ?_
    refine lv_iload hx hb d_law_1034 (lv_at hl 0 rfl) ?_
    refine lv_iconst (v := (1 : Int32)) hx hb d_law_1036 (by decide) ?_
    refine lv_iadd hx hb d_law_1037 ?_
    refine va_sld hx hb hX hbl hbA hS n1 d_law_1038 ?_
    refine lv_lit (y := x1) e1.symm ?_
    refine lv_if_eq (tgt := 1046) hx hb d_law_1039 (by decide) (fun h => absurd h z1) (fun _ => ?_)
    refine lv_iconst (v := (1 : Int32)) hx hb d_law_1042 (by decide) ?_
    refine lv_goto (tgt := 1047) hx hb d_law_1043 (by decide) ?_
    refine lv_aload_n hx hb d_law_1047 rfl (lv_at hl 4 rfl) ?_
    refine lv_iload hx hb d_law_1048 (lv_at hl 0 rfl) ?_
    refine lv_iconst (v := (2 : Int32)) hx hb d_law_1050 (by decide) ?_
    refine lv_iadd hx hb d_law_1051 ?_
    refine va_sld hx hb hX hbl hbA hS n2 d_law_1052 ?_
    refine lv_lit (y := x2) e2.symm ?_
    refine lv_aload_n hx hb d_law_1053 rfl (lv_at hl 4 rfl) ?_
    refine lv_iload hx hb d_law_1054 (lv_at hl 0 rfl) ?_
    refine lv_iconst (v := (3 : Int32)) hx hb d_law_1056 (by decide) ?_
    refine lv_iadd hx hb d_law_1057 ?_
    refine va_sld hx hb hX hbl hbA hS n3 d_law_1058 ?_
    refine lv_lit (y := x3) e3.symm ?_
    refine ap_l (u := []) (wc := WJ G a sj) (w1 := WJ G a s') (v := WR G bb t ++ [(o, aJ G 1 f)]) (As := [.int (1 : Int32), .int x2, .int x3]) (rest := []) (ci := 11) (q0 := 0) hx hb hml hown htl (CJ_would l G Y a 300000 sj (1 : Int32) x2 x3 v s'  ej) mv_J_would k_1075 ⟨rfl, rfl, Nat.le_of_ble_eq_true rfl, Nat.le_of_ble_eq_true rfl, Nat.le_of_succ_le hc, Nat.le_trans (Nat.le_add_right _ 6) hs⟩ hK hsk hS hP hD rfl (heJ G a sj _) (WJ_a G a sj s') rfl hl.1 rfl (lv_room (Nat.le_of_ble_eq_true rfl)) d_law_1059 (fun H locs hP hD hS => ?_)
    refine lv_aload_n hx hb d_law_1062 rfl (lv_at hl 2 rfl) ?_
    refine lv_aload_n hx hb d_law_1063 rfl (lv_at hl 4 rfl) ?_
    refine lv_iload hx hb d_law_1064 (lv_at hl 0 rfl) ?_
    refine lv_iconst (v := (1 : Int32)) hx hb d_law_1066 (by decide) ?_
    refine lv_iadd hx hb d_law_1067 ?_
    refine va_sld hx hb hX hbl hbA hS n1 d_law_1068 ?_
    refine lv_lit (y := x1) e1.symm ?_
    refine lv_if_eq (tgt := 1076) hx hb d_law_1069 (by decide) (fun h => absurd h z1) (fun _ => ?_)
    refine lv_iconst (v := (1 : Int32)) hx hb d_law_1072 (by decide) ?_
    refine lv_goto (tgt := 1077) hx hb d_law_1073 (by decide) ?_
    refine lv_aload_n hx hb d_law_1077 rfl (lv_at hl 4 rfl) ?_
    refine lv_iload hx hb d_law_1078 (lv_at hl 0 rfl) ?_
    refine lv_iconst (v := (2 : Int32)) hx hb d_law_1080 (by decide) ?_
    refine lv_iadd hx hb d_law_1081 ?_
    refine va_sld hx hb hX hbl hbA hS n2 d_law_1082 ?_
    refine lv_lit (y := x2) e2.symm ?_
    refine lv_aload_n hx hb d_law_1083 rfl (lv_at hl 4 rfl) ?_
    refine lv_iload hx hb d_law_1084 (lv_at hl 0 rfl) ?_
    refine lv_iconst (v := (3 : Int32)) hx hb d_law_1086 (by decide) ?_
    refine lv_iadd hx hb d_law_1087 ?_
    refine va_sld hx hb hX hbl hbA hS n3 d_law_1088 ?_
    refine lv_lit (y := x3) e3.symm ?_
    refine ap_l (u := WJ G a s') (wc := WR G bb t) (w1 := WR G bb t') (v := [(o, aJ G 1 f)]) (As := [.int (1 : Int32), .int x2, .int x3]) (rest := [.long v]) (ci := 12) (q0 := 165) hx hb hml hown htl (CR_would l G Y bb 300000 t (1 : Int32) x2 x3 v t'  er) mv_R_would k_1692 ⟨rfl, rfl, Nat.le_of_ble_eq_true rfl, Nat.le_of_ble_eq_true rfl, Nat.le_of_succ_le hc, Nat.le_trans (Nat.le_add_right _ 6) hs⟩ hK hsk hS hP hD rfl (heR G a s' bb t _) (WR_a G bb t t') rfl hl.1 rfl (lv_room (Nat.le_of_ble_eq_true rfl)) d_law_1089 (fun H locs hP hD hS => ?_)
    refine lx_eq (tgt := 1190) hx hb d_law_1092 d_law_1093 (by decide) (fun _ => ?_) (fun h => absurd rfl h)
    exact W.widen (Nat.le_succ _) (Nat.le_add_right _ 6) (kk σ' s' t' f H locs ls hJ' hR' ⟨hP, hD, hS⟩ hl)
set_option maxHeartbeats 4000000 in
set_option maxRecDepth 100000 in
theorem law_c27 {p : Program} {l : Launch} {e : Env} {s : State} {m : MethodId} {below : List Frame} {meth : Method} {c : Code} {b L : Nat} {xs : Nat → Int32} {G : va_G × (Nat → ClassId)} {Y : (Nat → Nat) × (Nat → Nat)} {a bb : Nat → Nat} {o : Nat} (C : LX p s m c b L xs G Y) (hL : L ≤ 2048) {i : Nat} (hi : i + 4 ≤ L) {σ : Qσ} {sj : SJ} {t : SR} {f : Nat → Int64} {H : Heap} {locs : List Loc} {ls : Array Slot} {cells slots : Nat} {Q : State → Prop} (hJ : qRelJ σ sj) (hR : qRelR σ t) (hw : LW G a bb o s sj t f H locs) (hl : lv_has ls 8 [(4, .int (qi i)), (3, .ref o), (2, .ref (bb 0)), (1, .ref (a 0)), (0, .ref b)]) (hc : cells + 1 ≤ 601024) (hs : slots + 6 ≤ 7293034)
    (kk : ∀ (σ' : Qσ) (sj' : SJ) (t' : SR) (f' : Nat → Int64) (H1 : Heap) (locs1 : List Loc) (ls1 : Array Slot), qRelJ σ' sj' → qRelR σ' t' → LW G a bb o s sj' t' f' H1 locs1 → lv_has ls1 8 [(4, .int (qi i)), (3, .ref o), (2, .ref (bb 0)), (1, .ref (a 0)), (0, .ref b)] → W p l e room_1 s m #[Value.ref b] below meth c H1 locs1 (cells + 1) (slots + 6) Q (F0 m 1190 ls1 [])) : W p l e room_1 s m #[Value.ref b] below meth c H locs cells slots Q (F0 m 1098 ls []) := by
  obtain ⟨hx, hb, hml, hown, htl, hK, hsk, hX, hbl⟩ := C
  have hbA : ¬ (fun q : Nat => s.heap.size ≤ q) b := Nat.not_le.mpr hbl
  obtain ⟨hP, hD, hS⟩ := hw
  have n1 : vp_in (qi i + (1 : Int32)) L := ix_in hL hi 1 (by decide)
  obtain ⟨x1, e1⟩ : ∃ z, z = xs (qi i + (1 : Int32)).toNatClampNeg := ⟨_, rfl⟩
  by_cases z1 : x1 = 0
  · obtain ⟨σ', v, s', t', ej, er, hJ', hR'⟩ := qq_needed σ sj t hJ hR 300000 (Nat.le_of_ble_eq_true rfl) (0 : Int32)
    refine lv_aload_n hx hb d_law_1098 rfl (lv_at hl 3 rfl) ?_
    refine lv_aload_n hx hb d_law_1099 rfl (lv_at hl 4 rfl) ?_
    refine lv_iload hx hb d_law_1100 (lv_at hl 0 rfl) ?_
    refine lv_iconst (v := (1 : Int32)) hx hb d_law_1102 (by decide) ?_
    refine lv_iadd hx hb d_law_1103 ?_
    refine va_sld hx hb hX hbl hbA hS n1 d_law_1104 ?_
    refine lv_lit (y := x1) e1.symm ?_
    refine lv_if_eq (tgt := 1112) hx hb d_law_1105 (by decide) (fun _ => ?_) (fun h => absurd z1 h)
    refine lv_iconst (v := (0 : Int32)) hx hb d_law_1112 (by decide) ?_
    refine ap_l (u := []) (wc := WJ G a sj) (w1 := WJ G a s') (v := WR G bb t ++ [(o, aJ G 1 f)]) (As := [.int (0 : Int32)]) (rest := []) (ci := 11) (q0 := 0) hx hb hml hown htl (CJ_needed l G Y a 300000 sj (0 : Int32) v s'  ej) mv_J_needed k_1083 ⟨rfl, rfl, Nat.le_of_ble_eq_true rfl, Nat.le_of_ble_eq_true rfl, Nat.le_of_succ_le hc, Nat.le_trans (Nat.le_add_right _ 6) hs⟩ hK hsk hS hP hD rfl (heJ G a sj _) (WJ_a G a sj s') rfl hl.1 rfl (lv_room (Nat.le_of_ble_eq_true rfl)) d_law_1113 (fun H locs hP hD hS => ?_)
    refine lv_aload_n hx hb d_law_1116 rfl (lv_at hl 2 rfl) ?_
    refine lv_aload_n hx hb d_law_1117 rfl (lv_at hl 4 rfl) ?_
    refine lv_iload hx hb d_law_1118 (lv_at hl 0 rfl) ?_
    refine lv_iconst (v := (1 : Int32)) hx hb d_law_1120 (by decide) ?_
    refine lv_iadd hx hb d_law_1121 ?_
    refine va_sld hx hb hX hbl hbA hS n1 d_law_1122 ?_
    refine lv_lit (y := x1) e1.symm ?_
    refine lv_if_eq (tgt := 1130) hx hb d_law_1123 (by decide) (fun _ => ?_) (fun h => absurd z1 h)
    refine lv_iconst (v := (0 : Int32)) hx hb d_law_1130 (by decide) ?_
    refine ap_l (u := WJ G a s') (wc := WR G bb t) (w1 := WR G bb t') (v := [(o, aJ G 1 f)]) (As := [.int (0 : Int32)]) (rest := [.long v]) (ci := 12) (q0 := 165) hx hb hml hown htl (CR_needed l G Y bb 300000 t (0 : Int32) v t'  er) mv_R_needed k_1700 ⟨rfl, rfl, Nat.le_of_ble_eq_true rfl, Nat.le_of_ble_eq_true rfl, Nat.le_of_succ_le hc, Nat.le_trans (Nat.le_add_right _ 6) hs⟩ hK hsk hS hP hD rfl (heR G a s' bb t _) (WR_a G bb t t') rfl hl.1 rfl (lv_room (Nat.le_of_ble_eq_true rfl)) d_law_1131 (fun H locs hP hD hS => ?_)
    refine lx_eq (tgt := 1190) hx hb d_law_1134 d_law_1135 (by decide) (fun _ => ?_) (fun h => absurd rfl h)
    exact W.widen (Nat.le_succ _) (Nat.le_add_right _ 6) (kk σ' s' t' f H locs ls hJ' hR' ⟨hP, hD, hS⟩ hl)
  · obtain ⟨σ', v, s', t', ej, er, hJ', hR'⟩ := qq_needed σ sj t hJ hR 300000 (Nat.le_of_ble_eq_true rfl) (1 : Int32)
    refine lv_aload_n hx hb d_law_1098 rfl (lv_at hl 3 rfl) ?_
    refine lv_aload_n hx hb d_law_1099 rfl (lv_at hl 4 rfl) ?_
    refine lv_iload hx hb d_law_1100 (lv_at hl 0 rfl) ?_
    refine lv_iconst (v := (1 : Int32)) hx hb d_law_1102 (by decide) ?_
    refine lv_iadd hx hb d_law_1103 ?_
    refine va_sld hx hb hX hbl hbA hS n1 d_law_1104 ?_
    refine lv_lit (y := x1) e1.symm ?_
    refine lv_if_eq (tgt := 1112) hx hb d_law_1105 (by decide) (fun h => absurd h z1) (fun _ => ?_)
    refine lv_iconst (v := (1 : Int32)) hx hb d_law_1108 (by decide) ?_
    refine lv_goto (tgt := 1113) hx hb d_law_1109 (by decide) ?_
    refine ap_l (u := []) (wc := WJ G a sj) (w1 := WJ G a s') (v := WR G bb t ++ [(o, aJ G 1 f)]) (As := [.int (1 : Int32)]) (rest := []) (ci := 11) (q0 := 0) hx hb hml hown htl (CJ_needed l G Y a 300000 sj (1 : Int32) v s'  ej) mv_J_needed k_1083 ⟨rfl, rfl, Nat.le_of_ble_eq_true rfl, Nat.le_of_ble_eq_true rfl, Nat.le_of_succ_le hc, Nat.le_trans (Nat.le_add_right _ 6) hs⟩ hK hsk hS hP hD rfl (heJ G a sj _) (WJ_a G a sj s') rfl hl.1 rfl (lv_room (Nat.le_of_ble_eq_true rfl)) d_law_1113 (fun H locs hP hD hS => ?_)
    refine lv_aload_n hx hb d_law_1116 rfl (lv_at hl 2 rfl) ?_
    refine lv_aload_n hx hb d_law_1117 rfl (lv_at hl 4 rfl) ?_
    refine lv_iload hx hb d_law_1118 (lv_at hl 0 rfl) ?_
    refine lv_iconst (v := (1 : Int32)) hx hb d_law_1120 (by decide) ?_
    refine lv_iadd hx hb d_law_1121 ?_
    refine va_sld hx hb hX hbl hbA hS n1 d_law_1122 ?_
    refine lv_lit (y := x1) e1.symm ?_
    refine lv_if_eq (tgt := 1130) hx hb d_law_1123 (by decide) (fun h => absurd h z1) (fun _ => ?_)
    refine lv_iconst (v := (1 : Int32)) hx hb d_law_1126 (by decide) ?_
    refine lv_goto (tgt := 1131) hx hb d_law_1127 (by decide) ?_
    refine ap_l (u := WJ G a s') (wc := WR G bb t) (w1 := WR G bb t') (v := [(o, aJ G 1 f)]) (As := [.int (1 : Int32)]) (rest := [.long v]) (ci := 12) (q0 := 165) hx hb hml hown htl (CR_needed l G Y bb 300000 t (1 : Int32) v t'  er) mv_R_needed k_1700 ⟨rfl, rfl, Nat.le_of_ble_eq_true rfl, Nat.le_of_ble_eq_true rfl, Nat.le_of_succ_le hc, Nat.le_trans (Nat.le_add_right _ 6) hs⟩ hK hsk hS hP hD rfl (heR G a s' bb t _) (WR_a G bb t t') rfl hl.1 rfl (lv_room (Nat.le_of_ble_eq_true rfl)) d_law_1131 (fun H locs hP hD hS => ?_)
    refine lx_eq (tgt := 1190) hx hb d_law_1134 d_law_1135 (by decide) (fun _ => ?_) (fun h => absurd rfl h)
    exact W.widen (Nat.le_succ _) (Nat.le_add_right _ 6) (kk σ' s' t' f H locs ls hJ' hR' ⟨hP, hD, hS⟩ hl)
set_option maxHeartbeats 4000000 in
set_option maxRecDepth 100000 in
theorem law_c28 {p : Program} {l : Launch} {e : Env} {s : State} {m : MethodId} {below : List Frame} {meth : Method} {c : Code} {b L : Nat} {xs : Nat → Int32} {G : va_G × (Nat → ClassId)} {Y : (Nat → Nat) × (Nat → Nat)} {a bb : Nat → Nat} {o : Nat} (C : LX p s m c b L xs G Y) (hL : L ≤ 2048) {i : Nat} (hi : i + 4 ≤ L) {σ : Qσ} {sj : SJ} {t : SR} {f : Nat → Int64} {H : Heap} {locs : List Loc} {ls : Array Slot} {cells slots : Nat} {Q : State → Prop} (hJ : qRelJ σ sj) (hR : qRelR σ t) (hw : LW G a bb o s sj t f H locs) (hl : lv_has ls 8 [(4, .int (qi i)), (3, .ref o), (2, .ref (bb 0)), (1, .ref (a 0)), (0, .ref b)]) (hc : cells + 1 ≤ 601024) (hs : slots + 6 ≤ 7293034)
    (kk : ∀ (σ' : Qσ) (sj' : SJ) (t' : SR) (f' : Nat → Int64) (H1 : Heap) (locs1 : List Loc) (ls1 : Array Slot), qRelJ σ' sj' → qRelR σ' t' → LW G a bb o s sj' t' f' H1 locs1 → lv_has ls1 8 [(4, .int (qi i)), (3, .ref o), (2, .ref (bb 0)), (1, .ref (a 0)), (0, .ref b)] → W p l e room_1 s m #[Value.ref b] below meth c H1 locs1 (cells + 1) (slots + 6) Q (F0 m 1190 ls1 [])) : W p l e room_1 s m #[Value.ref b] below meth c H locs cells slots Q (F0 m 1140 ls []) := by
  obtain ⟨hx, hb, hml, hown, htl, hK, hsk, hX, hbl⟩ := C
  have hbA : ¬ (fun q : Nat => s.heap.size ≤ q) b := Nat.not_le.mpr hbl
  obtain ⟨hP, hD, hS⟩ := hw
  have n1 : vp_in (qi i + (1 : Int32)) L := ix_in hL hi 1 (by decide)
  obtain ⟨x1, e1⟩ : ∃ z, z = xs (qi i + (1 : Int32)).toNatClampNeg := ⟨_, rfl⟩
  by_cases hq : qin 0 2 x1 = true
  · rcases (q_in02 x1).mp hq with rfl | rfl | rfl
    · obtain ⟨σ', v, s', t', ej, er, hJ', hR'⟩ := qq_image σ sj t hJ hR 300000 (Nat.le_of_ble_eq_true rfl) 0 (by decide)
      refine lv_aload_n hx hb d_law_1140 rfl (lv_at hl 3 rfl) ?_
      refine lv_aload_n hx hb d_law_1141 rfl (lv_at hl 4 rfl) ?_
      refine lv_iload hx hb d_law_1142 (lv_at hl 0 rfl) ?_
      refine lv_iconst (v := (1 : Int32)) hx hb d_law_1144 (by decide) ?_
      refine lv_iadd hx hb d_law_1145 ?_
      refine va_sld hx hb hX hbl hbA hS n1 d_law_1146 ?_
      refine lv_lit (y := (0 : Int32)) e1.symm ?_
      refine ap_i (u := []) (wc := WJ G a sj) (w1 := WJ G a s') (v := WR G bb t ++ [(o, aJ G 1 f)]) (As := [.int (0 : Int32)]) (rest := []) (ci := 11) (q0 := 0) hx hb hml hown htl (CJ_image0 l G Y a 300000 sj  v s'  ej) mv_J_image k_1087 ⟨rfl, rfl, Nat.le_of_ble_eq_true rfl, Nat.le_of_ble_eq_true rfl, Nat.le_of_succ_le hc, Nat.le_trans (Nat.le_add_right _ 6) hs⟩ hK hsk hS hP hD rfl (heJ G a sj _) (WJ_a G a sj s') rfl hl.1 rfl (lv_room (Nat.le_of_ble_eq_true rfl)) d_law_1147 (fun H locs hP hD hS => ?_)
      refine lv_aload_n hx hb d_law_1150 rfl (lv_at hl 2 rfl) ?_
      refine lv_aload_n hx hb d_law_1151 rfl (lv_at hl 4 rfl) ?_
      refine lv_iload hx hb d_law_1152 (lv_at hl 0 rfl) ?_
      refine lv_iconst (v := (1 : Int32)) hx hb d_law_1154 (by decide) ?_
      refine lv_iadd hx hb d_law_1155 ?_
      refine va_sld hx hb hX hbl hbA hS n1 d_law_1156 ?_
      refine lv_lit (y := (0 : Int32)) e1.symm ?_
      refine ap_i (u := WJ G a s') (wc := WR G bb t) (w1 := WR G bb t') (v := [(o, aJ G 1 f)]) (As := [.int (0 : Int32)]) (rest := [.int v]) (ci := 12) (q0 := 165) hx hb hml hown htl (CR_image l G Y bb 300000 t (0 : Int32) v t'  er) mv_R_image k_1704 ⟨rfl, rfl, Nat.le_of_ble_eq_true rfl, Nat.le_of_ble_eq_true rfl, Nat.le_of_succ_le hc, Nat.le_trans (Nat.le_add_right _ 6) hs⟩ hK hsk hS hP hD rfl (heR G a s' bb t _) (WR_a G bb t t') rfl hl.1 rfl (lv_room (Nat.le_of_ble_eq_true rfl)) d_law_1157 (fun H locs hP hD hS => ?_)
      refine lv_icmp_eq (tgt := 1190) hx hb d_law_1160 (by decide) (fun _ => ?_) (fun h => absurd rfl h)
      exact W.widen (Nat.le_succ _) (Nat.le_add_right _ 6) (kk σ' s' t' f H locs ls hJ' hR' ⟨hP, hD, hS⟩ hl)
    · obtain ⟨σ', v, s', t', ej, er, hJ', hR'⟩ := qq_image σ sj t hJ hR 300000 (Nat.le_of_ble_eq_true rfl) 1 (by decide)
      refine lv_aload_n hx hb d_law_1140 rfl (lv_at hl 3 rfl) ?_
      refine lv_aload_n hx hb d_law_1141 rfl (lv_at hl 4 rfl) ?_
      refine lv_iload hx hb d_law_1142 (lv_at hl 0 rfl) ?_
      refine lv_iconst (v := (1 : Int32)) hx hb d_law_1144 (by decide) ?_
      refine lv_iadd hx hb d_law_1145 ?_
      refine va_sld hx hb hX hbl hbA hS n1 d_law_1146 ?_
      refine lv_lit (y := (1 : Int32)) e1.symm ?_
      refine ap_i (u := []) (wc := WJ G a sj) (w1 := WJ G a s') (v := WR G bb t ++ [(o, aJ G 1 f)]) (As := [.int (1 : Int32)]) (rest := []) (ci := 11) (q0 := 0) hx hb hml hown htl (CJ_image1 l G Y a 300000 sj  v s'  ej) mv_J_image k_1087 ⟨rfl, rfl, Nat.le_of_ble_eq_true rfl, Nat.le_of_ble_eq_true rfl, Nat.le_of_succ_le hc, Nat.le_trans (Nat.le_add_right _ 6) hs⟩ hK hsk hS hP hD rfl (heJ G a sj _) (WJ_a G a sj s') rfl hl.1 rfl (lv_room (Nat.le_of_ble_eq_true rfl)) d_law_1147 (fun H locs hP hD hS => ?_)
      refine lv_aload_n hx hb d_law_1150 rfl (lv_at hl 2 rfl) ?_
      refine lv_aload_n hx hb d_law_1151 rfl (lv_at hl 4 rfl) ?_
      refine lv_iload hx hb d_law_1152 (lv_at hl 0 rfl) ?_
      refine lv_iconst (v := (1 : Int32)) hx hb d_law_1154 (by decide) ?_
      refine lv_iadd hx hb d_law_1155 ?_
      refine va_sld hx hb hX hbl hbA hS n1 d_law_1156 ?_
      refine lv_lit (y := (1 : Int32)) e1.symm ?_
      refine ap_i (u := WJ G a s') (wc := WR G bb t) (w1 := WR G bb t') (v := [(o, aJ G 1 f)]) (As := [.int (1 : Int32)]) (rest := [.int v]) (ci := 12) (q0 := 165) hx hb hml hown htl (CR_image l G Y bb 300000 t (1 : Int32) v t'  er) mv_R_image k_1704 ⟨rfl, rfl, Nat.le_of_ble_eq_true rfl, Nat.le_of_ble_eq_true rfl, Nat.le_of_succ_le hc, Nat.le_trans (Nat.le_add_right _ 6) hs⟩ hK hsk hS hP hD rfl (heR G a s' bb t _) (WR_a G bb t t') rfl hl.1 rfl (lv_room (Nat.le_of_ble_eq_true rfl)) d_law_1157 (fun H locs hP hD hS => ?_)
      refine lv_icmp_eq (tgt := 1190) hx hb d_law_1160 (by decide) (fun _ => ?_) (fun h => absurd rfl h)
      exact W.widen (Nat.le_succ _) (Nat.le_add_right _ 6) (kk σ' s' t' f H locs ls hJ' hR' ⟨hP, hD, hS⟩ hl)
    · obtain ⟨σ', v, s', t', ej, er, hJ', hR'⟩ := qq_image σ sj t hJ hR 300000 (Nat.le_of_ble_eq_true rfl) 2 (by decide)
      refine lv_aload_n hx hb d_law_1140 rfl (lv_at hl 3 rfl) ?_
      refine lv_aload_n hx hb d_law_1141 rfl (lv_at hl 4 rfl) ?_
      refine lv_iload hx hb d_law_1142 (lv_at hl 0 rfl) ?_
      refine lv_iconst (v := (1 : Int32)) hx hb d_law_1144 (by decide) ?_
      refine lv_iadd hx hb d_law_1145 ?_
      refine va_sld hx hb hX hbl hbA hS n1 d_law_1146 ?_
      refine lv_lit (y := (2 : Int32)) e1.symm ?_
      refine ap_i (u := []) (wc := WJ G a sj) (w1 := WJ G a s') (v := WR G bb t ++ [(o, aJ G 1 f)]) (As := [.int (2 : Int32)]) (rest := []) (ci := 11) (q0 := 0) hx hb hml hown htl (CJ_image2 l G Y a 300000 sj  v s'  ej) mv_J_image k_1087 ⟨rfl, rfl, Nat.le_of_ble_eq_true rfl, Nat.le_of_ble_eq_true rfl, Nat.le_of_succ_le hc, Nat.le_trans (Nat.le_add_right _ 6) hs⟩ hK hsk hS hP hD rfl (heJ G a sj _) (WJ_a G a sj s') rfl hl.1 rfl (lv_room (Nat.le_of_ble_eq_true rfl)) d_law_1147 (fun H locs hP hD hS => ?_)
      refine lv_aload_n hx hb d_law_1150 rfl (lv_at hl 2 rfl) ?_
      refine lv_aload_n hx hb d_law_1151 rfl (lv_at hl 4 rfl) ?_
      refine lv_iload hx hb d_law_1152 (lv_at hl 0 rfl) ?_
      refine lv_iconst (v := (1 : Int32)) hx hb d_law_1154 (by decide) ?_
      refine lv_iadd hx hb d_law_1155 ?_
      refine va_sld hx hb hX hbl hbA hS n1 d_law_1156 ?_
      refine lv_lit (y := (2 : Int32)) e1.symm ?_
      refine ap_i (u := WJ G a s') (wc := WR G bb t) (w1 := WR G bb t') (v := [(o, aJ G 1 f)]) (As := [.int (2 : Int32)]) (rest := [.int v]) (ci := 12) (q0 := 165) hx hb hml hown htl (CR_image l G Y bb 300000 t (2 : Int32) v t'  er) mv_R_image k_1704 ⟨rfl, rfl, Nat.le_of_ble_eq_true rfl, Nat.le_of_ble_eq_true rfl, Nat.le_of_succ_le hc, Nat.le_trans (Nat.le_add_right _ 6) hs⟩ hK hsk hS hP hD rfl (heR G a s' bb t _) (WR_a G bb t t') rfl hl.1 rfl (lv_room (Nat.le_of_ble_eq_true rfl)) d_law_1157 (fun H locs hP hD hS => ?_)
      refine lv_icmp_eq (tgt := 1190) hx hb d_law_1160 (by decide) (fun _ => ?_) (fun h => absurd rfl h)
      exact W.widen (Nat.le_succ _) (Nat.le_add_right _ 6) (kk σ' s' t' f H locs ls hJ' hR' ⟨hP, hD, hS⟩ hl)
  · obtain ⟨σ', v, s', t', ej, er, hJ', hR'⟩ := qq_image_no σ sj t hJ hR 300000 (Nat.le_of_ble_eq_true rfl) x1 (by simpa using hq)
    refine lv_aload_n hx hb d_law_1140 rfl (lv_at hl 3 rfl) ?_
    refine lv_aload_n hx hb d_law_1141 rfl (lv_at hl 4 rfl) ?_
    refine lv_iload hx hb d_law_1142 (lv_at hl 0 rfl) ?_
    refine lv_iconst (v := (1 : Int32)) hx hb d_law_1144 (by decide) ?_
    refine lv_iadd hx hb d_law_1145 ?_
    refine va_sld hx hb hX hbl hbA hS n1 d_law_1146 ?_
    refine lv_lit (y := x1) e1.symm ?_
    refine ap_i (u := []) (wc := WJ G a sj) (w1 := WJ G a s') (v := WR G bb t ++ [(o, aJ G 1 f)]) (As := [.int x1]) (rest := []) (ci := 11) (q0 := 0) hx hb hml hown htl (CJ_imageR l G Y a 300000 sj x1 v s'  ej) mv_J_image k_1087 ⟨rfl, rfl, Nat.le_of_ble_eq_true rfl, Nat.le_of_ble_eq_true rfl, Nat.le_of_succ_le hc, Nat.le_trans (Nat.le_add_right _ 6) hs⟩ hK hsk hS hP hD rfl (heJ G a sj _) (WJ_a G a sj s') rfl hl.1 rfl (lv_room (Nat.le_of_ble_eq_true rfl)) d_law_1147 (fun H locs hP hD hS => ?_)
    refine lv_aload_n hx hb d_law_1150 rfl (lv_at hl 2 rfl) ?_
    refine lv_aload_n hx hb d_law_1151 rfl (lv_at hl 4 rfl) ?_
    refine lv_iload hx hb d_law_1152 (lv_at hl 0 rfl) ?_
    refine lv_iconst (v := (1 : Int32)) hx hb d_law_1154 (by decide) ?_
    refine lv_iadd hx hb d_law_1155 ?_
    refine va_sld hx hb hX hbl hbA hS n1 d_law_1156 ?_
    refine lv_lit (y := x1) e1.symm ?_
    refine ap_i (u := WJ G a s') (wc := WR G bb t) (w1 := WR G bb t') (v := [(o, aJ G 1 f)]) (As := [.int x1]) (rest := [.int v]) (ci := 12) (q0 := 165) hx hb hml hown htl (CR_image l G Y bb 300000 t x1 v t'  er) mv_R_image k_1704 ⟨rfl, rfl, Nat.le_of_ble_eq_true rfl, Nat.le_of_ble_eq_true rfl, Nat.le_of_succ_le hc, Nat.le_trans (Nat.le_add_right _ 6) hs⟩ hK hsk hS hP hD rfl (heR G a s' bb t _) (WR_a G bb t t') rfl hl.1 rfl (lv_room (Nat.le_of_ble_eq_true rfl)) d_law_1157 (fun H locs hP hD hS => ?_)
    refine lv_icmp_eq (tgt := 1190) hx hb d_law_1160 (by decide) (fun _ => ?_) (fun h => absurd rfl h)
    exact W.widen (Nat.le_succ _) (Nat.le_add_right _ 6) (kk σ' s' t' f H locs ls hJ' hR' ⟨hP, hD, hS⟩ hl)
set_option maxHeartbeats 4000000 in
set_option maxRecDepth 100000 in
theorem law_c29 {p : Program} {l : Launch} {e : Env} {s : State} {m : MethodId} {below : List Frame} {meth : Method} {c : Code} {b L : Nat} {xs : Nat → Int32} {G : va_G × (Nat → ClassId)} {Y : (Nat → Nat) × (Nat → Nat)} {a bb : Nat → Nat} {o : Nat} (C : LX p s m c b L xs G Y) (hL : L ≤ 2048) {i : Nat} (hi : i + 4 ≤ L) {σ : Qσ} {sj : SJ} {t : SR} {f : Nat → Int64} {H : Heap} {locs : List Loc} {ls : Array Slot} {cells slots : Nat} {Q : State → Prop} (hJ : qRelJ σ sj) (hR : qRelR σ t) (hw : LW G a bb o s sj t f H locs) (hl : lv_has ls 8 [(4, .int (qi i)), (3, .ref o), (2, .ref (bb 0)), (1, .ref (a 0)), (0, .ref b)]) (hc : cells + 1 ≤ 601024) (hs : slots + 6 ≤ 7293034)
    (kk : ∀ (σ' : Qσ) (sj' : SJ) (t' : SR) (f' : Nat → Int64) (H1 : Heap) (locs1 : List Loc) (ls1 : Array Slot), qRelJ σ' sj' → qRelR σ' t' → LW G a bb o s sj' t' f' H1 locs1 → lv_has ls1 8 [(4, .int (qi i)), (3, .ref o), (2, .ref (bb 0)), (1, .ref (a 0)), (0, .ref b)] → W p l e room_1 s m #[Value.ref b] below meth c H1 locs1 (cells + 1) (slots + 6) Q (F0 m 1190 ls1 [])) : W p l e room_1 s m #[Value.ref b] below meth c H locs cells slots Q (F0 m 1165 ls []) := by
  obtain ⟨hx, hb, hml, hown, htl, hK, hsk, hX, hbl⟩ := C
  have hbA : ¬ (fun q : Nat => s.heap.size ≤ q) b := Nat.not_le.mpr hbl
  obtain ⟨hP, hD, hS⟩ := hw
  have n1 : vp_in (qi i + (1 : Int32)) L := ix_in hL hi 1 (by decide)
  obtain ⟨x1, e1⟩ : ∃ z, z = xs (qi i + (1 : Int32)).toNatClampNeg := ⟨_, rfl⟩
  by_cases hq : qin 0 2 x1 = true
  · rcases (q_in02 x1).mp hq with rfl | rfl | rfl
    · obtain ⟨σ', v, s', t', ej, er, hJ', hR'⟩ := qq_again σ sj t hJ hR 300000 (Nat.le_of_ble_eq_true rfl) 0 (by decide)
      refine lv_aload_n hx hb d_law_1165 rfl (lv_at hl 3 rfl) ?_
      refine lv_aload_n hx hb d_law_1166 rfl (lv_at hl 4 rfl) ?_
      refine lv_iload hx hb d_law_1167 (lv_at hl 0 rfl) ?_
      refine lv_iconst (v := (1 : Int32)) hx hb d_law_1169 (by decide) ?_
      refine lv_iadd hx hb d_law_1170 ?_
      refine va_sld hx hb hX hbl hbA hS n1 d_law_1171 ?_
      refine lv_lit (y := (0 : Int32)) e1.symm ?_
      refine ap_i (u := []) (wc := WJ G a sj) (w1 := WJ G a s') (v := WR G bb t ++ [(o, aJ G 1 f)]) (As := [.int (0 : Int32)]) (rest := []) (ci := 11) (q0 := 0) hx hb hml hown htl (CJ_again0 l G Y a 300000 sj  v s'  ej) mv_J_again k_1102 ⟨rfl, rfl, Nat.le_of_ble_eq_true rfl, Nat.le_of_ble_eq_true rfl, Nat.le_of_succ_le hc, Nat.le_trans (Nat.le_add_right _ 6) hs⟩ hK hsk hS hP hD rfl (heJ G a sj _) (WJ_a G a sj s') rfl hl.1 rfl (lv_room (Nat.le_of_ble_eq_true rfl)) d_law_1172 (fun H locs hP hD hS => ?_)
      refine lv_aload_n hx hb d_law_1175 rfl (lv_at hl 2 rfl) ?_
      refine lv_aload_n hx hb d_law_1176 rfl (lv_at hl 4 rfl) ?_
      refine lv_iload hx hb d_law_1177 (lv_at hl 0 rfl) ?_
      refine lv_iconst (v := (1 : Int32)) hx hb d_law_1179 (by decide) ?_
      refine lv_iadd hx hb d_law_1180 ?_
      refine va_sld hx hb hX hbl hbA hS n1 d_law_1181 ?_
      refine lv_lit (y := (0 : Int32)) e1.symm ?_
      refine ap_i (u := WJ G a s') (wc := WR G bb t) (w1 := WR G bb t') (v := [(o, aJ G 1 f)]) (As := [.int (0 : Int32)]) (rest := [.int v]) (ci := 12) (q0 := 165) hx hb hml hown htl (CR_again l G Y bb 300000 t (0 : Int32) v t'  er) mv_R_again k_1716 ⟨rfl, rfl, Nat.le_of_ble_eq_true rfl, Nat.le_of_ble_eq_true rfl, Nat.le_of_succ_le hc, Nat.le_trans (Nat.le_add_right _ 6) hs⟩ hK hsk hS hP hD rfl (heR G a s' bb t _) (WR_a G bb t t') rfl hl.1 rfl (lv_room (Nat.le_of_ble_eq_true rfl)) d_law_1182 (fun H locs hP hD hS => ?_)
      refine lv_icmp_eq (tgt := 1190) hx hb d_law_1185 (by decide) (fun _ => ?_) (fun h => absurd rfl h)
      exact W.widen (Nat.le_succ _) (Nat.le_add_right _ 6) (kk σ' s' t' f H locs ls hJ' hR' ⟨hP, hD, hS⟩ hl)
    · obtain ⟨σ', v, s', t', ej, er, hJ', hR'⟩ := qq_again σ sj t hJ hR 300000 (Nat.le_of_ble_eq_true rfl) 1 (by decide)
      refine lv_aload_n hx hb d_law_1165 rfl (lv_at hl 3 rfl) ?_
      refine lv_aload_n hx hb d_law_1166 rfl (lv_at hl 4 rfl) ?_
      refine lv_iload hx hb d_law_1167 (lv_at hl 0 rfl) ?_
      refine lv_iconst (v := (1 : Int32)) hx hb d_law_1169 (by decide) ?_
      refine lv_iadd hx hb d_law_1170 ?_
      refine va_sld hx hb hX hbl hbA hS n1 d_law_1171 ?_
      refine lv_lit (y := (1 : Int32)) e1.symm ?_
      refine ap_i (u := []) (wc := WJ G a sj) (w1 := WJ G a s') (v := WR G bb t ++ [(o, aJ G 1 f)]) (As := [.int (1 : Int32)]) (rest := []) (ci := 11) (q0 := 0) hx hb hml hown htl (CJ_again1 l G Y a 300000 sj  v s'  ej) mv_J_again k_1102 ⟨rfl, rfl, Nat.le_of_ble_eq_true rfl, Nat.le_of_ble_eq_true rfl, Nat.le_of_succ_le hc, Nat.le_trans (Nat.le_add_right _ 6) hs⟩ hK hsk hS hP hD rfl (heJ G a sj _) (WJ_a G a sj s') rfl hl.1 rfl (lv_room (Nat.le_of_ble_eq_true rfl)) d_law_1172 (fun H locs hP hD hS => ?_)
      refine lv_aload_n hx hb d_law_1175 rfl (lv_at hl 2 rfl) ?_
      refine lv_aload_n hx hb d_law_1176 rfl (lv_at hl 4 rfl) ?_
      refine lv_iload hx hb d_law_1177 (lv_at hl 0 rfl) ?_
      refine lv_iconst (v := (1 : Int32)) hx hb d_law_1179 (by decide) ?_
      refine lv_iadd hx hb d_law_1180 ?_
      refine va_sld hx hb hX hbl hbA hS n1 d_law_1181 ?_
      refine lv_lit (y := (1 : Int32)) e1.symm ?_
      refine ap_i (u := WJ G a s') (wc := WR G bb t) (w1 := WR G bb t') (v := [(o, aJ G 1 f)]) (As := [.int (1 : Int32)]) (rest := [.int v]) (ci := 12) (q0 := 165) hx hb hml hown htl (CR_again l G Y bb 300000 t (1 : Int32) v t'  er) mv_R_again k_1716 ⟨rfl, rfl, Nat.le_of_ble_eq_true rfl, Nat.le_of_ble_eq_true rfl, Nat.le_of_succ_le hc, Nat.le_trans (Nat.le_add_right _ 6) hs⟩ hK hsk hS hP hD rfl (heR G a s' bb t _) (WR_a G bb t t') rfl hl.1 rfl (lv_room (Nat.le_of_ble_eq_true rfl)) d_law_1182 (fun H locs hP hD hS => ?_)
      refine lv_icmp_eq (tgt := 1190) hx hb d_law_1185 (by decide) (fun _ => ?_) (fun h => absurd rfl h)
      exact W.widen (Nat.le_succ _) (Nat.le_add_right _ 6) (kk σ' s' t' f H locs ls hJ' hR' ⟨hP, hD, hS⟩ hl)
    · obtain ⟨σ', v, s', t', ej, er, hJ', hR'⟩ := qq_again σ sj t hJ hR 300000 (Nat.le_of_ble_eq_true rfl) 2 (by decide)
      refine lv_aload_n hx hb d_law_1165 rfl (lv_at hl 3 rfl) ?_
      refine lv_aload_n hx hb d_law_1166 rfl (lv_at hl 4 rfl) ?_
      refine lv_iload hx hb d_law_1167 (lv_at hl 0 rfl) ?_
      refine lv_iconst (v := (1 : Int32)) hx hb d_law_1169 (by decide) ?_
      refine lv_iadd hx hb d_law_1170 ?_
      refine va_sld hx hb hX hbl hbA hS n1 d_law_1171 ?_
      refine lv_lit (y := (2 : Int32)) e1.symm ?_
      refine ap_i (u := []) (wc := WJ G a sj) (w1 := WJ G a s') (v := WR G bb t ++ [(o, aJ G 1 f)]) (As := [.int (2 : Int32)]) (rest := []) (ci := 11) (q0 := 0) hx hb hml hown htl (CJ_again2 l G Y a 300000 sj  v s'  ej) mv_J_again k_1102 ⟨rfl, rfl, Nat.le_of_ble_eq_true rfl, Nat.le_of_ble_eq_true rfl, Nat.le_of_succ_le hc, Nat.le_trans (Nat.le_add_right _ 6) hs⟩ hK hsk hS hP hD rfl (heJ G a sj _) (WJ_a G a sj s') rfl hl.1 rfl (lv_room (Nat.le_of_ble_eq_true rfl)) d_law_1172 (fun H locs hP hD hS => ?_)
      refine lv_aload_n hx hb d_law_1175 rfl (lv_at hl 2 rfl) ?_
      refine lv_aload_n hx hb d_law_1176 rfl (lv_at hl 4 rfl) ?_
      refine lv_iload hx hb d_law_1177 (lv_at hl 0 rfl) ?_
      refine lv_iconst (v := (1 : Int32)) hx hb d_law_1179 (by decide) ?_
      refine lv_iadd hx hb d_law_1180 ?_
      refine va_sld hx hb hX hbl hbA hS n1 d_law_1181 ?_
      refine lv_lit (y := (2 : Int32)) e1.symm ?_
      refine ap_i (u := WJ G a s') (wc := WR G bb t) (w1 := WR G bb t') (v := [(o, aJ G 1 f)]) (As := [.int (2 : Int32)]) (rest := [.int v]) (ci := 12) (q0 := 165) hx hb hml hown htl (CR_again l G Y bb 300000 t (2 : Int32) v t'  er) mv_R_again k_1716 ⟨rfl, rfl, Nat.le_of_ble_eq_true rfl, Nat.le_of_ble_eq_true rfl, Nat.le_of_succ_le hc, Nat.le_trans (Nat.le_add_right _ 6) hs⟩ hK hsk hS hP hD rfl (heR G a s' bb t _) (WR_a G bb t t') rfl hl.1 rfl (lv_room (Nat.le_of_ble_eq_true rfl)) d_law_1182 (fun H locs hP hD hS => ?_)
      refine lv_icmp_eq (tgt := 1190) hx hb d_law_1185 (by decide) (fun _ => ?_) (fun h => absurd rfl h)
      exact W.widen (Nat.le_succ _) (Nat.le_add_right _ 6) (kk σ' s' t' f H locs ls hJ' hR' ⟨hP, hD, hS⟩ hl)
  · obtain ⟨σ', v, s', t', ej, er, hJ', hR'⟩ := qq_again_no σ sj t hJ hR 300000 (Nat.le_of_ble_eq_true rfl) x1 (by simpa using hq)
    refine lv_aload_n hx hb d_law_1165 rfl (lv_at hl 3 rfl) ?_
    refine lv_aload_n hx hb d_law_1166 rfl (lv_at hl 4 rfl) ?_
    refine lv_iload hx hb d_law_1167 (lv_at hl 0 rfl) ?_
    refine lv_iconst (v := (1 : Int32)) hx hb d_law_1169 (by decide) ?_
    refine lv_iadd hx hb d_law_1170 ?_
    refine va_sld hx hb hX hbl hbA hS n1 d_law_1171 ?_
    refine lv_lit (y := x1) e1.symm ?_
    refine ap_i (u := []) (wc := WJ G a sj) (w1 := WJ G a s') (v := WR G bb t ++ [(o, aJ G 1 f)]) (As := [.int x1]) (rest := []) (ci := 11) (q0 := 0) hx hb hml hown htl (CJ_againR l G Y a 300000 sj x1 v s'  ej) mv_J_again k_1102 ⟨rfl, rfl, Nat.le_of_ble_eq_true rfl, Nat.le_of_ble_eq_true rfl, Nat.le_of_succ_le hc, Nat.le_trans (Nat.le_add_right _ 6) hs⟩ hK hsk hS hP hD rfl (heJ G a sj _) (WJ_a G a sj s') rfl hl.1 rfl (lv_room (Nat.le_of_ble_eq_true rfl)) d_law_1172 (fun H locs hP hD hS => ?_)
    refine lv_aload_n hx hb d_law_1175 rfl (lv_at hl 2 rfl) ?_
    refine lv_aload_n hx hb d_law_1176 rfl (lv_at hl 4 rfl) ?_
    refine lv_iload hx hb d_law_1177 (lv_at hl 0 rfl) ?_
    refine lv_iconst (v := (1 : Int32)) hx hb d_law_1179 (by decide) ?_
    refine lv_iadd hx hb d_law_1180 ?_
    refine va_sld hx hb hX hbl hbA hS n1 d_law_1181 ?_
    refine lv_lit (y := x1) e1.symm ?_
    refine ap_i (u := WJ G a s') (wc := WR G bb t) (w1 := WR G bb t') (v := [(o, aJ G 1 f)]) (As := [.int x1]) (rest := [.int v]) (ci := 12) (q0 := 165) hx hb hml hown htl (CR_again l G Y bb 300000 t x1 v t'  er) mv_R_again k_1716 ⟨rfl, rfl, Nat.le_of_ble_eq_true rfl, Nat.le_of_ble_eq_true rfl, Nat.le_of_succ_le hc, Nat.le_trans (Nat.le_add_right _ 6) hs⟩ hK hsk hS hP hD rfl (heR G a s' bb t _) (WR_a G bb t t') rfl hl.1 rfl (lv_room (Nat.le_of_ble_eq_true rfl)) d_law_1182 (fun H locs hP hD hS => ?_)
    refine lv_icmp_eq (tgt := 1190) hx hb d_law_1185 (by decide) (fun _ => ?_) (fun h => absurd rfl h)
    exact W.widen (Nat.le_succ _) (Nat.le_add_right _ 6) (kk σ' s' t' f H locs ls hJ' hR' ⟨hP, hD, hS⟩ hl)
