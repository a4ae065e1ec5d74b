set_option maxHeartbeats 4000000 in
set_option maxRecDepth 100000 in
theorem law_c0 {p : Program} {l : Launch} {e : Env} {s : State} {m : MethodId} {below : List Frame} {meth : Method} {c : Code} {b L : Nat} {xs : Nat → Int32} {G : va_G × (Nat → ClassId)} {Y : (Nat → Nat) × (Nat → Nat)} {a bb : Nat → Nat} {o : Nat} (C : LX p s m c b L xs G Y) (hL : L ≤ 2048) {i : Nat} (hi : i + 4 ≤ L) {σ : Qσ} {sj : SJ} {t : SR} {f : Nat → Int64} {H : Heap} {locs : List Loc} {ls : Array Slot} {cells slots : Nat} {Q : State → Prop} (hJ : qRelJ σ sj) (hR : qRelR σ t) (hw : LW G a bb o s sj t f H locs) (hl : lv_has ls 8 [(4, .int (qi i)), (3, .ref o), (2, .ref (bb 0)), (1, .ref (a 0)), (0, .ref b)]) (hc : cells + 1 ≤ 601024) (hs : slots + 6 ≤ 7293034)
    (kk : ∀ (σ' : Qσ) (sj' : SJ) (t' : SR) (f' : Nat → Int64) (H1 : Heap) (locs1 : List Loc) (ls1 : Array Slot), qRelJ σ' sj' → qRelR σ' t' → LW G a bb o s sj' t' f' H1 locs1 → lv_has ls1 8 [(4, .int (qi i)), (3, .ref o), (2, .ref (bb 0)), (1, .ref (a 0)), (0, .ref b)] → W p l e room_1 s m #[Value.ref b] below meth c H1 locs1 (cells + 1) (slots + 6) Q (F0 m 1190 ls1 [])) : W p l e room_1 s m #[Value.ref b] below meth c H locs cells slots Q (F0 m 172 ls []) := by
  obtain ⟨hx, hb, hml, hown, htl, hK, hsk, hX, hbl⟩ := C
  have hbA : ¬ (fun q : Nat => s.heap.size ≤ q) b := Nat.not_le.mpr hbl
  obtain ⟨hP, hD, hS⟩ := hw
  have n1 : vp_in (qi i + (1 : Int32)) L := ix_in hL hi 1 (by decide)
  obtain ⟨x1, e1⟩ : ∃ z, z = xs (qi i + (1 : Int32)).toNatClampNeg := ⟨_, rfl⟩
  have n2 : vp_in (qi i + (2 : Int32)) L := ix_in hL hi 2 (by decide)
  obtain ⟨x2, e2⟩ : ∃ z, z = xs (qi i + (2 : Int32)).toNatClampNeg := ⟨_, rfl⟩
  obtain ⟨σ', v, s', t', ej, er, hJ', hR'⟩ := qq_type σ sj t hJ hR 300000 (Nat.le_of_ble_eq_true rfl) ((x1.toInt64 <<< ((32 : Int32).toInt64 &&& 63)) ||| (x2.toInt64 &&& (4294967295 : Int64)))
  refine lv_aload_n hx hb d_law_172 rfl (lv_at hl 3 rfl) ?_
  refine lv_aload_n hx hb d_law_173 rfl (lv_at hl 4 rfl) ?_
  refine lv_iload hx hb d_law_174 (lv_at hl 0 rfl) ?_
  refine lv_iconst (v := (1 : Int32)) hx hb d_law_176 (by decide) ?_
  refine lv_iadd hx hb d_law_177 ?_
  refine va_sld hx hb hX hbl hbA hS n1 d_law_178 ?_
  refine lv_lit (y := x1) e1.symm ?_
  refine lv_i2l hx hb d_law_179 rfl ?_
  refine lv_bipush (v := (32 : Int32)) hx hb d_law_180 (by decide) ?_
  refine lv_lshl hx hb d_law_182 rfl ?_
  refine lv_aload_n hx hb d_law_183 rfl (lv_at hl 4 rfl) ?_
  refine lv_iload hx hb d_law_184 (lv_at hl 0 rfl) ?_
  refine lv_iconst (v := (2 : Int32)) hx hb d_law_186 (by decide) ?_
  refine lv_iadd hx hb d_law_187 ?_
  refine va_sld hx hb hX hbl hbA hS n2 d_law_188 ?_
  refine lv_lit (y := x2) e2.symm ?_
  refine lv_i2l hx hb d_law_189 rfl ?_
  refine lv_ldc2 (v := (4294967295 : Int64)) hx hb hown (htl _ k_1720) d_law_190 ?_
  refine lv_land hx hb d_law_193 ?_
  refine lv_lor hx hb d_law_194 ?_
  refine ap_i (u := []) (wc := WJ G a sj) (w1 := WJ G a s') (v := WR G bb t ++ [(o, aJ G 1 f)]) (As := [.long (((x1.toInt64 <<< ((32 : Int32).toInt64 &&& 63)) ||| (x2.toInt64 &&& (4294967295 : Int64))))]) (rest := []) (ci := 11) (q0 := 0) hx hb hml hown htl (CJ_type l G Y a 300000 sj ((x1.toInt64 <<< ((32 : Int32).toInt64 &&& 63)) ||| (x2.toInt64 &&& (4294967295 : Int64))) v s'  ej) mv_J_type k_509 ⟨rfl, rfl, Nat.le_of_ble_eq_true rfl, Nat.le_of_ble_eq_true rfl, Nat.le_of_succ_le hc, Nat.le_trans (Nat.le_add_right _ 6) hs⟩ hK hsk hS hP hD rfl (heJ G a sj _) (WJ_a G a sj s') rfl hl.1 rfl (lv_room (Nat.le_of_ble_eq_true rfl)) d_law_195 (fun H locs hP hD hS => ?_)
  refine lv_aload_n hx hb d_law_198 rfl (lv_at hl 2 rfl) ?_
  refine lv_aload_n hx hb d_law_199 rfl (lv_at hl 4 rfl) ?_
  refine lv_iload hx hb d_law_200 (lv_at hl 0 rfl) ?_
  refine lv_iconst (v := (1 : Int32)) hx hb d_law_202 (by decide) ?_
  refine lv_iadd hx hb d_law_203 ?_
  refine va_sld hx hb hX hbl hbA hS n1 d_law_204 ?_
  refine lv_lit (y := x1) e1.symm ?_
  refine lv_i2l hx hb d_law_205 rfl ?_
  refine lv_bipush (v := (32 : Int32)) hx hb d_law_206 (by decide) ?_
  refine lv_lshl hx hb d_law_208 rfl ?_
  refine lv_aload_n hx hb d_law_209 rfl (lv_at hl 4 rfl) ?_
  refine lv_iload hx hb d_law_210 (lv_at hl 0 rfl) ?_
  refine lv_iconst (v := (2 : Int32)) hx hb d_law_212 (by decide) ?_
  refine lv_iadd hx hb d_law_213 ?_
  refine va_sld hx hb hX hbl hbA hS n2 d_law_214 ?_
  refine lv_lit (y := x2) e2.symm ?_
  refine lv_i2l hx hb d_law_215 rfl ?_
  refine lv_ldc2 (v := (4294967295 : Int64)) hx hb hown (htl _ k_1720) d_law_216 ?_
  refine lv_land hx hb d_law_219 ?_
  refine lv_lor hx hb d_law_220 ?_
  refine ap_i (u := WJ G a s') (wc := WR G bb t) (w1 := WR G bb t') (v := [(o, aJ G 1 f)]) (As := [.long (((x1.toInt64 <<< ((32 : Int32).toInt64 &&& 63)) ||| (x2.toInt64 &&& (4294967295 : Int64))))]) (rest := [.int v]) (ci := 12) (q0 := 165) hx hb hml hown htl (CR_type l G Y bb 300000 t ((x1.toInt64 <<< ((32 : Int32).toInt64 &&& 63)) ||| (x2.toInt64 &&& (4294967295 : Int64))) v t'  er) mv_R_type k_1333 ⟨rfl, rfl, Nat.le_of_ble_eq_true rfl, Nat.le_of_ble_eq_true rfl, Nat.le_of_succ_le hc, Nat.le_trans (Nat.le_add_right _ 6) hs⟩ hK hsk hS hP hD rfl (heR G a s' bb t _) (WR_a G bb t t') rfl hl.1 rfl (lv_room (Nat.le_of_ble_eq_true rfl)) d_law_221 (fun H locs hP hD hS => ?_)
  refine lv_icmp_eq (tgt := 1190) hx hb d_law_224 (by decide) (fun _ => ?_) (fun h => absurd rfl h)
  exact W.widen (Nat.le_succ _) (Nat.le_add_right _ 6) (kk σ' s' t' f H locs ls hJ' hR' ⟨hP, hD, hS⟩ hl)
set_option maxHeartbeats 4000000 in
set_option maxRecDepth 100000 in
theorem law_c1 {p : Program} {l : Launch} {e : Env} {s : State} {m : MethodId} {below : List Frame} {meth : Method} {c : Code} {b L : Nat} {xs : Nat → Int32} {G : va_G × (Nat → ClassId)} {Y : (Nat → Nat) × (Nat → Nat)} {a bb : Nat → Nat} {o : Nat} (C : LX p s m c b L xs G Y) (hL : L ≤ 2048) {i : Nat} (hi : i + 4 ≤ L) {σ : Qσ} {sj : SJ} {t : SR} {f : Nat → Int64} {H : Heap} {locs : List Loc} {ls : Array Slot} {cells slots : Nat} {Q : State → Prop} (hJ : qRelJ σ sj) (hR : qRelR σ t) (hw : LW G a bb o s sj t f H locs) (hl : lv_has ls 8 [(4, .int (qi i)), (3, .ref o), (2, .ref (bb 0)), (1, .ref (a 0)), (0, .ref b)]) (hc : cells + 1 ≤ 601024) (hs : slots + 6 ≤ 7293034)
    (kk : ∀ (σ' : Qσ) (sj' : SJ) (t' : SR) (f' : Nat → Int64) (H1 : Heap) (locs1 : List Loc) (ls1 : Array Slot), qRelJ σ' sj' → qRelR σ' t' → LW G a bb o s sj' t' f' H1 locs1 → lv_has ls1 8 [(4, .int (qi i)), (3, .ref o), (2, .ref (bb 0)), (1, .ref (a 0)), (0, .ref b)] → W p l e room_1 s m #[Value.ref b] below meth c H1 locs1 (cells + 1) (slots + 6) Q (F0 m 1190 ls1 [])) : W p l e room_1 s m #[Value.ref b] below meth c H locs cells slots Q (F0 m 229 ls []) := by
  obtain ⟨hx, hb, hml, hown, htl, hK, hsk, hX, hbl⟩ := C
  have hbA : ¬ (fun q : Nat => s.heap.size ≤ q) b := Nat.not_le.mpr hbl
  obtain ⟨hP, hD, hS⟩ := hw
  obtain ⟨σ', v, s', t', ej, er, hJ', hR'⟩ := qq_query σ sj t hJ hR 300000 (Nat.le_of_ble_eq_true rfl) 
  refine lv_aload_n hx hb d_law_229 rfl (lv_at hl 3 rfl) ?_
  refine ap_i (u := []) (wc := WJ G a sj) (w1 := WJ G a s') (v := WR G bb t ++ [(o, aJ G 1 f)]) (As := []) (rest := []) (ci := 11) (q0 := 0) hx hb hml hown htl (CJ_query l G Y a 300000 sj  v s'  ej) mv_J_query k_520 ⟨rfl, rfl, Nat.le_of_ble_eq_true rfl, Nat.le_of_ble_eq_true rfl, Nat.le_of_succ_le hc, Nat.le_trans (Nat.le_add_right _ 6) hs⟩ hK hsk hS hP hD rfl (heJ G a sj _) (WJ_a G a sj s') rfl hl.1 rfl (lv_room (Nat.le_of_ble_eq_true rfl)) d_law_230 (fun H locs hP hD hS => ?_)
  refine lv_aload_n hx hb d_law_233 rfl (lv_at hl 2 rfl) ?_
  refine ap_i (u := WJ G a s') (wc := WR G bb t) (w1 := WR G bb t') (v := [(o, aJ G 1 f)]) (As := []) (rest := [.int v]) (ci := 12) (q0 := 165) hx hb hml hown htl (CR_query l G Y bb 300000 t  v t'  er) mv_R_query k_1338 ⟨rfl, rfl, Nat.le_of_ble_eq_true rfl, Nat.le_of_ble_eq_true rfl, Nat.le_of_succ_le hc, Nat.le_trans (Nat.le_add_right _ 6) hs⟩ hK hsk hS hP hD rfl (heR G a s' bb t _) (WR_a G bb t t') rfl hl.1 rfl (lv_room (Nat.le_of_ble_eq_true rfl)) d_law_234 (fun H locs hP hD hS => ?_)
  refine lv_icmp_eq (tgt := 1190) hx hb d_law_237 (by decide) (fun _ => ?_) (fun h => absurd rfl h)
  exact W.widen (Nat.le_succ _) (Nat.le_add_right _ 6) (kk σ' s' t' f H locs ls hJ' hR' ⟨hP, hD, hS⟩ hl)
set_option maxHeartbeats 4000000 in
set_option maxRecDepth 100000 in
theorem law_c2 {p : Program} {l : Launch} {e : Env} {s : State} {m : MethodId} {below : List Frame} {meth : Method} {c : Code} {b L : Nat} {xs : Nat → Int32} {G : va_G × (Nat → ClassId)} {Y : (Nat → Nat) × (Nat → Nat)} {a bb : Nat → Nat} {o : Nat} (C : LX p s m c b L xs G Y) (hL : L ≤ 2048) {i : Nat} (hi : i + 4 ≤ L) {σ : Qσ} {sj : SJ} {t : SR} {f : Nat → Int64} {H : Heap} {locs : List Loc} {ls : Array Slot} {cells slots : Nat} {Q : State → Prop} (hJ : qRelJ σ sj) (hR : qRelR σ t) (hw : LW G a bb o s sj t f H locs) (hl : lv_has ls 8 [(4, .int (qi i)), (3, .ref o), (2, .ref (bb 0)), (1, .ref (a 0)), (0, .ref b)]) (hc : cells + 1 ≤ 601024) (hs : slots + 6 ≤ 7293034)
    (kk : ∀ (σ' : Qσ) (sj' : SJ) (t' : SR) (f' : Nat → Int64) (H1 : Heap) (locs1 : List Loc) (ls1 : Array Slot), qRelJ σ' sj' → qRelR σ' t' → LW G a bb o s sj' t' f' H1 locs1 → lv_has ls1 8 [(4, .int (qi i)), (3, .ref o), (2, .ref (bb 0)), (1, .ref (a 0)), (0, .ref b)] → W p l e room_1 s m #[Value.ref b] below meth c H1 locs1 (cells + 1) (slots + 6) Q (F0 m 1190 ls1 [])) : W p l e room_1 s m #[Value.ref b] below meth c H locs cells slots Q (F0 m 242 ls []) := by
  obtain ⟨hx, hb, hml, hown, htl, hK, hsk, hX, hbl⟩ := C
  have hbA : ¬ (fun q : Nat => s.heap.size ≤ q) b := Nat.not_le.mpr hbl
  obtain ⟨hP, hD, hS⟩ := hw
  obtain ⟨σ', v, s', t', ej, er, hJ', hR'⟩ := qq_plan σ sj t hJ hR 300000 (Nat.le_of_ble_eq_true rfl) 
  refine lv_aload_n hx hb d_law_242 rfl (lv_at hl 3 rfl) ?_
  refine ap_i (u := []) (wc := WJ G a sj) (w1 := WJ G a s') (v := WR G bb t ++ [(o, aJ G 1 f)]) (As := []) (rest := []) (ci := 11) (q0 := 0) hx hb hml hown htl (CJ_plan l G Y a 300000 sj  v s'  ej) mv_J_plan k_735 ⟨rfl, rfl, Nat.le_of_ble_eq_true rfl, Nat.le_of_ble_eq_true rfl, Nat.le_of_succ_le hc, Nat.le_trans (Nat.le_add_right _ 6) hs⟩ hK hsk hS hP hD rfl (heJ G a sj _) (WJ_a G a sj s') rfl hl.1 rfl (lv_room (Nat.le_of_ble_eq_true rfl)) d_law_243 (fun H locs hP hD hS => ?_)
  refine lv_aload_n hx hb d_law_246 rfl (lv_at hl 2 rfl) ?_
  refine ap_i (u := WJ G a s') (wc := WR G bb t) (w1 := WR G bb t') (v := [(o, aJ G 1 f)]) (As := []) (rest := [.int v]) (ci := 12) (q0 := 165) hx hb hml hown htl (CR_plan l G Y bb 300000 t  v t'  er) mv_R_plan k_1407 ⟨rfl, rfl, Nat.le_of_ble_eq_true rfl, Nat.le_of_ble_eq_true rfl, Nat.le_of_succ_le hc, Nat.le_trans (Nat.le_add_right _ 6) hs⟩ hK hsk hS hP hD rfl (heR G a s' bb t _) (WR_a G bb t t') rfl hl.1 rfl (lv_room (Nat.le_of_ble_eq_true rfl)) d_law_247 (fun H locs hP hD hS => ?_)
  refine lv_icmp_eq (tgt := 1190) hx hb d_law_250 (by decide) (fun _ => ?_) (fun h => absurd rfl h)
  exact W.widen (Nat.le_succ _) (Nat.le_add_right _ 6) (kk σ' s' t' f H locs ls hJ' hR' ⟨hP, hD, hS⟩ hl)
set_option maxHeartbeats 4000000 in
set_option maxRecDepth 100000 in
theorem law_c3 {p : Program} {l : Launch} {e : Env} {s : State} {m : MethodId} {below : List Frame} {meth : Method} {c : Code} {b L : Nat} {xs : Nat → Int32} {G : va_G × (Nat → ClassId)} {Y : (Nat → Nat) × (Nat → Nat)} {a bb : Nat → Nat} {o : Nat} (C : LX p s m c b L xs G Y) (hL : L ≤ 2048) {i : Nat} (hi : i + 4 ≤ L) {σ : Qσ} {sj : SJ} {t : SR} {f : Nat → Int64} {H : Heap} {locs : List Loc} {ls : Array Slot} {cells slots : Nat} {Q : State → Prop} (hJ : qRelJ σ sj) (hR : qRelR σ t) (hw : LW G a bb o s sj t f H locs) (hl : lv_has ls 8 [(4, .int (qi i)), (3, .ref o), (2, .ref (bb 0)), (1, .ref (a 0)), (0, .ref b)]) (hc : cells + 1 ≤ 601024) (hs : slots + 6 ≤ 7293034)
    (kk : ∀ (σ' : Qσ) (sj' : SJ) (t' : SR) (f' : Nat → Int64) (H1 : Heap) (locs1 : List Loc) (ls1 : Array Slot), qRelJ σ' sj' → qRelR σ' t' → LW G a bb o s sj' t' f' H1 locs1 → lv_has ls1 8 [(4, .int (qi i)), (3, .ref o), (2, .ref (bb 0)), (1, .ref (a 0)), (0, .ref b)] → W p l e room_1 s m #[Value.ref b] below meth c H1 locs1 (cells + 1) (slots + 6) Q (F0 m 1190 ls1 [])) : W p l e room_1 s m #[Value.ref b] below meth c H locs cells slots Q (F0 m 255 ls []) := by
  obtain ⟨hx, hb, hml, hown, htl, hK, hsk, hX, hbl⟩ := C
  have hbA : ¬ (fun q : Nat => s.heap.size ≤ q) b := Nat.not_le.mpr hbl
  obtain ⟨hP, hD, hS⟩ := hw
  have n1 : vp_in (qi i + (1 : Int32)) L := ix_in hL hi 1 (by decide)
  obtain ⟨x1, e1⟩ : ∃ z, z = xs (qi i + (1 : Int32)).toNatClampNeg := ⟨_, rfl⟩
  by_cases z1 : x1 = 0
  · obtain ⟨σ', v, s', t', ej, er, hJ', hR'⟩ := qq_fault σ sj t hJ hR 300000 (Nat.le_of_ble_eq_true rfl) (0 : Int32)
    refine lv_aload_n hx hb d_law_255 rfl (lv_at hl 3 rfl) ?_
    refine lv_aload_n hx hb d_law_256 rfl (lv_at hl 4 rfl) ?_
    refine lv_iload hx hb d_law_257 (lv_at hl 0 rfl) ?_
    refine lv_iconst (v := (1 : Int32)) hx hb d_law_259 (by decide) ?_
    refine lv_iadd hx hb d_law_260 ?_
    refine va_sld hx hb hX hbl hbA hS n1 d_law_261 ?_
    refine lv_lit (y := x1) e1.symm ?_
    refine lv_if_eq (tgt := 269) hx hb d_law_262 (by decide) (fun _ => ?_) (fun h => absurd z1 h)
    refine lv_iconst (v := (0 : Int32)) hx hb d_law_269 (by decide) ?_
    refine ap_i (u := []) (wc := WJ G a sj) (w1 := WJ G a s') (v := WR G bb t ++ [(o, aJ G 1 f)]) (As := [.int (0 : Int32)]) (rest := []) (ci := 11) (q0 := 0) hx hb hml hown htl (CJ_fault l G Y a 300000 sj (0 : Int32) v s'  ej) mv_J_fault k_769 ⟨rfl, rfl, Nat.le_of_ble_eq_true rfl, Nat.le_of_ble_eq_true rfl, Nat.le_of_succ_le hc, Nat.le_trans (Nat.le_add_right _ 6) hs⟩ hK hsk hS hP hD rfl (heJ G a sj _) (WJ_a G a sj s') rfl hl.1 rfl (lv_room (Nat.le_of_ble_eq_true rfl)) d_law_270 (fun H locs hP hD hS => ?_)
    refine lv_aload_n hx hb d_law_273 rfl (lv_at hl 2 rfl) ?_
    refine lv_aload_n hx hb d_law_274 rfl (lv_at hl 4 rfl) ?_
    refine lv_iload hx hb d_law_275 (lv_at hl 0 rfl) ?_
    refine lv_iconst (v := (1 : Int32)) hx hb d_law_277 (by decide) ?_
    refine lv_iadd hx hb d_law_278 ?_
    refine va_sld hx hb hX hbl hbA hS n1 d_law_279 ?_
    refine lv_lit (y := x1) e1.symm ?_
    refine lv_if_eq (tgt := 287) hx hb d_law_280 (by decide) (fun _ => ?_) (fun h => absurd z1 h)
    refine lv_iconst (v := (0 : Int32)) hx hb d_law_287 (by decide) ?_
    refine ap_i (u := WJ G a s') (wc := WR G bb t) (w1 := WR G bb t') (v := [(o, aJ G 1 f)]) (As := [.int (0 : Int32)]) (rest := [.int v]) (ci := 12) (q0 := 165) hx hb hml hown htl (CR_fault l G Y bb 300000 t (0 : Int32) v t'  er) mv_R_fault k_1403 ⟨rfl, rfl, Nat.le_of_ble_eq_true rfl, Nat.le_of_ble_eq_true rfl, Nat.le_of_succ_le hc, Nat.le_trans (Nat.le_add_right _ 6) hs⟩ hK hsk hS hP hD rfl (heR G a s' bb t _) (WR_a G bb t t') rfl hl.1 rfl (lv_room (Nat.le_of_ble_eq_true rfl)) d_law_288 (fun H locs hP hD hS => ?_)
    refine lv_icmp_eq (tgt := 1190) hx hb d_law_291 (by decide) (fun _ => ?_) (fun h => absurd rfl h)
    exact W.widen (Nat.le_succ _) (Nat.le_add_right _ 6) (kk σ' s' t' f H locs ls hJ' hR' ⟨hP, hD, hS⟩ hl)
  · obtain ⟨σ', v, s', t', ej, er, hJ', hR'⟩ := qq_fault σ sj t hJ hR 300000 (Nat.le_of_ble_eq_true rfl) (1 : Int32)
    refine lv_aload_n hx hb d_law_255 rfl (lv_at hl 3 rfl) ?_
    refine lv_aload_n hx hb d_law_256 rfl (lv_at hl 4 rfl) ?_
    refine lv_iload hx hb d_law_257 (lv_at hl 0 rfl) ?_
    refine lv_iconst (v := (1 : Int32)) hx hb d_law_259 (by decide) ?_
    refine lv_iadd hx hb d_law_260 ?_
    refine va_sld hx hb hX hbl hbA hS n1 d_law_261 ?_
    refine lv_lit (y := x1) e1.symm ?_
    refine lv_if_eq (tgt := 269) hx hb d_law_262 (by decide) (fun h => absurd h z1) (fun _ => ?_)
    refine lv_iconst (v := (1 : Int32)) hx hb d_law_265 (by decide) ?_
    refine lv_goto (tgt := 270) hx hb d_law_266 (by decide) ?_
    refine ap_i (u := []) (wc := WJ G a sj) (w1 := WJ G a s') (v := WR G bb t ++ [(o, aJ G 1 f)]) (As := [.int (1 : Int32)]) (rest := []) (ci := 11) (q0 := 0) hx hb hml hown htl (CJ_fault l G Y a 300000 sj (1 : Int32) v s'  ej) mv_J_fault k_769 ⟨rfl, rfl, Nat.le_of_ble_eq_true rfl, Nat.le_of_ble_eq_true rfl, Nat.le_of_succ_le hc, Nat.le_trans (Nat.le_add_right _ 6) hs⟩ hK hsk hS hP hD rfl (heJ G a sj _) (WJ_a G a sj s') rfl hl.1 rfl (lv_room (Nat.le_of_ble_eq_true rfl)) d_law_270 (fun H locs hP hD hS => ?_)
    refine lv_aload_n hx hb d_law_273 rfl (lv_at hl 2 rfl) ?_
    refine lv_aload_n hx hb d_law_274 rfl (lv_at hl 4 rfl) ?_
    refine lv_iload hx hb d_law_275 (lv_at hl 0 rfl) ?_
    refine lv_iconst (v := (1 : Int32)) hx hb d_law_277 (by decide) ?_
    refine lv_iadd hx hb d_law_278 ?_
    refine va_sld hx hb hX hbl hbA hS n1 d_law_279 ?_
    refine lv_lit (y := x1) e1.symm ?_
    refine lv_if_eq (tgt := 287) hx hb d_law_280 (by decide) (fun h => absurd h z1) (fun _ => ?_)
    refine lv_iconst (v := (1 : Int32)) hx hb d_law_283 (by decide) ?_
    refine lv_goto (tgt := 288) hx hb d_law_284 (by decide) ?_
    refine ap_i (u := WJ G a s') (wc := WR G bb t) (w1 := WR G bb t') (v := [(o, aJ G 1 f)]) (As := [.int (1 : Int32)]) (rest := [.int v]) (ci := 12) (q0 := 165) hx hb hml hown htl (CR_fault l G Y bb 300000 t (1 : Int32) v t'  er) mv_R_fault k_1403 ⟨rfl, rfl, Nat.le_of_ble_eq_true rfl, Nat.le_of_ble_eq_true rfl, Nat.le_of_succ_le hc, Nat.le_trans (Nat.le_add_right _ 6) hs⟩ hK hsk hS hP hD rfl (heR G a s' bb t _) (WR_a G bb t t') rfl hl.1 rfl (lv_room (Nat.le_of_ble_eq_true rfl)) d_law_288 (fun H locs hP hD hS => ?_)
    refine lv_icmp_eq (tgt := 1190) hx hb d_law_291 (by decide) (fun _ => ?_) (fun h => absurd rfl h)
    exact W.widen (Nat.le_succ _) (Nat.le_add_right _ 6) (kk σ' s' t' f H locs ls hJ' hR' ⟨hP, hD, hS⟩ hl)
set_option maxHeartbeats 4000000 in
set_option maxRecDepth 100000 in
theorem law_c4 {p : Program} {l : Launch} {e : Env} {s : State} {m : MethodId} {below : List Frame} {meth : Method} {c : Code} {b L : Nat} {xs : Nat → Int32} {G : va_G × (Nat → ClassId)} {Y : (Nat → Nat) × (Nat → Nat)} {a bb : Nat → Nat} {o : Nat} (C : LX p s m c b L xs G Y) (hL : L ≤ 2048) {i : Nat} (hi : i + 4 ≤ L) {σ : Qσ} {sj : SJ} {t : SR} {f : Nat → Int64} {H : Heap} {locs : List Loc} {ls : Array Slot} {cells slots : Nat} {Q : State → Prop} (hJ : qRelJ σ sj) (hR : qRelR σ t) (hw : LW G a bb o s sj t f H locs) (hl : lv_has ls 8 [(4, .int (qi i)), (3, .ref o), (2, .ref (bb 0)), (1, .ref (a 0)), (0, .ref b)]) (hc : cells + 1 ≤ 601024) (hs : slots + 6 ≤ 7293034)
    (kk : ∀ (σ' : Qσ) (sj' : SJ) (t' : SR) (f' : Nat → Int64) (H1 : Heap) (locs1 : List Loc) (ls1 : Array Slot), qRelJ σ' sj' → qRelR σ' t' → LW G a bb o s sj' t' f' H1 locs1 → lv_has ls1 8 [(4, .int (qi i)), (3, .ref o), (2, .ref (bb 0)), (1, .ref (a 0)), (0, .ref b)] → W p l e room_1 s m #[Value.ref b] below meth c H1 locs1 (cells + 1) (slots + 6) Q (F0 m 1190 ls1 [])) : W p l e room_1 s m #[Value.ref b] below meth c H locs cells slots Q (F0 m 296 ls []) := by
  obtain ⟨hx, hb, hml, hown, htl, hK, hsk, hX, hbl⟩ := C
  have hbA : ¬ (fun q : Nat => s.heap.size ≤ q) b := Nat.not_le.mpr hbl
  obtain ⟨hP, hD, hS⟩ := hw
  have n1 : vp_in (qi i + (1 : Int32)) L := ix_in hL hi 1 (by decide)
  obtain ⟨x1, e1⟩ : ∃ z, z = xs (qi i + (1 : Int32)).toNatClampNeg := ⟨_, rfl⟩
  obtain ⟨σ', v, s', t', ej, er, hJ', hR'⟩ := qq_add σ sj t hJ hR 300000 (Nat.le_of_ble_eq_true rfl) x1
  refine lv_aload_n hx hb d_law_296 rfl (lv_at hl 3 rfl) ?_
  refine lv_aload_n hx hb d_law_297 rfl (lv_at hl 4 rfl) ?_
  refine lv_iload hx hb d_law_298 (lv_at hl 0 rfl) ?_
  refine lv_iconst (v := (1 : Int32)) hx hb d_law_300 (by decide) ?_
  refine lv_iadd hx hb d_law_301 ?_
  refine va_sld hx hb hX hbl hbA hS n1 d_law_302 ?_
  refine lv_lit (y := x1) e1.symm ?_
  refine ap_i (u := []) (wc := WJ G a sj) (w1 := WJ G a s') (v := WR G bb t ++ [(o, aJ G 1 f)]) (As := [.int x1]) (rest := []) (ci := 11) (q0 := 0) hx hb hml hown htl (CJ_add l G Y a 300000 sj x1 v s'  ej) mv_J_add k_773 ⟨rfl, rfl, Nat.le_of_ble_eq_true rfl, Nat.le_of_ble_eq_true rfl, Nat.le_of_succ_le hc, Nat.le_trans (Nat.le_add_right _ 6) hs⟩ hK hsk hS hP hD rfl (heJ G a sj _) (WJ_a G a sj s') rfl hl.1 rfl (lv_room (Nat.le_of_ble_eq_true rfl)) d_law_303 (fun H locs hP hD hS => ?_)
  refine lv_aload_n hx hb d_law_306 rfl (lv_at hl 2 rfl) ?_
  refine lv_aload_n hx hb d_law_307 rfl (lv_at hl 4 rfl) ?_
  refine lv_iload hx hb d_law_308 (lv_at hl 0 rfl) ?_
  refine lv_iconst (v := (1 : Int32)) hx hb d_law_310 (by decide) ?_
  refine lv_iadd hx hb d_law_311 ?_
  refine va_sld hx hb hX hbl hbA hS n1 d_law_312 ?_
  refine lv_lit (y := x1) e1.symm ?_
  refine ap_i (u := WJ G a s') (wc := WR G bb t) (w1 := WR G bb t') (v := [(o, aJ G 1 f)]) (As := [.int x1]) (rest := [.int v]) (ci := 12) (q0 := 165) hx hb hml hown htl (CR_add l G Y bb 300000 t x1 v t'  er) mv_R_add k_1441 ⟨rfl, rfl, Nat.le_of_ble_eq_true rfl, Nat.le_of_ble_eq_true rfl, Nat.le_of_succ_le hc, Nat.le_trans (Nat.le_add_right _ 6) hs⟩ hK hsk hS hP hD rfl (heR G a s' bb t _) (WR_a G bb t t') rfl hl.1 rfl (lv_room (Nat.le_of_ble_eq_true rfl)) d_law_313 (fun H locs hP hD hS => ?_)
  refine lv_icmp_eq (tgt := 1190) hx hb d_law_316 (by decide) (fun _ => ?_) (fun h => absurd rfl h)
  exact W.widen (Nat.le_succ _) (Nat.le_add_right _ 6) (kk σ' s' t' f H locs ls hJ' hR' ⟨hP, hD, hS⟩ hl)
set_option maxHeartbeats 4000000 in
set_option maxRecDepth 100000 in
theorem law_c5 {p : Program} {l : Launch} {e : Env} {s : State} {m : MethodId} {below : List Frame} {meth : Method} {c : Code} {b L : Nat} {xs : Nat → Int32} {G : va_G × (Nat → ClassId)} {Y : (Nat → Nat) × (Nat → Nat)} {a bb : Nat → Nat} {o : Nat} (C : LX p s m c b L xs G Y) (hL : L ≤ 2048) {i : Nat} (hi : i + 4 ≤ L) {σ : Qσ} {sj : SJ} {t : SR} {f : Nat → Int64} {H : Heap} {locs : List Loc} {ls : Array Slot} {cells slots : Nat} {Q : State → Prop} (hJ : qRelJ σ sj) (hR : qRelR σ t) (hw : LW G a bb o s sj t f H locs) (hl : lv_has ls 8 [(4, .int (qi i)), (3, .ref o), (2, .ref (bb 0)), (1, .ref (a 0)), (0, .ref b)]) (hc : cells + 1 ≤ 601024) (hs : slots + 6 ≤ 7293034)
    (kk : ∀ (σ' : Qσ) (sj' : SJ) (t' : SR) (f' : Nat → Int64) (H1 : Heap) (locs1 : List Loc) (ls1 : Array Slot), qRelJ σ' sj' → qRelR σ' t' → LW G a bb o s sj' t' f' H1 locs1 → lv_has ls1 8 [(4, .int (qi i)), (3, .ref o), (2, .ref (bb 0)), (1, .ref (a 0)), (0, .ref b)] → W p l e room_1 s m #[Value.ref b] below meth c H1 locs1 (cells + 1) (slots + 6) Q (F0 m 1190 ls1 [])) : W p l e room_1 s m #[Value.ref b] below meth c H locs cells slots Q (F0 m 321 ls []) := by
  obtain ⟨hx, hb, hml, hown, htl, hK, hsk, hX, hbl⟩ := C
  have hbA : ¬ (fun q : Nat => s.heap.size ≤ q) b := Nat.not_le.mpr hbl
  obtain ⟨hP, hD, hS⟩ := hw
  have n1 : vp_in (qi i + (1 : Int32)) L := ix_in hL hi 1 (by decide)
  obtain ⟨x1, e1⟩ : ∃ z, z = xs (qi i + (1 : Int32)).toNatClampNeg := ⟨_, rfl⟩
  have n2 : vp_in (qi i + (2 : Int32)) L := ix_in hL hi 2 (by decide)
  obtain ⟨x2, e2⟩ : ∃ z, z = xs (qi i + (2 : Int32)).toNatClampNeg := ⟨_, rfl⟩
  obtain ⟨σ', v, s', t', ej, er, hJ', hR'⟩ := qq_rows σ sj t hJ hR 300000 (Nat.le_of_ble_eq_true rfl) x1 x2
  refine lv_aload_n hx hb d_law_321 rfl (lv_at hl 3 rfl) ?_
  refine lv_aload_n hx hb d_law_322 rfl (lv_at hl 4 rfl) ?_
  refine lv_iload hx hb d_law_323 (lv_at hl 0 rfl) ?_
  refine lv_iconst (v := (1 : Int32)) hx hb d_law_325 (by decide) ?_
  refine lv_iadd hx hb d_law_326 ?_
  refine va_sld hx hb hX hbl hbA hS n1 d_law_327 ?_
  refine lv_lit (y := x1) e1.symm ?_
  refine lv_aload_n hx hb d_law_328 rfl (lv_at hl 4 rfl) ?_
  refine lv_iload hx hb d_law_329 (lv_at hl 0 rfl) ?_
  refine lv_iconst (v := (2 : Int32)) hx hb d_law_331 (by decide) ?_
  refine lv_iadd hx hb d_law_332 ?_
  refine va_sld hx hb hX hbl hbA hS n2 d_law_333 ?_
  refine lv_lit (y := x2) e2.symm ?_
  refine ap_i (u := []) (wc := WJ G a sj) (w1 := WJ G a s') (v := WR G bb t ++ [(o, aJ G 1 f)]) (As := [.int x1, .int x2]) (rest := []) (ci := 11) (q0 := 0) hx hb hml hown htl (CJ_rows l G Y a 300000 sj x1 x2 v s'  ej) mv_J_rows k_783 ⟨rfl, rfl, Nat.le_of_ble_eq_true rfl, Nat.le_of_ble_eq_true rfl, Nat.le_of_succ_le hc, Nat.le_trans (Nat.le_add_right _ 6) hs⟩ hK hsk hS hP hD rfl (heJ G a sj _) (WJ_a G a sj s') rfl hl.1 rfl (lv_room (Nat.le_of_ble_eq_true rfl)) d_law_334 (fun H locs hP hD hS => ?_)
  refine lv_aload_n hx hb d_law_337 rfl (lv_at hl 2 rfl) ?_
  refine lv_aload_n hx hb d_law_338 rfl (lv_at hl 4 rfl) ?_
  refine lv_iload hx hb d_law_339 (lv_at hl 0 rfl) ?_
  refine lv_iconst (v := (1 : Int32)) hx hb d_law_341 (by decide) ?_
  refine lv_iadd hx hb d_law_342 ?_
  refine va_sld hx hb hX hbl hbA hS n1 d_law_343 ?_
  refine lv_lit (y := x1) e1.symm ?_
  refine lv_aload_n hx hb d_law_344 rfl (lv_at hl 4 rfl) ?_
  refine lv_iload hx hb d_law_345 (lv_at hl 0 rfl) ?_
  refine lv_iconst (v := (2 : Int32)) hx hb d_law_347 (by decide) ?_
  refine lv_iadd hx hb d_law_348 ?_
  refine va_sld hx hb hX hbl hbA hS n2 d_law_349 ?_
  refine lv_lit (y := x2) e2.symm ?_
  refine ap_i (u := WJ G a s') (wc := WR G bb t) (w1 := WR G bb t') (v := [(o, aJ G 1 f)]) (As := [.int x1, .int x2]) (rest := [.int v]) (ci := 12) (q0 := 165) hx hb hml hown htl (CR_rows l G Y bb 300000 t x1 x2 v t'  er) mv_R_rows k_1450 ⟨rfl, rfl, Nat.le_of_ble_eq_true rfl, Nat.le_of_ble_eq_true rfl, Nat.le_of_succ_le hc, Nat.le_trans (Nat.le_add_right _ 6) hs⟩ hK hsk hS hP hD rfl (heR G a s' bb t _) (WR_a G bb t t') rfl hl.1 rfl (lv_room (Nat.le_of_ble_eq_true rfl)) d_law_350 (fun H locs hP hD hS => ?_)
  refine lv_icmp_eq (tgt := 1190) hx hb d_law_353 (by decide) (fun _ => ?_) (fun h => absurd rfl h)
  exact W.widen (Nat.le_succ _) (Nat.le_add_right _ 6) (kk σ' s' t' f H locs ls hJ' hR' ⟨hP, hD, hS⟩ hl)
set_option maxHeartbeats 4000000 in
set_option maxRecDepth 100000 in
theorem law_c6 {p : Program} {l : Launch} {e : Env} {s : State} {m : MethodId} {below : List Frame} {meth : Method} {c : Code} {b L : Nat} {xs : Nat → Int32} {G : va_G × (Nat → ClassId)} {Y : (Nat → Nat) × (Nat → Nat)} {a bb : Nat → Nat} {o : Nat} (C : LX p s m c b L xs G Y) (hL : L ≤ 2048) {i : Nat} (hi : i + 4 ≤ L) {σ : Qσ} {sj : SJ} {t : SR} {f : Nat → Int64} {H : Heap} {locs : List Loc} {ls : Array Slot} {cells slots : Nat} {Q : State → Prop} (hJ : qRelJ σ sj) (hR : qRelR σ t) (hw : LW G a bb o s sj t f H locs) (hl : lv_has ls 8 [(4, .int (qi i)), (3, .ref o), (2, .ref (bb 0)), (1, .ref (a 0)), (0, .ref b)]) (hc : cells + 1 ≤ 601024) (hs : slots + 6 ≤ 7293034)
    (kk : ∀ (σ' : Qσ) (sj' : SJ) (t' : SR) (f' : Nat → Int64) (H1 : Heap) (locs1 : List Loc) (ls1 : Array Slot), qRelJ σ' sj' → qRelR σ' t' → LW G a bb o s sj' t' f' H1 locs1 → lv_has ls1 8 [(4, .int (qi i)), (3, .ref o), (2, .ref (bb 0)), (1, .ref (a 0)), (0, .ref b)] → W p l e room_1 s m #[Value.ref b] below meth c H1 locs1 (cells + 1) (slots + 6) Q (F0 m 1190 ls1 [])) : W p l e room_1 s m #[Value.ref b] below meth c H locs cells slots Q (F0 m 358 ls []) := by
  obtain ⟨hx, hb, hml, hown, htl, hK, hsk, hX, hbl⟩ := C
  have hbA : ¬ (fun q : Nat => s.heap.size ≤ q) b := Nat.not_le.mpr hbl
  obtain ⟨hP, hD, hS⟩ := hw
  have n1 : vp_in (qi i + (1 : Int32)) L := ix_in hL hi 1 (by decide)
  obtain ⟨x1, e1⟩ : ∃ z, z = xs (qi i + (1 : Int32)).toNatClampNeg := ⟨_, rfl⟩
  have n2 : vp_in (qi i + (2 : Int32)) L := ix_in hL hi 2 (by decide)
  obtain ⟨x2, e2⟩ : ∃ z, z = xs (qi i + (2 : Int32)).toNatClampNeg := ⟨_, rfl⟩
  have n3 : vp_in (qi i + (3 : Int32)) L := ix_in hL hi 3 (by decide)
  obtain ⟨x3, e3⟩ : ∃ z, z = xs (qi i + (3 : Int32)).toNatClampNeg := ⟨_, rfl⟩
  obtain ⟨σ', v, s', t', ej, er, hJ', hR'⟩ := qq_link σ sj t hJ hR 300000 (Nat.le_of_ble_eq_true rfl) x1 x2 x3
  refine lv_aload_n hx hb d_law_358 rfl (lv_at hl 3 rfl) ?_
  refine lv_aload_n hx hb d_law_359 rfl (lv_at hl 4 rfl) ?_
  refine lv_iload hx hb d_law_360 (lv_at hl 0 rfl) ?_
  refine lv_iconst (v := (1 : Int32)) hx hb d_law_362 (by decide) ?_
  refine lv_iadd hx hb d_law_363 ?_
  refine va_sld hx hb hX hbl hbA hS n1 d_law_364 ?_
  refine lv_lit (y := x1) e1.symm ?_
  refine lv_aload_n hx hb d_law_365 rfl (lv_at hl 4 rfl) ?_
  refine lv_iload hx hb d_law_366 (lv_at hl 0 rfl) ?_
  refine lv_iconst (v := (2 : Int32)) hx hb d_law_368 (by decide) ?_
  refine lv_iadd hx hb d_law_369 ?_
  refine va_sld hx hb hX hbl hbA hS n2 d_law_370 ?_
  refine lv_lit (y := x2) e2.symm ?_
  refine lv_aload_n hx hb d_law_371 rfl (lv_at hl 4 rfl) ?_
  refine lv_iload hx hb d_law_372 (lv_at hl 0 rfl) ?_
  refine lv_iconst (v := (3 : Int32)) hx hb d_law_374 (by decide) ?_
  refine lv_iadd hx hb d_law_375 ?_
  refine va_sld hx hb hX hbl hbA hS n3 d_law_376 ?_
  refine lv_lit (y := x3) e3.symm ?_
  refine ap_i (u := []) (wc := WJ G a sj) (w1 := WJ G a s') (v := WR G bb t ++ [(o, aJ G 1 f)]) (As := [.int x1, .int x2, .int x3]) (rest := []) (ci := 11) (q0 := 0) hx hb hml hown htl (CJ_link l G Y a 300000 sj x1 x2 x3 v s'  ej) mv_J_link k_788 ⟨rfl, rfl, Nat.le_of_ble_eq_true rfl, Nat.le_of_ble_eq_true rfl, Nat.le_of_succ_le hc, Nat.le_trans (Nat.le_add_right _ 6) hs⟩ hK hsk hS hP hD rfl (heJ G a sj _) (WJ_a G a sj s') rfl hl.1 rfl (lv_room (Nat.le_of_ble_eq_true rfl)) d_law_377 (fun H locs hP hD hS => ?_)
  refine lv_aload_n hx hb d_law_380 rfl (lv_at hl 2 rfl) ?_
  refine lv_aload_n hx hb d_law_381 rfl (lv_at hl 4 rfl) ?_
  refine lv_iload hx hb d_law_382 (lv_at hl 0 rfl) ?_
  refine lv_iconst (v := (1 : Int32)) hx hb d_law_384 (by decide) ?_
  refine lv_iadd hx hb d_law_385 ?_
  refine va_sld hx hb hX hbl hbA hS n1 d_law_386 ?_
  refine lv_lit (y := x1) e1.symm ?_
  refine lv_aload_n hx hb d_law_387 rfl (lv_at hl 4 rfl) ?_
  refine lv_iload hx hb d_law_388 (lv_at hl 0 rfl) ?_
  refine lv_iconst (v := (2 : Int32)) hx hb d_law_390 (by decide) ?_
  refine lv_iadd hx hb d_law_391 ?_
  refine va_sld hx hb hX hbl hbA hS n2 d_law_392 ?_
  refine lv_lit (y := x2) e2.symm ?_
  refine lv_aload_n hx hb d_law_393 rfl (lv_at hl 4 rfl) ?_
  refine lv_iload hx hb d_law_394 (lv_at hl 0 rfl) ?_
  refine lv_iconst (v := (3 : Int32)) hx hb d_law_396 (by decide) ?_
  refine lv_iadd hx hb d_law_397 ?_
  refine va_sld hx hb hX hbl hbA hS n3 d_law_398 ?_
  refine lv_lit (y := x3) e3.symm ?_
  refine ap_i (u := WJ G a s') (wc := WR G bb t) (w1 := WR G bb t') (v := [(o, aJ G 1 f)]) (As := [.int x1, .int x2, .int x3]) (rest := [.int v]) (ci := 12) (q0 := 165) hx hb hml hown htl (CR_link l G Y bb 300000 t x1 x2 x3 v t'  er) mv_R_link k_1458 ⟨rfl, rfl, Nat.le_of_ble_eq_true rfl, Nat.le_of_ble_eq_true rfl, Nat.le_of_succ_le hc, Nat.le_trans (Nat.le_add_right _ 6) hs⟩ hK hsk hS hP hD rfl (heR G a s' bb t _) (WR_a G bb t t') rfl hl.1 rfl (lv_room (Nat.le_of_ble_eq_true rfl)) d_law_399 (fun H locs hP hD hS => ?_)
  refine lv_icmp_eq (tgt := 1190) hx hb d_law_402 (by decide) (fun _ => ?_) (fun h => absurd rfl h)
  exact W.widen (Nat.le_succ _) (Nat.le_add_right _ 6) (kk σ' s' t' f H locs ls hJ' hR' ⟨hP, hD, hS⟩ hl)
