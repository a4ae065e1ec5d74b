theorem sw_out_0_29 {x : Int32} (h0 : ¬ x = (0 : Int32)) (h1 : ¬ x = (1 : Int32)) (h2 : ¬ x = (2 : Int32)) (h3 : ¬ x = (3 : Int32)) (h4 : ¬ x = (4 : Int32)) (h5 : ¬ x = (5 : Int32)) (h6 : ¬ x = (6 : Int32)) (h7 : ¬ x = (7 : Int32)) (h8 : ¬ x = (8 : Int32)) (h9 : ¬ x = (9 : Int32)) (h10 : ¬ x = (10 : Int32)) (h11 : ¬ x = (11 : Int32)) (h12 : ¬ x = (12 : Int32)) (h13 : ¬ x = (13 : Int32)) (h14 : ¬ x = (14 : Int32)) (h15 : ¬ x = (15 : Int32)) (h16 : ¬ x = (16 : Int32)) (h17 : ¬ x = (17 : Int32)) (h18 : ¬ x = (18 : Int32)) (h19 : ¬ x = (19 : Int32)) (h20 : ¬ x = (20 : Int32)) (h21 : ¬ x = (21 : Int32)) (h22 : ¬ x = (22 : Int32)) (h23 : ¬ x = (23 : Int32)) (h24 : ¬ x = (24 : Int32)) (h25 : ¬ x = (25 : Int32)) (h26 : ¬ x = (26 : Int32)) (h27 : ¬ x = (27 : Int32)) (h28 : ¬ x = (28 : Int32)) (h29 : ¬ x = (29 : Int32)) : x.toInt < 0 ∨ 29 < x.toInt := by
  have g0 : ¬ x.toInt = 0 := fun e => h0 (Int32.toInt_inj.mp (e.trans (by decide)))
  have g1 : ¬ x.toInt = 1 := fun e => h1 (Int32.toInt_inj.mp (e.trans (by decide)))
  have g2 : ¬ x.toInt = 2 := fun e => h2 (Int32.toInt_inj.mp (e.trans (by decide)))
  have g3 : ¬ x.toInt = 3 := fun e => h3 (Int32.toInt_inj.mp (e.trans (by decide)))
  have g4 : ¬ x.toInt = 4 := fun e => h4 (Int32.toInt_inj.mp (e.trans (by decide)))
  have g5 : ¬ x.toInt = 5 := fun e => h5 (Int32.toInt_inj.mp (e.trans (by decide)))
  have g6 : ¬ x.toInt = 6 := fun e => h6 (Int32.toInt_inj.mp (e.trans (by decide)))
  have g7 : ¬ x.toInt = 7 := fun e => h7 (Int32.toInt_inj.mp (e.trans (by decide)))
  have g8 : ¬ x.toInt = 8 := fun e => h8 (Int32.toInt_inj.mp (e.trans (by decide)))
  have g9 : ¬ x.toInt = 9 := fun e => h9 (Int32.toInt_inj.mp (e.trans (by decide)))
  have g10 : ¬ x.toInt = 10 := fun e => h10 (Int32.toInt_inj.mp (e.trans (by decide)))
  have g11 : ¬ x.toInt = 11 := fun e => h11 (Int32.toInt_inj.mp (e.trans (by decide)))
  have g12 : ¬ x.toInt = 12 := fun e => h12 (Int32.toInt_inj.mp (e.trans (by decide)))
  have g13 : ¬ x.toInt = 13 := fun e => h13 (Int32.toInt_inj.mp (e.trans (by decide)))
  have g14 : ¬ x.toInt = 14 := fun e => h14 (Int32.toInt_inj.mp (e.trans (by decide)))
  have g15 : ¬ x.toInt = 15 := fun e => h15 (Int32.toInt_inj.mp (e.trans (by decide)))
  have g16 : ¬ x.toInt = 16 := fun e => h16 (Int32.toInt_inj.mp (e.trans (by decide)))
  have g17 : ¬ x.toInt = 17 := fun e => h17 (Int32.toInt_inj.mp (e.trans (by decide)))
  have g18 : ¬ x.toInt = 18 := fun e => h18 (Int32.toInt_inj.mp (e.trans (by decide)))
  have g19 : ¬ x.toInt = 19 := fun e => h19 (Int32.toInt_inj.mp (e.trans (by decide)))
  have g20 : ¬ x.toInt = 20 := fun e => h20 (Int32.toInt_inj.mp (e.trans (by decide)))
  have g21 : ¬ x.toInt = 21 := fun e => h21 (Int32.toInt_inj.mp (e.trans (by decide)))
  have g22 : ¬ x.toInt = 22 := fun e => h22 (Int32.toInt_inj.mp (e.trans (by decide)))
  have g23 : ¬ x.toInt = 23 := fun e => h23 (Int32.toInt_inj.mp (e.trans (by decide)))
  have g24 : ¬ x.toInt = 24 := fun e => h24 (Int32.toInt_inj.mp (e.trans (by decide)))
  have g25 : ¬ x.toInt = 25 := fun e => h25 (Int32.toInt_inj.mp (e.trans (by decide)))
  have g26 : ¬ x.toInt = 26 := fun e => h26 (Int32.toInt_inj.mp (e.trans (by decide)))
  have g27 : ¬ x.toInt = 27 := fun e => h27 (Int32.toInt_inj.mp (e.trans (by decide)))
  have g28 : ¬ x.toInt = 28 := fun e => h28 (Int32.toInt_inj.mp (e.trans (by decide)))
  have g29 : ¬ x.toInt = 29 := fun e => h29 (Int32.toInt_inj.mp (e.trans (by decide)))
  omega
set_option maxHeartbeats 4000000 in
set_option maxRecDepth 100000 in
theorem law_step {p : Program} {l : Launch} {e : Env} {s : State} {m : MethodId} {below : List Frame} {meth : Method} {c : Code} {b L : Nat} {xs : Nat → Int32} {G : va_G × (Nat → ClassId)} {Y : (Nat → Nat) × (Nat → Nat)} {a bb : Nat → Nat} {o : Nat} (C : LX p s m c b L xs G Y) (hst : l.stackTraces = false) (hxp : xP (fun q => s.heap.size ≤ q) s s.heap) (hr : meth.sig.returnType = ret) (hlocks : meth.locks = false) (hL : L ≤ 2048) {i : Nat} (hi : i ≤ L) {σ : Qσ} {sj : SJ} {t : SR} {f : Nat → Int64} {H : Heap} {locs : List Loc} {ls : Array Slot} {cells slots : Nat} (hJ : qRelJ σ sj) (hR : qRelR σ t) (hw : LW G a bb o s sj t f H locs) (hl : lv_has ls 8 [(4, .int (qi i)), (3, .ref o), (2, .ref (bb 0)), (1, .ref (a 0)), (0, .ref b)]) (hc : cells + 1 ≤ 601024) (hs : slots + 6 ≤ 7293034)
    (kx : i + 4 ≤ L → ∀ (σ' : Qσ) (sj' : SJ) (t' : SR) (f' : Nat → Int64) (H1 : Heap) (locs1 : List Loc) (ls1 : Array Slot), qRelJ σ' sj' → qRelR σ' t' → LW G a bb o s sj' t' f' H1 locs1 → lv_has ls1 8 [(4, .int (qi (i + 4))), (3, .ref o), (2, .ref (bb 0)), (1, .ref (a 0)), (0, .ref b)] → W p l e room_1 s m #[Value.ref b] below meth c H1 locs1 (cells + 1) (slots + 6) (lw_Z below #[Value.ref b] s) (F0 m 23 ls1 [])) : W p l e room_1 s m #[Value.ref b] below meth c H locs cells slots (lw_Z below #[Value.ref b] s) (F0 m 23 ls []) := by
  have C0 := C
  obtain ⟨hx, hb, hml, hown, htl, hK, hsk, hX, hbl⟩ := C
  have hbA : ¬ (fun q : Nat => s.heap.size ≤ q) b := Nat.not_le.mpr hbl
  have hw0 := hw
  obtain ⟨hP, hD, hS⟩ := hw
  refine lv_iload hx hb d_law_23 (lv_at hl 0 rfl) ?_
  refine lv_aload_n hx hb d_law_25 rfl (lv_at hl 4 rfl) ?_
  refine va_slen hx hb hX hbl hbA hS d_law_26 ?_
  refine lv_lit (y := qi L) rfl ?_
  refine lv_iconst (v := (4 : Int32)) hx hb d_law_27 (by decide) ?_
  refine lv_isub hx hb d_law_28 ?_
  refine lv_icmp_gt (tgt := 1196) hx hb d_law_29 (by decide) (fun _ => ?_) (fun hg => ?_)
  · refine lv_iconst (v := (1 : Int32)) hx hb d_law_1196 (by decide) ?_
    refine va_forget hS.2.2 ?_
    exact W.widen (Nat.le_of_succ_le hc) (Nat.le_trans (Nat.le_add_right _ 6) hs) (lw_ret hx hb hr hlocks d_law_1197)
  · have h4 : i + 4 ≤ L := lp_gt hL hi hg
    have n0 : vp_in (qi i) L := by
      have := ix_in hL h4 0 (by decide)
      rw [qi_add] at this
      exact this
    have KK : ∀ (σ' : Qσ) (sj' : SJ) (t' : SR) (f' : Nat → Int64) (H1 : Heap) (locs1 : List Loc) (ls1 : Array Slot), qRelJ σ' sj' → qRelR σ' t' → LW G a bb o s sj' t' f' H1 locs1 → lv_has ls1 8 [(4, .int (qi i)), (3, .ref o), (2, .ref (bb 0)), (1, .ref (a 0)), (0, .ref b)] → W p l e room_1 s m #[Value.ref b] below meth c H1 locs1 (cells + 1) (slots + 6) (lw_Z below #[Value.ref b] s) (F0 m 1190 ls1 []) := by
      intro σ' sj' t' f' H1 locs1 ls1 hJ' hR' hw' hl'
      refine lv_iinc (k := 0) (v := qi (i + 4)) (lv' := [(4, .int (qi (i + 4))), (3, .ref o), (2, .ref (bb 0)), (1, .ref (a 0)), (0, .ref b)]) hx hb d_law_1190 hl' rfl (by rw [← qi_add]; rfl) (by decide) rfl (fun ls2 hl2 => ?_)
      refine lv_goto (tgt := 23) hx hb d_law_1193 (by decide) ?_
      exact kx h4 σ' sj' t' f' H1 locs1 ls2 hJ' hR' hw' hl2
    refine lv_aload_n hx hb d_law_32 rfl (lv_at hl 4 rfl) ?_
    refine lv_iload hx hb d_law_33 (lv_at hl 0 rfl) ?_
    refine va_sld hx hb hX hbl hbA hS n0 d_law_35 ?_
    refine lv_bipush (v := (31 : Int32)) hx hb d_law_36 (by decide) ?_
    refine lv_iand hx hb d_law_38 ?_
    obtain ⟨x, ex⟩ : ∃ z, z = xs (qi i).toNatClampNeg &&& (31 : Int32) := ⟨_, rfl⟩
    refine lv_lit (y := x) ex.symm ?_
    by_cases c0 : x = (0 : Int32)
    · exact lv_tableIn (tgt := 172) hx hb d_law_39 (by rw [c0]; decide) (by rw [c0]; decide) (by rw [c0]; rfl) (by decide) (law_c0 C0 hL h4 hJ hR hw0 hl hc hs KK)
    by_cases c1 : x = (1 : Int32)
    · exact lv_tableIn (tgt := 229) hx hb d_law_39 (by rw [c1]; decide) (by rw [c1]; decide) (by rw [c1]; rfl) (by decide) (law_c1 C0 hL h4 hJ hR hw0 hl hc hs KK)
    by_cases c2 : x = (2 : Int32)
    · exact lv_tableIn (tgt := 242) hx hb d_law_39 (by rw [c2]; decide) (by rw [c2]; decide) (by rw [c2]; rfl) (by decide) (law_c2 C0 hL h4 hJ hR hw0 hl hc hs KK)
    by_cases c3 : x = (3 : Int32)
    · exact lv_tableIn (tgt := 255) hx hb d_law_39 (by rw [c3]; decide) (by rw [c3]; decide) (by rw [c3]; rfl) (by decide) (law_c3 C0 hL h4 hJ hR hw0 hl hc hs KK)
    by_cases c4 : x = (4 : Int32)
    · exact lv_tableIn (tgt := 296) hx hb d_law_39 (by rw [c4]; decide) (by rw [c4]; decide) (by rw [c4]; rfl) (by decide) (law_c4 C0 hL h4 hJ hR hw0 hl hc hs KK)
    by_cases c5 : x = (5 : Int32)
    · exact lv_tableIn (tgt := 321) hx hb d_law_39 (by rw [c5]; decide) (by rw [c5]; decide) (by rw [c5]; rfl) (by decide) (law_c5 C0 hL h4 hJ hR hw0 hl hc hs KK)
    by_cases c6 : x = (6 : Int32)
    · exact lv_tableIn (tgt := 358) hx hb d_law_39 (by rw [c6]; decide) (by rw [c6]; decide) (by rw [c6]; rfl) (by decide) (law_c6 C0 hL h4 hJ hR hw0 hl hc hs KK)
    by_cases c7 : x = (7 : Int32)
    · exact lv_tableIn (tgt := 407) hx hb d_law_39 (by rw [c7]; decide) (by rw [c7]; decide) (by rw [c7]; rfl) (by decide) (law_c7 C0 hL h4 hJ hR hw0 hl hc hs KK)
    by_cases c8 : x = (8 : Int32)
    · exact lv_tableIn (tgt := 432) hx hb d_law_39 (by rw [c8]; decide) (by rw [c8]; decide) (by rw [c8]; rfl) (by decide) (law_c8 C0 hL h4 hJ hR hw0 hl hc hs KK)
    by_cases c9 : x = (9 : Int32)
    · exact lv_tableIn (tgt := 469) hx hb d_law_39 (by rw [c9]; decide) (by rw [c9]; decide) (by rw [c9]; rfl) (by decide) (law_c9 C0 hL h4 hJ hR hw0 hl hc hs KK)
    by_cases c10 : x = (10 : Int32)
    · exact lv_tableIn (tgt := 494) hx hb d_law_39 (by rw [c10]; decide) (by rw [c10]; decide) (by rw [c10]; rfl) (by decide) (law_c10 C0 hL h4 hJ hR hw0 hl hc hs KK)
    by_cases c11 : x = (11 : Int32)
    · exact lv_tableIn (tgt := 507) hx hb d_law_39 (by rw [c11]; decide) (by rw [c11]; decide) (by rw [c11]; rfl) (by decide) (law_c11 C0 hL h4 hJ hR hw0 hl hc hs KK)
    by_cases c12 : x = (12 : Int32)
    · exact lv_tableIn (tgt := 520) hx hb d_law_39 (by rw [c12]; decide) (by rw [c12]; decide) (by rw [c12]; rfl) (by decide) (law_c12 C0 hL h4 hJ hR hw0 hl hc hs KK)
    by_cases c13 : x = (13 : Int32)
    · exact lv_tableIn (tgt := 533) hx hb d_law_39 (by rw [c13]; decide) (by rw [c13]; decide) (by rw [c13]; rfl) (by decide) (law_c13 C0 hL h4 hJ hR hw0 hl hc hs KK)
    by_cases c14 : x = (14 : Int32)
    · exact lv_tableIn (tgt := 558) hx hb d_law_39 (by rw [c14]; decide) (by rw [c14]; decide) (by rw [c14]; rfl) (by decide) (law_c14 C0 hst hxp hL h4 hJ hR hw0 hl hc hs KK)
    by_cases c15 : x = (15 : Int32)
    · exact lv_tableIn (tgt := 626) hx hb d_law_39 (by rw [c15]; decide) (by rw [c15]; decide) (by rw [c15]; rfl) (by decide) (law_c15 C0 hL h4 hJ hR hw0 hl hc hs KK)
    by_cases c16 : x = (16 : Int32)
    · exact lv_tableIn (tgt := 680) hx hb d_law_39 (by rw [c16]; decide) (by rw [c16]; decide) (by rw [c16]; rfl) (by decide) (law_c16 C0 hL h4 hJ hR hw0 hl hc hs KK)
    by_cases c17 : x = (17 : Int32)
    · exact lv_tableIn (tgt := 705) hx hb d_law_39 (by rw [c17]; decide) (by rw [c17]; decide) (by rw [c17]; rfl) (by decide) (law_c17 C0 hL h4 hJ hR hw0 hl hc hs KK)
    by_cases c18 : x = (18 : Int32)
    · exact lv_tableIn (tgt := 742) hx hb d_law_39 (by rw [c18]; decide) (by rw [c18]; decide) (by rw [c18]; rfl) (by decide) (law_c18 C0 hL h4 hJ hR hw0 hl hc hs KK)
    by_cases c19 : x = (19 : Int32)
    · exact lv_tableIn (tgt := 795) hx hb d_law_39 (by rw [c19]; decide) (by rw [c19]; decide) (by rw [c19]; rfl) (by decide) (law_c19 C0 hL h4 hJ hR hw0 hl hc hs KK)
    by_cases c20 : x = (20 : Int32)
    · exact lv_tableIn (tgt := 861) hx hb d_law_39 (by rw [c20]; decide) (by rw [c20]; decide) (by rw [c20]; rfl) (by decide) (law_c20 C0 hL h4 hJ hR hw0 hl hc hs KK)
    by_cases c21 : x = (21 : Int32)
    · exact lv_tableIn (tgt := 887) hx hb d_law_39 (by rw [c21]; decide) (by rw [c21]; decide) (by rw [c21]; rfl) (by decide) (law_c21 C0 hst hxp hL h4 hJ hR hw0 hl hc hs KK)
    by_cases c22 : x = (22 : Int32)
    · exact lv_tableIn (tgt := 954) hx hb d_law_39 (by rw [c22]; decide) (by rw [c22]; decide) (by rw [c22]; rfl) (by decide) (law_c22 C0 hL h4 hJ hR hw0 hl hc hs KK)
    by_cases c23 : x = (23 : Int32)
    · exact lv_tableIn (tgt := 968) hx hb d_law_39 (by rw [c23]; decide) (by rw [c23]; decide) (by rw [c23]; rfl) (by decide) (law_c23 C0 hL h4 hJ hR hw0 hl hc hs KK)
    by_cases c24 : x = (24 : Int32)
    · exact lv_tableIn (tgt := 993) hx hb d_law_39 (by rw [c24]; decide) (by rw [c24]; decide) (by rw [c24]; rfl) (by decide) (law_c24 C0 hL h4 hJ hR hw0 hl hc hs KK)
    by_cases c25 : x = (25 : Int32)
    · exact lv_tableIn (tgt := 1019) hx hb d_law_39 (by rw [c25]; decide) (by rw [c25]; decide) (by rw [c25]; rfl) (by decide) (law_c25 C0 hL h4 hJ hR hw0 hl hc hs KK)
    by_cases c26 : x = (26 : Int32)
    · exact lv_tableIn (tgt := 1032) hx hb d_law_39 (by rw [c26]; decide) (by rw [c26]; decide) (by rw [c26]; rfl) (by decide) (law_c26 C0 hL h4 hJ hR hw0 hl hc hs KK)
    by_cases c27 : x = (27 : Int32)
    · exact lv_tableIn (tgt := 1098) hx hb d_law_39 (by rw [c27]; decide) (by rw [c27]; decide) (by rw [c27]; rfl) (by decide) (law_c27 C0 hL h4 hJ hR hw0 hl hc hs KK)
    by_cases c28 : x = (28 : Int32)
    · exact lv_tableIn (tgt := 1140) hx hb d_law_39 (by rw [c28]; decide) (by rw [c28]; decide) (by rw [c28]; rfl) (by decide) (law_c28 C0 hL h4 hJ hR hw0 hl hc hs KK)
    by_cases c29 : x = (29 : Int32)
    · exact lv_tableIn (tgt := 1165) hx hb d_law_39 (by rw [c29]; decide) (by rw [c29]; decide) (by rw [c29]; rfl) (by decide) (law_c29 C0 hL h4 hJ hR hw0 hl hc hs KK)
    refine lv_tableOut (tgt := 1190) hx hb d_law_39 (sw_out_0_29 c0 c1 c2 c3 c4 c5 c6 c7 c8 c9 c10 c11 c12 c13 c14 c15 c16 c17 c18 c19 c20 c21 c22 c23 c24 c25 c26 c27 c28 c29) (by decide) ?_
    exact W.widen (Nat.le_succ _) (Nat.le_add_right _ 6) (KK σ sj t f H locs ls hJ hR hw0 hl)
theorem law_loop {p : Program} {l : Launch} {e : Env} {s : State} {m : MethodId} {below : List Frame} {meth : Method} {c : Code} {b L : Nat} {xs : Nat → Int32} {G : va_G × (Nat → ClassId)} {Y : (Nat → Nat) × (Nat → Nat)} {a bb : Nat → Nat} {o : Nat} (C : LX p s m c b L xs G Y) (hst : l.stackTraces = false) (hxp : xP (fun q => s.heap.size ≤ q) s s.heap) (hr : meth.sig.returnType = ret) (hlocks : meth.locks = false) (hL : L ≤ 2048) : ∀ (n i : Nat), L - i ≤ n → i ≤ L → ∀ (σ : Qσ) (sj : SJ) (t : SR) (f : Nat → Int64) (H : Heap) (locs : List Loc) (ls : Array Slot) (cells slots : Nat), qRelJ σ sj → qRelR σ t → LW G a bb o s sj t f H locs → lv_has ls 8 [(4, .int (qi i)), (3, .ref o), (2, .ref (bb 0)), (1, .ref (a 0)), (0, .ref b)] → cells + (L - i) ≤ 100000 → slots + 6 * (L - i) ≤ 100000 → W p l e room_1 s m #[Value.ref b] below meth c H locs cells slots (lw_Z below #[Value.ref b] s) (F0 m 23 ls []) := by
  intro n
  induction n with
  | zero =>
    intro i hn hi σ sj t f H locs ls cells slots hJ hR hw hl hc hs
    exact law_step C hst hxp hr hlocks hL hi hJ hR hw hl (by omega) (by omega) (fun h4 => absurd h4 (by omega))
  | succ n ih =>
    intro i hn hi σ sj t f H locs ls cells slots hJ hR hw hl hc hs
    exact law_step C hst hxp hr hlocks hL hi hJ hR hw hl (by omega) (by omega) (fun h4 σ' sj' t' f' H1 locs1 ls1 hJ' hR' hw' hl' => ih (i + 4) (by omega) (by omega) σ' sj' t' f' H1 locs1 ls1 (cells + 1) (slots + 6) hJ' hR' hw' hl' (by omega) (by omega))
