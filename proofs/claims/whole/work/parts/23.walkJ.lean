set_option maxHeartbeats 4000000 in
set_option maxRecDepth 100000 in
theorem c_I_bitCount (l : Launch) (G : va_G × (Nat → ClassId)) (Y : (Nat → Nat) × (Nat → Nat)) (x0 : Int32) (res : Int32) (hf : I_bitCount x0 = res) : Ci l classes y_I_bitCount b_I_bitCount 1 (some .int) (rmk 0) G.1 (tyL G) Y [.int x0] [] [] res := by
  refine entI (by decide) (Nat.le_of_ble_eq_true rfl) ?_
  intro p e s m args below meth c ls A Q hx hb hml hown htl hK hsk wq hl hret
  obtain ⟨hP, hD, hS⟩ := wq
  have hl : lv_has ls 1 [(0, .int x0)] := hl
  have hS : va_S A s.heap s.heap [] := hS
  obtain ⟨H, hH⟩ : ∃ H : Heap, H = s.heap := ⟨_, rfl⟩
  obtain ⟨locs, hlocs⟩ : ∃ z : List Loc, z = [] := ⟨_, rfl⟩
  rw [← hH] at hP
  replace hS : va_S A s.heap H locs := by rw [hH, hlocs]; exact hS
  suffices hgo : W p l e (rmk 0) s m args below meth c H locs 0 0 Q (F0 m 0 ls []) by rw [hH, hlocs] at hgo; exact hgo
  refine lv_iload_n hx hb d_I_bitCount_0 rfl (lv_at hl 0 rfl) ?_
  refine lv_iload_n hx hb d_I_bitCount_1 rfl (lv_at hl 0 rfl) ?_
  refine lv_iconst (v := (1 : Int32)) hx hb d_I_bitCount_2 (by decide) ?_
  refine lv_iushr hx hb d_I_bitCount_3 rfl ?_
  refine lv_ldcw (v := (1431655765 : Int32)) hx hb hown (htl _ k_766) d_I_bitCount_4 ?_
  refine lv_iand hx hb d_I_bitCount_7 ?_
  refine lv_isub hx hb d_I_bitCount_8 ?_
  refine lv_topi (fun v1 ev1 => ?_)
  have hf := dn_e ev1 hf
  refine lv_istore_n (lv' := [(0, .int v1)]) hx hb d_I_bitCount_9 rfl hl (by decide) rfl (fun ls hl => ?_)
  refine lv_iload_n hx hb d_I_bitCount_10 rfl (lv_at hl 0 rfl) ?_
  refine lv_ldcw (v := (858993459 : Int32)) hx hb hown (htl _ k_767) d_I_bitCount_11 ?_
  refine lv_iand hx hb d_I_bitCount_14 ?_
  refine lv_iload_n hx hb d_I_bitCount_15 rfl (lv_at hl 0 rfl) ?_
  refine lv_iconst (v := (2 : Int32)) hx hb d_I_bitCount_16 (by decide) ?_
  refine lv_iushr hx hb d_I_bitCount_17 rfl ?_
  refine lv_ldcw (v := (858993459 : Int32)) hx hb hown (htl _ k_767) d_I_bitCount_18 ?_
  refine lv_iand hx hb d_I_bitCount_21 ?_
  refine lv_iadd hx hb d_I_bitCount_22 ?_
  refine lv_topi (fun v2 ev2 => ?_)
  have hf := dn_e ev2 hf
  refine lv_istore_n (lv' := [(0, .int v2)]) hx hb d_I_bitCount_23 rfl hl (by decide) rfl (fun ls hl => ?_)
  refine lv_iload_n hx hb d_I_bitCount_24 rfl (lv_at hl 0 rfl) ?_
  refine lv_iload_n hx hb d_I_bitCount_25 rfl (lv_at hl 0 rfl) ?_
  refine lv_iconst (v := (4 : Int32)) hx hb d_I_bitCount_26 (by decide) ?_
  refine lv_iushr hx hb d_I_bitCount_27 rfl ?_
  refine lv_iadd hx hb d_I_bitCount_28 ?_
  refine lv_ldcw (v := (252645135 : Int32)) hx hb hown (htl _ k_768) d_I_bitCount_29 ?_
  refine lv_iand hx hb d_I_bitCount_32 ?_
  refine lv_topi (fun v3 ev3 => ?_)
  have hf := dn_e ev3 hf
  refine lv_istore_n (lv' := [(0, .int v3)]) hx hb d_I_bitCount_33 rfl hl (by decide) rfl (fun ls hl => ?_)
  refine lv_iload_n hx hb d_I_bitCount_34 rfl (lv_at hl 0 rfl) ?_
  refine lv_iload_n hx hb d_I_bitCount_35 rfl (lv_at hl 0 rfl) ?_
  refine lv_bipush (v := (8 : Int32)) hx hb d_I_bitCount_36 (by decide) ?_
  refine lv_iushr hx hb d_I_bitCount_38 rfl ?_
  refine lv_iadd hx hb d_I_bitCount_39 ?_
  refine lv_topi (fun v4 ev4 => ?_)
  have hf := dn_e ev4 hf
  refine lv_istore_n (lv' := [(0, .int v4)]) hx hb d_I_bitCount_40 rfl hl (by decide) rfl (fun ls hl => ?_)
  refine lv_iload_n hx hb d_I_bitCount_41 rfl (lv_at hl 0 rfl) ?_
  refine lv_iload_n hx hb d_I_bitCount_42 rfl (lv_at hl 0 rfl) ?_
  refine lv_bipush (v := (16 : Int32)) hx hb d_I_bitCount_43 (by decide) ?_
  refine lv_iushr hx hb d_I_bitCount_45 rfl ?_
  refine lv_iadd hx hb d_I_bitCount_46 ?_
  refine lv_topi (fun v5 ev5 => ?_)
  have hf := dn_e ev5 hf
  refine lv_istore_n (lv' := [(0, .int v5)]) hx hb d_I_bitCount_47 rfl hl (by decide) rfl (fun ls hl => ?_)
  refine lv_iload_n hx hb d_I_bitCount_48 rfl (lv_at hl 0 rfl) ?_
  refine lv_bipush (v := (63 : Int32)) hx hb d_I_bitCount_49 (by decide) ?_
  refine lv_iand hx hb d_I_bitCount_51 ?_
  cases hf
  exact hret 52 ls H locs hP hS d_I_bitCount_52
set_option maxHeartbeats 4000000 in
set_option maxRecDepth 100000 in
theorem c_Y_fill_ints_int (l : Launch) (G : va_G × (Nat → ClassId)) (Y : (Nat → Nat) × (Nat → Nat)) (a_p1 : Nat) (g_p1 : Nat → Int32) (x1 : Int32) (N : Nat) (res : (Nat → Int32)) (hf : Y_fill_ints_int N g_p1 x1 = some res) : Cv l classes y_Y_fill_ints_int b_Y_fill_ints_int 4 none (rmk 0) G.1 (tyL G) Y [.ref a_p1, .int x1] [(a_p1, aI G 256 g_p1)] [(a_p1, aI G 256 res)] := by
  refine entV (by decide) (Nat.le_of_ble_eq_true rfl) ?_
  intro p e s m args below meth c ls A Q hx hb hml hown htl hK hsk wq hl hret
  obtain ⟨hP, hD, hS⟩ := wq
  have hl : lv_has ls 4 [(0, .ref a_p1), (1, .int x1)] := hl
  have hS : va_S A s.heap s.heap [] := hS
  obtain ⟨H, hH⟩ : ∃ H : Heap, H = s.heap := ⟨_, rfl⟩
  obtain ⟨locs, hlocs⟩ : ∃ z : List Loc, z = [] := ⟨_, rfl⟩
  rw [← hH] at hP
  replace hS : va_S A s.heap H locs := by rw [hH, hlocs]; exact hS
  suffices hgo : W p l e (rmk 0) s m args below meth c H locs 0 0 Q (F0 m 0 ls []) by rw [hH, hlocs] at hgo; exact hgo
  have hJ20 : ∀ (g_p1 : Nat → Int32) (H : Heap) (locs : List Loc) (ls : Array Slot), PDS G.1 classes A s [(a_p1, aI G 256 g_p1)] H locs → lv_has ls 4 [] → Y_fill_ints_int_20 N g_p1 = some res → W p l e (rmk 0) s m args below meth c H locs 0 0 Q (F0 m 20 ls []) := by
    intro g_p1 H locs ls wq hl hf
    obtain ⟨hP, hD, hS⟩ := wq
    cases hf
    exact hret 20 ls H locs hP hS d_Y_fill_ints_int_20
  have hJ5 : ∀ (g_p1 : Nat → Int32) (x2 : Int32) (x3 : Int32) (H : Heap) (locs : List Loc) (ls : Array Slot), PDS G.1 classes A s [(a_p1, aI G 256 g_p1)] H locs → lv_has ls 4 [(0, .ref a_p1), (1, .int x1), (2, .int x2), (3, .int x3)] → Y_fill_ints_int_5 N g_p1 x1 x2 x3 = some res → W p l e (rmk 0) s m args below meth c H locs 0 0 Q (F0 m 5 ls []) := by
    intro g_p1 x2 x3 H locs ls wq hl hf
    obtain ⟨hP, hD, hS⟩ := wq
    obtain ⟨y5, hy5, hfo5⟩ := db_e hf
    have hL5 : ∀ (n : Nat) (g_p1 : Nat → Int32) (x2 : Int32) (H : Heap) (locs : List Loc) (ls : Array Slot), lp (fun x => Y_fill_ints_int_b5 N x.1 x1 x.2 x3) n (g_p1, x2) = some y5 → PDS G.1 classes A s [(a_p1, aI G 256 g_p1)] H locs → lv_has ls 4 [(0, .ref a_p1), (1, .int x1), (2, .int x2), (3, .int x3)] → W p l e (rmk 0) s m args below meth c H locs 0 0 Q (F0 m 5 ls []) := by
      intro n
      induction n with
      | zero =>
        intro g_p1 x2 H locs ls hf
        exact lp_0 hf
      | succ n ih5 =>
        intro g_p1 x2 H locs ls hf wq hl
        obtain ⟨hP, hD, hS⟩ := wq
        obtain ⟨r5, hf, hk5⟩ := lp_s hf
        have hf : Y_fill_ints_int_b5 N g_p1 x1 x2 x3 = some r5 := hf
        refine lv_iload_n hx hb d_Y_fill_ints_int_5 rfl (lv_at hl 2 rfl) ?_
        refine lv_iload_n hx hb d_Y_fill_ints_int_6 rfl (lv_at hl 3 rfl) ?_
        refine lv_icmp_ge (tgt := 20) hx hb d_Y_fill_ints_int_7 (by decide) (fun c1 => ?_) (fun c1 => ?_)
        · have hf := di_t c1 hf
          have hq5 := lpk_x hf hk5
          have hf := ex_y (f := fun y => Y_fill_ints_int_a5 N x1 x3 y) hq5 hfo5
          have hf : Y_fill_ints_int_20 N g_p1 = some res := hf
          exact hJ20 g_p1 H locs ls ⟨hP, hD, hS⟩ (lv_sub hl [] rfl) hf
        · have hf := di_f c1 hf
          refine lv_aload_n hx hb d_Y_fill_ints_int_10 rfl (lv_at hl 0 rfl) ?_
          refine lv_iload_n hx hb d_Y_fill_ints_int_11 rfl (lv_at hl 2 rfl) ?_
          refine lv_iload_n hx hb d_Y_fill_ints_int_12 rfl (lv_at hl 1 rfl) ?_
          obtain ⟨c2, hf⟩ := dk_e hf
          refine nx_iast hx hb hK hP hD hS 0 1 rfl rfl c2 d_Y_fill_ints_int_13 (fun v3 ev3 H locs hP hD hS => ?_)
          have hf := dn_e ev3 hf
          have hP : va_P G.1 classes [(a_p1, aI G 256 v3)] H := hP
          have hD : va_D A [(a_p1, aI G 256 v3)] := hD
          obtain ⟨v4, ev4⟩ : ∃ z : Int32, z = x2 + (1 : Int32) := ⟨_, rfl⟩
          have hf := dn_e ev4 hf
          refine lv_iinc (v := v4) (lv' := [(2, .int v4), (0, .ref a_p1), (1, .int x1), (3, .int x3)]) hx hb d_Y_fill_ints_int_14 hl (k := 2) rfl (by rw [ev4]; rfl) (by decide) rfl (fun ls hl => ?_)
          refine lv_goto (tgt := 5) hx hb d_Y_fill_ints_int_17 (by decide) ?_
          exact ih5 v3 v4 H locs ls (lpk_i hf hk5) ⟨hP, hD, hS⟩ (lv_sub hl [1, 2, 0, 3] rfl)
    exact hL5 N g_p1 x2 H locs ls hy5 ⟨hP, hD, hS⟩ hl
  refine lv_iconst (v := (0 : Int32)) hx hb d_Y_fill_ints_int_0 (by decide) ?_
  refine lv_istore_n (lv' := [(2, .int (0 : Int32)), (0, .ref a_p1), (1, .int x1)]) hx hb d_Y_fill_ints_int_1 rfl hl (by decide) rfl (fun ls hl => ?_)
  refine lv_aload_n hx hb d_Y_fill_ints_int_2 rfl (lv_at hl 1 rfl) ?_
  refine va_alen hx hb hK hP 0 1 rfl (ty := .int) rfl (v := (256 : Int32)) rfl d_Y_fill_ints_int_3 ?_
  refine lv_istore_n (lv' := [(3, .int (256 : Int32)), (2, .int (0 : Int32)), (0, .ref a_p1), (1, .int x1)]) hx hb d_Y_fill_ints_int_4 rfl hl (by decide) rfl (fun ls hl => ?_)
  exact hJ5 g_p1 (0 : Int32) (256 : Int32) H locs ls ⟨hP, hD, hS⟩ (lv_sub hl [2, 3, 1, 0] rfl) hf
set_option maxHeartbeats 4000000 in
set_option maxRecDepth 100000 in
theorem c_J_isOne (l : Launch) (G : va_G × (Nat → ClassId)) (Y : (Nat → Nat) × (Nat → Nat)) (x0 : Int32) (res : Int32) (hf : J_isOne x0 = res) : Ci l classes y_J_isOne b_J_isOne 1 (some .boolean) (rmk 1) G.1 (tyL G) Y [.int x0] [] [] res := by
  refine entZ (by decide) (Nat.le_of_ble_eq_true rfl) ?_
  intro p e s m args below meth c ls A Q hx hb hml hown htl hK hsk wq hl hret
  obtain ⟨hP, hD, hS⟩ := wq
  have hl : lv_has ls 1 [(0, .int x0)] := hl
  have hS : va_S A s.heap s.heap [] := hS
  obtain ⟨H, hH⟩ : ∃ H : Heap, H = s.heap := ⟨_, rfl⟩
  obtain ⟨locs, hlocs⟩ : ∃ z : List Loc, z = [] := ⟨_, rfl⟩
  rw [← hH] at hP
  replace hS : va_S A s.heap H locs := by rw [hH, hlocs]; exact hS
  suffices hgo : W p l e (rmk 1) s m args below meth c H locs 0 0 Q (F0 m 0 ls []) by rw [hH, hlocs] at hgo; exact hgo
  refine lv_iload_n hx hb d_J_isOne_0 rfl (lv_at hl 0 rfl) ?_
  refine call_i (isC := []) (run_S (As := [.int x0]) (rest := []) hx hb hml hown htl (c_I_bitCount l G Y  x0 _ rfl) ms_I_bitCount k_878 (hRk (by decide) (by decide)) hK hsk hS hP hD (isC := []) rfl (by decide) rfl hl.1 rfl (lv_room (Nat.le_of_ble_eq_true rfl)) d_J_isOne_1) hP hD hS rfl rfl (fun H locs hP hD hS => ?_)
  have hP : va_P G.1 classes [] H := hP
  have hD : va_D A [] := hD
  refine lv_iconst (v := (1 : Int32)) hx hb d_J_isOne_4 (by decide) ?_
  refine lv_icmp_ne (tgt := 12) hx hb d_J_isOne_5 (by decide) (fun c1 => ?_) (fun c1 => ?_)
  · have hf := di_f c1 hf
    refine lv_iconst (v := (0 : Int32)) hx hb d_J_isOne_12 (by decide) ?_
    cases hf
    exact hret 13 ls H locs z_0 hP hS d_J_isOne_13
  · have hf := di_t c1 hf
    refine lv_iconst (v := (1 : Int32)) hx hb d_J_isOne_8 (by decide) ?_
    refine lv_goto (tgt := 13) hx hb d_J_isOne_9 (by decide) ?_
    cases hf
    exact hret 13 ls H locs z_1 hP hS d_J_isOne_13
set_option maxHeartbeats 4000000 in
set_option maxRecDepth 100000 in
theorem c_J_least (l : Launch) (G : va_G × (Nat → ClassId)) (Y : (Nat → Nat) × (Nat → Nat)) (x0 : Int32) (res : Int32) (hf : J_least x0 = res) : Ci l classes y_J_least b_J_least 1 (some .int) (rmk 0) G.1 (tyL G) Y [.int x0] [] [] res := by
  refine entI (by decide) (Nat.le_of_ble_eq_true rfl) ?_
  intro p e s m args below meth c ls A Q hx hb hml hown htl hK hsk wq hl hret
  obtain ⟨hP, hD, hS⟩ := wq
  have hl : lv_has ls 1 [(0, .int x0)] := hl
  have hS : va_S A s.heap s.heap [] := hS
  obtain ⟨H, hH⟩ : ∃ H : Heap, H = s.heap := ⟨_, rfl⟩
  obtain ⟨locs, hlocs⟩ : ∃ z : List Loc, z = [] := ⟨_, rfl⟩
  rw [← hH] at hP
  replace hS : va_S A s.heap H locs := by rw [hH, hlocs]; exact hS
  suffices hgo : W p l e (rmk 0) s m args below meth c H locs 0 0 Q (F0 m 0 ls []) by rw [hH, hlocs] at hgo; exact hgo
  refine lv_iload_n hx hb d_J_least_0 rfl (lv_at hl 0 rfl) ?_
  refine lv_iload_n hx hb d_J_least_1 rfl (lv_at hl 0 rfl) ?_
  refine lv_ineg hx hb d_J_least_2 ?_
  refine lv_iand hx hb d_J_least_3 ?_
  cases hf
  exact hret 4 ls H locs hP hS d_J_least_4
set_option maxHeartbeats 4000000 in
set_option maxRecDepth 100000 in
theorem c_J_relationOf (l : Launch) (G : va_G × (Nat → ClassId)) (Y : (Nat → Nat) × (Nat → Nat)) (x0 : Int32) (res : Int32) (hf : J_relationOf x0 = res) : Ci l classes y_J_relationOf b_J_relationOf 1 (some .int) (rmk 1) G.1 (tyL G) Y [.int x0] [] [] res := by
  refine entI (by decide) (Nat.le_of_ble_eq_true rfl) ?_
  intro p e s m args below meth c ls A Q hx hb hml hown htl hK hsk wq hl hret
  obtain ⟨hP, hD, hS⟩ := wq
  have hl : lv_has ls 1 [(0, .int x0)] := hl
  have hS : va_S A s.heap s.heap [] := hS
  obtain ⟨H, hH⟩ : ∃ H : Heap, H = s.heap := ⟨_, rfl⟩
  obtain ⟨locs, hlocs⟩ : ∃ z : List Loc, z = [] := ⟨_, rfl⟩
  rw [← hH] at hP
  replace hS : va_S A s.heap H locs := by rw [hH, hlocs]; exact hS
  suffices hgo : W p l e (rmk 1) s m args below meth c H locs 0 0 Q (F0 m 0 ls []) by rw [hH, hlocs] at hgo; exact hgo
  refine lv_iload_n hx hb d_J_relationOf_0 rfl (lv_at hl 0 rfl) ?_
  refine lv_iconst (v := (1 : Int32)) hx hb d_J_relationOf_1 (by decide) ?_
  refine lv_isub hx hb d_J_relationOf_2 ?_
  refine call_i (isC := []) (run_S (As := [.int (x0 - (1 : Int32))]) (rest := []) hx hb hml hown htl (c_I_bitCount l G Y  (x0 - (1 : Int32)) _ rfl) ms_I_bitCount k_878 (hRk (by decide) (by decide)) hK hsk hS hP hD (isC := []) rfl (by decide) rfl hl.1 rfl (lv_room (Nat.le_of_ble_eq_true rfl)) d_J_relationOf_3) hP hD hS rfl rfl (fun H locs hP hD hS => ?_)
  have hP : va_P G.1 classes [] H := hP
  have hD : va_D A [] := hD
  cases hf
  exact hret 6 ls H locs hP hS d_J_relationOf_6
set_option maxHeartbeats 4000000 in
set_option maxRecDepth 100000 in
theorem c_J_firstOf (l : Launch) (G : va_G × (Nat → ClassId)) (Y : (Nat → Nat) × (Nat → Nat)) (x0 : Int32) (x1 : Int32) (res : Int32) (hf : J_firstOf x0 x1 = res) : Ci l classes y_J_firstOf b_J_firstOf 2 (some .int) (rmk 1) G.1 (tyL G) Y [.int x0, .int x1] [] [] res := by
  refine entI (by decide) (Nat.le_of_ble_eq_true rfl) ?_
  intro p e s m args below meth c ls A Q hx hb hml hown htl hK hsk wq hl hret
  obtain ⟨hP, hD, hS⟩ := wq
  have hl : lv_has ls 2 [(0, .int x0), (1, .int x1)] := hl
  have hS : va_S A s.heap s.heap [] := hS
  obtain ⟨H, hH⟩ : ∃ H : Heap, H = s.heap := ⟨_, rfl⟩
  obtain ⟨locs, hlocs⟩ : ∃ z : List Loc, z = [] := ⟨_, rfl⟩
  rw [← hH] at hP
  replace hS : va_S A s.heap H locs := by rw [hH, hlocs]; exact hS
  suffices hgo : W p l e (rmk 1) s m args below meth c H locs 0 0 Q (F0 m 0 ls []) by rw [hH, hlocs] at hgo; exact hgo
  refine lv_iload_n hx hb d_J_firstOf_0 rfl (lv_at hl 0 rfl) ?_
  refine call_i (isC := []) (run_S (As := [.int x0]) (rest := []) hx hb hml hown htl (c_J_least l G Y  x0 _ rfl) ms_J_least k_661 (hRk (by decide) (by decide)) hK hsk hS hP hD (isC := []) rfl (by decide) rfl hl.1 rfl (lv_room (Nat.le_of_ble_eq_true rfl)) d_J_firstOf_1) hP hD hS rfl rfl (fun H locs hP hD hS => ?_)
  have hP : va_P G.1 classes [] H := hP
  have hD : va_D A [] := hD
  refine lv_iload_n hx hb d_J_firstOf_4 rfl (lv_at hl 1 rfl) ?_
  refine call_i (isC := []) (run_S (As := [.int x1]) (rest := [.int (J_least x0)]) hx hb hml hown htl (c_J_least l G Y  x1 _ rfl) ms_J_least k_661 (hRk (by decide) (by decide)) hK hsk hS hP hD (isC := []) rfl (by decide) rfl hl.1 rfl (lv_room (Nat.le_of_ble_eq_true rfl)) d_J_firstOf_5) hP hD hS rfl rfl (fun H locs hP hD hS => ?_)
  have hP : va_P G.1 classes [] H := hP
  have hD : va_D A [] := hD
  refine lv_icmp_ge (tgt := 15) hx hb d_J_firstOf_8 (by decide) (fun c1 => ?_) (fun c1 => ?_)
  · have hf := di_t c1 hf
    refine lv_iload_n hx hb d_J_firstOf_15 rfl (lv_at hl 1 rfl) ?_
    cases hf
    exact hret 16 ls H locs hP hS d_J_firstOf_16
  · have hf := di_f c1 hf
    refine lv_iload_n hx hb d_J_firstOf_11 rfl (lv_at hl 0 rfl) ?_
    refine lv_goto (tgt := 16) hx hb d_J_firstOf_12 (by decide) ?_
    cases hf
    exact hret 16 ls H locs hP hS d_J_firstOf_16
set_option maxHeartbeats 4000000 in
set_option maxRecDepth 100000 in
theorem c_J_splitsOf (l : Launch) (G : va_G × (Nat → ClassId)) (Y : (Nat → Nat) × (Nat → Nat)) (x0 : Int32) (res : Int32) (hf : J_splitsOf x0 = res) : Ci l classes y_J_splitsOf b_J_splitsOf 1 (some .int) (rmk 1) G.1 (tyL G) Y [.int x0] [] [] res := by
  refine entI (by decide) (Nat.le_of_ble_eq_true rfl) ?_
  intro p e s m args below meth c ls A Q hx hb hml hown htl hK hsk wq hl hret
  obtain ⟨hP, hD, hS⟩ := wq
  have hl : lv_has ls 1 [(0, .int x0)] := hl
  have hS : va_S A s.heap s.heap [] := hS
  obtain ⟨H, hH⟩ : ∃ H : Heap, H = s.heap := ⟨_, rfl⟩
  obtain ⟨locs, hlocs⟩ : ∃ z : List Loc, z = [] := ⟨_, rfl⟩
  rw [← hH] at hP
  replace hS : va_S A s.heap H locs := by rw [hH, hlocs]; exact hS
  suffices hgo : W p l e (rmk 1) s m args below meth c H locs 0 0 Q (F0 m 0 ls []) by rw [hH, hlocs] at hgo; exact hgo
  refine lv_iconst (v := (1 : Int32)) hx hb d_J_splitsOf_0 (by decide) ?_
  refine lv_iload_n hx hb d_J_splitsOf_1 rfl (lv_at hl 0 rfl) ?_
  refine lv_iload_n hx hb d_J_splitsOf_2 rfl (lv_at hl 0 rfl) ?_
  refine call_i (isC := []) (run_S (As := [.int x0]) (rest := [.int x0, .int (1 : Int32)]) hx hb hml hown htl (c_J_least l G Y  x0 _ rfl) ms_J_least k_661 (hRk (by decide) (by decide)) hK hsk hS hP hD (isC := []) rfl (by decide) rfl hl.1 rfl (lv_room (Nat.le_of_ble_eq_true rfl)) d_J_splitsOf_3) hP hD hS rfl rfl (fun H locs hP hD hS => ?_)
  have hP : va_P G.1 classes [] H := hP
  have hD : va_D A [] := hD
  refine lv_ixor hx hb d_J_splitsOf_6 ?_
  refine call_i (isC := []) (run_S (As := [.int (x0 ^^^ (J_least x0))]) (rest := [.int (1 : Int32)]) hx hb hml hown htl (c_I_bitCount l G Y  (x0 ^^^ (J_least x0)) _ rfl) ms_I_bitCount k_878 (hRk (by decide) (by decide)) hK hsk hS hP hD (isC := []) rfl (by decide) rfl hl.1 rfl (lv_room (Nat.le_of_ble_eq_true rfl)) d_J_splitsOf_7) hP hD hS rfl rfl (fun H locs hP hD hS => ?_)
  have hP : va_P G.1 classes [] H := hP
  have hD : va_D A [] := hD
  refine lv_ishl hx hb d_J_splitsOf_10 ?_
  refine lv_iconst (v := (1 : Int32)) hx hb d_J_splitsOf_11 (by decide) ?_
  refine lv_isub hx hb d_J_splitsOf_12 ?_
  cases hf
  exact hret 13 ls H locs hP hS d_J_splitsOf_13
set_option maxHeartbeats 4000000 in
set_option maxRecDepth 100000 in
theorem c_J_nextPart (l : Launch) (G : va_G × (Nat → ClassId)) (Y : (Nat → Nat) × (Nat → Nat)) (x0 : Int32) (x1 : Int32) (res : Int32) (hf : J_nextPart x0 x1 = res) : Ci l classes y_J_nextPart b_J_nextPart 4 (some .int) (rmk 1) G.1 (tyL G) Y [.int x0, .int x1] [] [] res := by
  refine entI (by decide) (Nat.le_of_ble_eq_true rfl) ?_
  intro p e s m args below meth c ls A Q hx hb hml hown htl hK hsk wq hl hret
  obtain ⟨hP, hD, hS⟩ := wq
  have hl : lv_has ls 4 [(0, .int x0), (1, .int x1)] := hl
  have hS : va_S A s.heap s.heap [] := hS
  obtain ⟨H, hH⟩ : ∃ H : Heap, H = s.heap := ⟨_, rfl⟩
  obtain ⟨locs, hlocs⟩ : ∃ z : List Loc, z = [] := ⟨_, rfl⟩
  rw [← hH] at hP
  replace hS : va_S A s.heap H locs := by rw [hH, hlocs]; exact hS
  suffices hgo : W p l e (rmk 1) s m args below meth c H locs 0 0 Q (F0 m 0 ls []) by rw [hH, hlocs] at hgo; exact hgo
  refine lv_iload_n hx hb d_J_nextPart_0 rfl (lv_at hl 0 rfl) ?_
  refine call_i (isC := []) (run_S (As := [.int x0]) (rest := []) hx hb hml hown htl (c_J_least l G Y  x0 _ rfl) ms_J_least k_661 (hRk (by decide) (by decide)) hK hsk hS hP hD (isC := []) rfl (by decide) rfl hl.1 rfl (lv_room (Nat.le_of_ble_eq_true rfl)) d_J_nextPart_1) hP hD hS rfl rfl (fun H locs hP hD hS => ?_)
  have hP : va_P G.1 classes [] H := hP
  have hD : va_D A [] := hD
  refine lv_topi (fun v1 ev1 => ?_)
  have hf := dn_e ev1 hf
  refine lv_istore_n (lv' := [(2, .int v1), (0, .int x0), (1, .int x1)]) hx hb d_J_nextPart_4 rfl hl (by decide) rfl (fun ls hl => ?_)
  refine lv_iload_n hx hb d_J_nextPart_5 rfl (lv_at hl 1 rfl) ?_
  refine lv_iload_n hx hb d_J_nextPart_6 rfl (lv_at hl 0 rfl) ?_
  refine lv_ixor hx hb d_J_nextPart_7 ?_
  refine lv_topi (fun v2 ev2 => ?_)
  have hf := dn_e ev2 hf
  refine lv_istore_n (lv' := [(3, .int v2), (2, .int v1), (0, .int x0), (1, .int x1)]) hx hb d_J_nextPart_8 rfl hl (by decide) rfl (fun ls hl => ?_)
  refine lv_iload_n hx hb d_J_nextPart_9 rfl (lv_at hl 1 rfl) ?_
  refine lv_iload_n hx hb d_J_nextPart_10 rfl (lv_at hl 3 rfl) ?_
  refine lv_iload_n hx hb d_J_nextPart_11 rfl (lv_at hl 1 rfl) ?_
  refine lv_ixor hx hb d_J_nextPart_12 ?_
  refine lv_iload_n hx hb d_J_nextPart_13 rfl (lv_at hl 0 rfl) ?_
  refine lv_isub hx hb d_J_nextPart_14 ?_
  refine lv_iload_n hx hb d_J_nextPart_15 rfl (lv_at hl 0 rfl) ?_
  refine lv_iand hx hb d_J_nextPart_16 ?_
  refine lv_ior hx hb d_J_nextPart_17 ?_
  cases hf
  exact hret 18 ls H locs hP hS d_J_nextPart_18
set_option maxHeartbeats 4000000 in
set_option maxRecDepth 100000 in
theorem c_J_isBetter (l : Launch) (G : va_G × (Nat → ClassId)) (Y : (Nat → Nat) × (Nat → Nat)) (x0 : Int32) (x1 : Int64) (x3 : Int32) (x4 : Int64) (res : Int32) (hf : J_isBetter x0 x1 x3 x4 = res) : Ci l classes y_J_isBetter b_J_isBetter 6 (some .boolean) (rmk 0) G.1 (tyL G) Y [.int x0, .long x1, .int x3, .long x4] [] [] res := by
  refine entZ (by decide) (Nat.le_of_ble_eq_true rfl) ?_
  intro p e s m args below meth c ls A Q hx hb hml hown htl hK hsk wq hl hret
  obtain ⟨hP, hD, hS⟩ := wq
  have hl : lv_has ls 6 [(0, .int x0), (1, .long x1), (3, .int x3), (4, .long x4)] := hl
  have hS : va_S A s.heap s.heap [] := hS
  obtain ⟨H, hH⟩ : ∃ H : Heap, H = s.heap := ⟨_, rfl⟩
  obtain ⟨locs, hlocs⟩ : ∃ z : List Loc, z = [] := ⟨_, rfl⟩
  rw [← hH] at hP
  replace hS : va_S A s.heap H locs := by rw [hH, hlocs]; exact hS
  suffices hgo : W p l e (rmk 0) s m args below meth c H locs 0 0 Q (F0 m 0 ls []) by rw [hH, hlocs] at hgo; exact hgo
  refine lv_iload_n hx hb d_J_isBetter_0 rfl (lv_at hl 0 rfl) ?_
  refine lv_iload_n hx hb d_J_isBetter_1 rfl (lv_at hl 2 rfl) ?_
  refine lv_icmp_lt (tgt := 17) hx hb d_J_isBetter_2 (by decide) (fun c1 => ?_) (fun c1 => ?_)
  · have hf := di_t c1 hf
    refine lv_iconst (v := (1 : Int32)) hx hb d_J_isBetter_17 (by decide) ?_
    refine lv_goto (tgt := 22) hx hb d_J_isBetter_18 (by decide) ?_
    cases hf
    exact hret 22 ls H locs z_1 hP hS d_J_isBetter_22
  · have hf := di_f c1 hf
    refine lv_iload_n hx hb d_J_isBetter_5 rfl (lv_at hl 0 rfl) ?_
    refine lv_iload_n hx hb d_J_isBetter_6 rfl (lv_at hl 2 rfl) ?_
    refine lv_icmp_ne (tgt := 21) hx hb d_J_isBetter_7 (by decide) (fun c2 => ?_) (fun c2 => ?_)
    · have hf := di_f c2 hf
      refine lv_iconst (v := (0 : Int32)) hx hb d_J_isBetter_21 (by decide) ?_
      cases hf
      exact hret 22 ls H locs z_0 hP hS d_J_isBetter_22
    · have hf := di_t c2 hf
      refine lv_lload_n hx hb d_J_isBetter_10 rfl (lv_at hl 1 rfl) ?_
      refine lv_lload hx hb d_J_isBetter_11 (lv_at hl 3 rfl) ?_
      refine lx_ge (tgt := 21) hx hb d_J_isBetter_13 d_J_isBetter_14 (by decide) (fun c3 => ?_) (fun c3 => ?_)
      · have hf := di_f c3 hf
        refine lv_iconst (v := (0 : Int32)) hx hb d_J_isBetter_21 (by decide) ?_
        cases hf
        exact hret 22 ls H locs z_0 hP hS d_J_isBetter_22
      · have hf := di_t c3 hf
        refine lv_iconst (v := (1 : Int32)) hx hb d_J_isBetter_17 (by decide) ?_
        refine lv_goto (tgt := 22) hx hb d_J_isBetter_18 (by decide) ?_
        cases hf
        exact hret 22 ls H locs z_1 hP hS d_J_isBetter_22
set_option maxHeartbeats 4000000 in
set_option maxRecDepth 100000 in
theorem c_S_areJoined (l : Launch) (G : va_G × (Nat → ClassId)) (Y : (Nat → Nat) × (Nat → Nat)) (h0 : Nat) (a_sizes : Nat) (a_capped : Nat) (a_connected : Nat) (a_leftIn : Nat) (a_rightIn : Nat) (a_pairs : Nat) (f_known : Int32) (f_paired : Int32) (f_cappedInAll : Int32) (f_connectedInAll : Int32) (f_pairsInAll : Int32) (f_end : Int32) (g_leftIn : Nat → Int32) (g_rightIn : Nat → Int32) (x1 : Int32) (x2 : Int32) (res : Int32) (hf : S_areJoined g_leftIn g_rightIn x1 x2 = some res) : Ci l classes y_S_areJoined b_S_areJoined 3 (some .boolean) (rmk 0) G.1 (tyL G) Y [.ref h0, .int x1, .int x2] [(h0, O_S f_known f_paired f_cappedInAll f_connectedInAll f_pairsInAll a_sizes a_capped a_connected f_end a_leftIn a_rightIn a_pairs), (a_leftIn, aI G 256 g_leftIn), (a_rightIn, aI G 256 g_rightIn)] [(h0, O_S f_known f_paired f_cappedInAll f_connectedInAll f_pairsInAll a_sizes a_capped a_connected f_end a_leftIn a_rightIn a_pairs), (a_leftIn, aI G 256 g_leftIn), (a_rightIn, aI G 256 g_rightIn)] res := by
  refine entZ (by decide) (Nat.le_of_ble_eq_true rfl) ?_
  intro p e s m args below meth c ls A Q hx hb hml hown htl hK hsk wq hl hret
  obtain ⟨hP, hD, hS⟩ := wq
  have hl : lv_has ls 3 [(0, .ref h0), (1, .int x1), (2, .int x2)] := hl
  have hS : va_S A s.heap s.heap [] := hS
  obtain ⟨H, hH⟩ : ∃ H : Heap, H = s.heap := ⟨_, rfl⟩
  obtain ⟨locs, hlocs⟩ : ∃ z : List Loc, z = [] := ⟨_, rfl⟩
  rw [← hH] at hP
  replace hS : va_S A s.heap H locs := by rw [hH, hlocs]; exact hS
  suffices hgo : W p l e (rmk 0) s m args below meth c H locs 0 0 Q (F0 m 0 ls []) by rw [hH, hlocs] at hgo; exact hgo
  refine lv_aload_n hx hb d_S_areJoined_0 rfl (lv_at hl 0 rfl) ?_
  refine va_get (D := G.1) (ci := 8) (v := .ref a_leftIn) (C := n_S) (T := T_S) (N := 12) hx hb htl iw_S hown hK hP 0 rfl rfl 9 (by decide) (htl _ k_362) (fun _ h9 => h9) rfl d_S_areJoined_1 ?_
  refine lv_iload_n hx hb d_S_areJoined_4 rfl (lv_at hl 1 rfl) ?_
  obtain ⟨c1, hf⟩ := dk_e hf
  refine va_iald hx hb hK hP 1 1 rfl rfl c1 d_S_areJoined_5 ?_
  refine lv_aload_n hx hb d_S_areJoined_6 rfl (lv_at hl 0 rfl) ?_
  refine va_get (D := G.1) (ci := 8) (v := .ref a_rightIn) (C := n_S) (T := T_S) (N := 12) hx hb htl iw_S hown hK hP 0 rfl rfl 10 (by decide) (htl _ k_363) (fun _ h9 => h9) rfl d_S_areJoined_7 ?_
  refine lv_iload_n hx hb d_S_areJoined_10 rfl (lv_at hl 2 rfl) ?_
  obtain ⟨c2, hf⟩ := dk_e hf
  refine va_iald hx hb hK hP 2 1 rfl rfl c2 d_S_areJoined_11 ?_
  refine lv_iand hx hb d_S_areJoined_12 ?_
  refine lv_aload_n hx hb d_S_areJoined_13 rfl (lv_at hl 0 rfl) ?_
  refine va_get (D := G.1) (ci := 8) (v := .ref a_leftIn) (C := n_S) (T := T_S) (N := 12) hx hb htl iw_S hown hK hP 0 rfl rfl 9 (by decide) (htl _ k_362) (fun _ h9 => h9) rfl d_S_areJoined_14 ?_
  refine lv_iload_n hx hb d_S_areJoined_17 rfl (lv_at hl 2 rfl) ?_
  refine va_iald hx hb hK hP 1 1 rfl rfl c2 d_S_areJoined_18 ?_
  refine lv_aload_n hx hb d_S_areJoined_19 rfl (lv_at hl 0 rfl) ?_
  refine va_get (D := G.1) (ci := 8) (v := .ref a_rightIn) (C := n_S) (T := T_S) (N := 12) hx hb htl iw_S hown hK hP 0 rfl rfl 10 (by decide) (htl _ k_363) (fun _ h9 => h9) rfl d_S_areJoined_20 ?_
  refine lv_iload_n hx hb d_S_areJoined_23 rfl (lv_at hl 1 rfl) ?_
  refine va_iald hx hb hK hP 2 1 rfl rfl c1 d_S_areJoined_24 ?_
  refine lv_iand hx hb d_S_areJoined_25 ?_
  refine lv_ior hx hb d_S_areJoined_26 ?_
  refine lv_if_eq (tgt := 34) hx hb d_S_areJoined_27 (by decide) (fun c3 => ?_) (fun c3 => ?_)
  · have hf := di_t c3 hf
    refine lv_iconst (v := (0 : Int32)) hx hb d_S_areJoined_34 (by decide) ?_
    cases hf
    exact hret 35 ls H locs z_0 hP hS d_S_areJoined_35
  · have hf := di_f c3 hf
    refine lv_iconst (v := (1 : Int32)) hx hb d_S_areJoined_30 (by decide) ?_
    refine lv_goto (tgt := 35) hx hb d_S_areJoined_31 (by decide) ?_
    cases hf
    exact hret 35 ls H locs z_1 hP hS d_S_areJoined_35
set_option maxHeartbeats 4000000 in
set_option maxRecDepth 100000 in
theorem c_B_weigh (l : Launch) (G : va_G × (Nat → ClassId)) (Y : (Nat → Nat) × (Nat → Nat)) (h0 : Nat) (a_p3 : Nat) (a_p3_sizes : Nat) (a_p3_capped : Nat) (a_p3_connected : Nat) (a_p3_leftIn : Nat) (a_p3_rightIn : Nat) (a_p3_pairs : Nat) (a_costs : Nat) (a_crosses : Nat) (a_part : Nat) (f_p3_known : Int32) (f_p3_paired : Int32) (f_p3_cappedInAll : Int32) (f_p3_connectedInAll : Int32) (f_p3_pairsInAll : Int32) (f_p3_end : Int32) (f_known : Int32) (g_p3_leftIn : Nat → Int32) (g_p3_rightIn : Nat → Int32) (g_p3_sizes : Nat → Int64) (g_costs : Nat → Int64) (g_crosses : Nat → Int32) (g_part : Nat → Int32) (x1 : Int32) (x2 : Int32) (res : (Nat → Int64) × (Nat → Int32) × (Nat → Int32)) (hf : B_weigh g_p3_leftIn g_p3_rightIn g_p3_sizes g_costs g_crosses g_part x1 x2 = some res) : Cv l classes y_B_weigh b_B_weigh 8 none (rmk 1) G.1 (tyL G) Y [.ref h0, .int x1, .int x2, .ref a_p3] [(a_p3, O_S f_p3_known f_p3_paired f_p3_cappedInAll f_p3_connectedInAll f_p3_pairsInAll a_p3_sizes a_p3_capped a_p3_connected f_p3_end a_p3_leftIn a_p3_rightIn a_p3_pairs), (h0, O_B f_known a_costs a_crosses a_part), (a_p3_leftIn, aI G 256 g_p3_leftIn), (a_p3_rightIn, aI G 256 g_p3_rightIn), (a_p3_sizes, aJ G 256 g_p3_sizes), (a_costs, aJ G 256 g_costs), (a_crosses, aI G 256 g_crosses), (a_part, aI G 256 g_part)] [(a_p3, O_S f_p3_known f_p3_paired f_p3_cappedInAll f_p3_connectedInAll f_p3_pairsInAll a_p3_sizes a_p3_capped a_p3_connected f_p3_end a_p3_leftIn a_p3_rightIn a_p3_pairs), (h0, O_B f_known a_costs a_crosses a_part), (a_p3_leftIn, aI G 256 g_p3_leftIn), (a_p3_rightIn, aI G 256 g_p3_rightIn), (a_p3_sizes, aJ G 256 g_p3_sizes), (a_costs, aJ G 256 res.1), (a_crosses, aI G 256 res.2.1), (a_part, aI G 256 res.2.2)] := by
  refine entV (by decide) (Nat.le_of_ble_eq_true rfl) ?_
  intro p e s m args below meth c ls A Q hx hb hml hown htl hK hsk wq hl hret
  obtain ⟨hP, hD, hS⟩ := wq
  have hl : lv_has ls 8 [(0, .ref h0), (1, .int x1), (2, .int x2), (3, .ref a_p3)] := hl
  have hS : va_S A s.heap s.heap [] := hS
  obtain ⟨H, hH⟩ : ∃ H : Heap, H = s.heap := ⟨_, rfl⟩
  obtain ⟨locs, hlocs⟩ : ∃ z : List Loc, z = [] := ⟨_, rfl⟩
  rw [← hH] at hP
  replace hS : va_S A s.heap H locs := by rw [hH, hlocs]; exact hS
  suffices hgo : W p l e (rmk 1) s m args below meth c H locs 0 0 Q (F0 m 0 ls []) by rw [hH, hlocs] at hgo; exact hgo
  have hJ97 : ∀ (g_costs : Nat → Int64) (g_crosses : Nat → Int32) (g_part : Nat → Int32) (x5 : Int32) (x6 : Int64) (H : Heap) (locs : List Loc) (ls : Array Slot), PDS G.1 classes A s [(a_p3, O_S f_p3_known f_p3_paired f_p3_cappedInAll f_p3_connectedInAll f_p3_pairsInAll a_p3_sizes a_p3_capped a_p3_connected f_p3_end a_p3_leftIn a_p3_rightIn a_p3_pairs), (h0, O_B f_known a_costs a_crosses a_part), (a_p3_leftIn, aI G 256 g_p3_leftIn), (a_p3_rightIn, aI G 256 g_p3_rightIn), (a_p3_sizes, aJ G 256 g_p3_sizes), (a_costs, aJ G 256 g_costs), (a_crosses, aI G 256 g_crosses), (a_part, aI G 256 g_part)] H locs → lv_has ls 8 [(0, .ref h0), (1, .int x1), (2, .int x2), (5, .int x5), (6, .long x6)] → B_weigh_97 g_p3_leftIn g_p3_rightIn g_p3_sizes g_costs g_crosses g_part x1 x2 x5 x6 = some res → W p l e (rmk 1) s m args below meth c H locs 0 0 Q (F0 m 97 ls []) := by
    intro g_costs g_crosses g_part x5 x6 H locs ls wq hl hf
    obtain ⟨hP, hD, hS⟩ := wq
    refine lv_aload_n hx hb d_B_weigh_97 rfl (lv_at hl 0 rfl) ?_
    refine va_get (D := G.1) (ci := 0) (v := .ref a_costs) (C := n_B) (T := T_B) (N := 4) hx hb htl iw_B hown hK hP 1 rfl rfl 1 (by decide) (htl _ k_400) (fun _ h9 => h9) rfl d_B_weigh_98 ?_
    refine lv_iload_n hx hb d_B_weigh_101 rfl (lv_at hl 1 rfl) ?_
    refine lv_lload hx hb d_B_weigh_102 (lv_at hl 4 rfl) ?_
    obtain ⟨c14, hf⟩ := dk_e hf
    refine nx_last hx hb hK hP hD hS 5 2 rfl rfl c14 d_B_weigh_104 (fun v15 ev15 H locs hP hD hS => ?_)
    have hf := dn_e ev15 hf
    have hP : va_P G.1 classes [(a_p3, O_S f_p3_known f_p3_paired f_p3_cappedInAll f_p3_connectedInAll f_p3_pairsInAll a_p3_sizes a_p3_capped a_p3_connected f_p3_end a_p3_leftIn a_p3_rightIn a_p3_pairs), (h0, O_B f_known a_costs a_crosses a_part), (a_p3_leftIn, aI G 256 g_p3_leftIn), (a_p3_rightIn, aI G 256 g_p3_rightIn), (a_p3_sizes, aJ G 256 g_p3_sizes), (a_costs, aJ G 256 v15), (a_crosses, aI G 256 g_crosses), (a_part, aI G 256 g_part)] H := hP
    have hD : va_D A [(a_p3, O_S f_p3_known f_p3_paired f_p3_cappedInAll f_p3_connectedInAll f_p3_pairsInAll a_p3_sizes a_p3_capped a_p3_connected f_p3_end a_p3_leftIn a_p3_rightIn a_p3_pairs), (h0, O_B f_known a_costs a_crosses a_part), (a_p3_leftIn, aI G 256 g_p3_leftIn), (a_p3_rightIn, aI G 256 g_p3_rightIn), (a_p3_sizes, aJ G 256 g_p3_sizes), (a_costs, aJ G 256 v15), (a_crosses, aI G 256 g_crosses), (a_part, aI G 256 g_part)] := hD
    refine lv_aload_n hx hb d_B_weigh_105 rfl (lv_at hl 0 rfl) ?_
    refine va_get (D := G.1) (ci := 0) (v := .ref a_crosses) (C := n_B) (T := T_B) (N := 4) hx hb htl iw_B hown hK hP 1 rfl rfl 2 (by decide) (htl _ k_402) (fun _ h9 => h9) rfl d_B_weigh_106 ?_
    refine lv_iload_n hx hb d_B_weigh_109 rfl (lv_at hl 1 rfl) ?_
    refine lv_iload hx hb d_B_weigh_110 (lv_at hl 3 rfl) ?_
    refine nx_iast hx hb hK hP hD hS 6 1 rfl rfl c14 d_B_weigh_112 (fun v16 ev16 H locs hP hD hS => ?_)
    have hf := dn_e ev16 hf
    have hP : va_P G.1 classes [(a_p3, O_S f_p3_known f_p3_paired f_p3_cappedInAll f_p3_connectedInAll f_p3_pairsInAll a_p3_sizes a_p3_capped a_p3_connected f_p3_end a_p3_leftIn a_p3_rightIn a_p3_pairs), (h0, O_B f_known a_costs a_crosses a_part), (a_p3_leftIn, aI G 256 g_p3_leftIn), (a_p3_rightIn, aI G 256 g_p3_rightIn), (a_p3_sizes, aJ G 256 g_p3_sizes), (a_costs, aJ G 256 v15), (a_crosses, aI G 256 v16), (a_part, aI G 256 g_part)] H := hP
    have hD : va_D A [(a_p3, O_S f_p3_known f_p3_paired f_p3_cappedInAll f_p3_connectedInAll f_p3_pairsInAll a_p3_sizes a_p3_capped a_p3_connected f_p3_end a_p3_leftIn a_p3_rightIn a_p3_pairs), (h0, O_B f_known a_costs a_crosses a_part), (a_p3_leftIn, aI G 256 g_p3_leftIn), (a_p3_rightIn, aI G 256 g_p3_rightIn), (a_p3_sizes, aJ G 256 g_p3_sizes), (a_costs, aJ G 256 v15), (a_crosses, aI G 256 v16), (a_part, aI G 256 g_part)] := hD
    refine lv_aload_n hx hb d_B_weigh_113 rfl (lv_at hl 0 rfl) ?_
    refine va_get (D := G.1) (ci := 0) (v := .ref a_part) (C := n_B) (T := T_B) (N := 4) hx hb htl iw_B hown hK hP 1 rfl rfl 3 (by decide) (htl _ k_404) (fun _ h9 => h9) rfl d_B_weigh_114 ?_
    refine lv_iload_n hx hb d_B_weigh_117 rfl (lv_at hl 1 rfl) ?_
    refine lv_iload_n hx hb d_B_weigh_118 rfl (lv_at hl 2 rfl) ?_
    refine nx_iast hx hb hK hP hD hS 7 1 rfl rfl c14 d_B_weigh_119 (fun v17 ev17 H locs hP hD hS => ?_)
    have hf := dn_e ev17 hf
    have hP : va_P G.1 classes [(a_p3, O_S f_p3_known f_p3_paired f_p3_cappedInAll f_p3_connectedInAll f_p3_pairsInAll a_p3_sizes a_p3_capped a_p3_connected f_p3_end a_p3_leftIn a_p3_rightIn a_p3_pairs), (h0, O_B f_known a_costs a_crosses a_part), (a_p3_leftIn, aI G 256 g_p3_leftIn), (a_p3_rightIn, aI G 256 g_p3_rightIn), (a_p3_sizes, aJ G 256 g_p3_sizes), (a_costs, aJ G 256 v15), (a_crosses, aI G 256 v16), (a_part, aI G 256 v17)] H := hP
    have hD : va_D A [(a_p3, O_S f_p3_known f_p3_paired f_p3_cappedInAll f_p3_connectedInAll f_p3_pairsInAll a_p3_sizes a_p3_capped a_p3_connected f_p3_end a_p3_leftIn a_p3_rightIn a_p3_pairs), (h0, O_B f_known a_costs a_crosses a_part), (a_p3_leftIn, aI G 256 g_p3_leftIn), (a_p3_rightIn, aI G 256 g_p3_rightIn), (a_p3_sizes, aJ G 256 g_p3_sizes), (a_costs, aJ G 256 v15), (a_crosses, aI G 256 v16), (a_part, aI G 256 v17)] := hD
    cases hf
    exact hret 120 ls H locs hP hS d_B_weigh_120
  have hJ34 : ∀ (g_costs : Nat → Int64) (g_crosses : Nat → Int32) (g_part : Nat → Int32) (x4 : Int32) (z0 : Int32) (z1 : Int32) (H : Heap) (locs : List Loc) (ls : Array Slot), PDS G.1 classes A s [(a_p3, O_S f_p3_known f_p3_paired f_p3_cappedInAll f_p3_connectedInAll f_p3_pairsInAll a_p3_sizes a_p3_capped a_p3_connected f_p3_end a_p3_leftIn a_p3_rightIn a_p3_pairs), (h0, O_B f_known a_costs a_crosses a_part), (a_p3_leftIn, aI G 256 g_p3_leftIn), (a_p3_rightIn, aI G 256 g_p3_rightIn), (a_p3_sizes, aJ G 256 g_p3_sizes), (a_costs, aJ G 256 g_costs), (a_crosses, aI G 256 g_crosses), (a_part, aI G 256 g_part)] H locs → lv_has ls 8 [(0, .ref h0), (1, .int x1), (2, .int x2), (3, .ref a_p3), (4, .int x4)] → B_weigh_34 g_p3_leftIn g_p3_rightIn g_p3_sizes g_costs g_crosses g_part x1 x2 x4 z0 z1 = some res → W p l e (rmk 1) s m args below meth c H locs 0 0 Q (F0 m 34 ls [.int z1, .int z0]) := by
    intro g_costs g_crosses g_part x4 z0 z1 H locs ls wq hl hf
    obtain ⟨hP, hD, hS⟩ := wq
    refine lv_iadd hx hb d_B_weigh_34 ?_
    refine lv_topi (fun v7 ev7 => ?_)
    have hf := dn_e ev7 hf
    refine lv_istore (lv' := [(5, .int v7), (0, .ref h0), (1, .int x1), (2, .int x2), (3, .ref a_p3), (4, .int x4)]) hx hb d_B_weigh_35 hl (by decide) rfl (fun ls hl => ?_)
    refine lv_ldc2 (v := (1000000000000000 : Int64)) hx hb hown (htl _ k_914) d_B_weigh_37 ?_
    refine lv_aload_n hx hb d_B_weigh_40 rfl (lv_at hl 1 rfl) ?_
    refine va_get (D := G.1) (ci := 0) (v := .ref a_costs) (C := n_B) (T := T_B) (N := 4) hx hb htl iw_B hown hK hP 1 rfl rfl 1 (by decide) (htl _ k_400) (fun _ h9 => h9) rfl d_B_weigh_41 ?_
    refine lv_iload_n hx hb d_B_weigh_44 rfl (lv_at hl 3 rfl) ?_
    obtain ⟨c8, hf⟩ := dk_e hf
    refine va_lald hx hb hK hP 5 2 rfl rfl c8 d_B_weigh_45 ?_
    refine lv_aload_n hx hb d_B_weigh_46 rfl (lv_at hl 1 rfl) ?_
    refine va_get (D := G.1) (ci := 0) (v := .ref a_costs) (C := n_B) (T := T_B) (N := 4) hx hb htl iw_B hown hK hP 1 rfl rfl 1 (by decide) (htl _ k_400) (fun _ h9 => h9) rfl d_B_weigh_47 ?_
    refine lv_iload hx hb d_B_weigh_50 (lv_at hl 5 rfl) ?_
    obtain ⟨c9, hf⟩ := dk_e hf
    refine va_lald hx hb hK hP 5 2 rfl rfl c9 d_B_weigh_52 ?_
    refine lv_ladd hx hb d_B_weigh_53 ?_
    refine lv_aload_n hx hb d_B_weigh_54 rfl (lv_at hl 4 rfl) ?_
    refine va_get (D := G.1) (ci := 8) (v := .ref a_p3_sizes) (C := n_S) (T := T_S) (N := 12) hx hb htl iw_S hown hK hP 0 rfl rfl 5 (by decide) (htl _ k_353) (fun _ h9 => h9) rfl d_B_weigh_55 ?_
    refine lv_iload_n hx hb d_B_weigh_58 rfl (lv_at hl 2 rfl) ?_
    obtain ⟨c10, hf⟩ := dk_e hf
    refine va_lald hx hb hK hP 4 2 rfl rfl c10 d_B_weigh_59 ?_
    refine lv_ladd hx hb d_B_weigh_60 ?_
    refine va_mmin_long hx hb (hml.trans hl.1.symm) hown (htl _ k_915) (htl _ k_916) (htl _ k_111) (htl _ k_917) (Nat.le_of_ble_eq_true rfl) (Nat.le_of_ble_eq_true rfl) (Nat.zero_le _) (Nat.zero_le _) d_B_weigh_61 ?_
    refine lv_topl (fun v11 ev11 => ?_)
    have hf := dn_e ev11 hf
    refine lv_lstore (lv' := [(6, .long v11), (5, .int v7), (0, .ref h0), (1, .int x1), (2, .int x2), (3, .ref a_p3), (4, .int x4)]) hx hb d_B_weigh_64 hl (by decide) rfl (fun ls hl => ?_)
    refine lv_aload_n hx hb d_B_weigh_66 rfl (lv_at hl 2 rfl) ?_
    refine va_get (D := G.1) (ci := 0) (v := .ref a_part) (C := n_B) (T := T_B) (N := 4) hx hb htl iw_B hown hK hP 1 rfl rfl 3 (by decide) (htl _ k_404) (fun _ h9 => h9) rfl d_B_weigh_67 ?_
    refine lv_iload_n hx hb d_B_weigh_70 rfl (lv_at hl 3 rfl) ?_
    refine va_iald hx hb hK hP 7 1 rfl rfl c10 d_B_weigh_71 ?_
    refine lv_if_eq (tgt := 97) hx hb d_B_weigh_72 (by decide) (fun c12 => ?_) (fun c12 => ?_)
    · have hf := di_t c12 hf
      exact hJ97 g_costs g_crosses g_part v7 v11 H locs ls ⟨hP, hD, hS⟩ (lv_sub hl [2, 3, 4, 1, 0] rfl) hf
    · have hf := di_f c12 hf
      refine lv_iload hx hb d_B_weigh_75 (lv_at hl 1 rfl) ?_
      refine lv_lload hx hb d_B_weigh_77 (lv_at hl 0 rfl) ?_
      refine lv_aload_n hx hb d_B_weigh_79 rfl (lv_at hl 2 rfl) ?_
      refine va_get (D := G.1) (ci := 0) (v := .ref a_crosses) (C := n_B) (T := T_B) (N := 4) hx hb htl iw_B hown hK hP 1 rfl rfl 2 (by decide) (htl _ k_402) (fun _ h9 => h9) rfl d_B_weigh_80 ?_
      refine lv_iload_n hx hb d_B_weigh_83 rfl (lv_at hl 3 rfl) ?_
      refine va_iald hx hb hK hP 6 1 rfl rfl c10 d_B_weigh_84 ?_
      refine lv_aload_n hx hb d_B_weigh_85 rfl (lv_at hl 2 rfl) ?_
      refine va_get (D := G.1) (ci := 0) (v := .ref a_costs) (C := n_B) (T := T_B) (N := 4) hx hb htl iw_B hown hK hP 1 rfl rfl 1 (by decide) (htl _ k_400) (fun _ h9 => h9) rfl d_B_weigh_86 ?_
      refine lv_iload_n hx hb d_B_weigh_89 rfl (lv_at hl 3 rfl) ?_
      refine va_lald hx hb hK hP 5 2 rfl rfl c10 d_B_weigh_90 ?_
      refine call_i (isC := []) (run_SN (As := [.int v7, .long v11, .int (g_crosses x1.toNatClampNeg), .long (g_costs x1.toNatClampNeg)]) (rest := []) hx hb hml hown htl (c_J_isBetter l G Y  v7 v11 (g_crosses x1.toNatClampNeg) (g_costs x1.toNatClampNeg) _ rfl) ms_J_isBetter k_918 (hRk (by decide) (by decide)) hK hsk hS hP hD (isC := []) rfl (by decide) rfl hl.1 rfl (lv_room (Nat.le_of_ble_eq_true rfl)) d_B_weigh_91) hP hD hS rfl rfl (fun H locs hP hD hS => ?_)
      have hP : va_P G.1 classes [(a_p3, O_S f_p3_known f_p3_paired f_p3_cappedInAll f_p3_connectedInAll f_p3_pairsInAll a_p3_sizes a_p3_capped a_p3_connected f_p3_end a_p3_leftIn a_p3_rightIn a_p3_pairs), (h0, O_B f_known a_costs a_crosses a_part), (a_p3_leftIn, aI G 256 g_p3_leftIn), (a_p3_rightIn, aI G 256 g_p3_rightIn), (a_p3_sizes, aJ G 256 g_p3_sizes), (a_costs, aJ G 256 g_costs), (a_crosses, aI G 256 g_crosses), (a_part, aI G 256 g_part)] H := hP
      have hD : va_D A [(a_p3, O_S f_p3_known f_p3_paired f_p3_cappedInAll f_p3_connectedInAll f_p3_pairsInAll a_p3_sizes a_p3_capped a_p3_connected f_p3_end a_p3_leftIn a_p3_rightIn a_p3_pairs), (h0, O_B f_known a_costs a_crosses a_part), (a_p3_leftIn, aI G 256 g_p3_leftIn), (a_p3_rightIn, aI G 256 g_p3_rightIn), (a_p3_sizes, aJ G 256 g_p3_sizes), (a_costs, aJ G 256 g_costs), (a_crosses, aI G 256 g_crosses), (a_part, aI G 256 g_part)] := hD
      refine lv_if_eq (tgt := 120) hx hb d_B_weigh_94 (by decide) (fun c13 => ?_) (fun c13 => ?_)
      · have hf := di_t c13 hf
        cases hf
        exact hret 120 ls H locs hP hS d_B_weigh_120
      · have hf := di_f c13 hf
        exact hJ97 g_costs g_crosses g_part v7 v11 H locs ls ⟨hP, hD, hS⟩ (lv_sub hl [2, 3, 4, 1, 0] rfl) hf
  refine lv_iload_n hx hb d_B_weigh_0 rfl (lv_at hl 1 rfl) ?_
  refine lv_iload_n hx hb d_B_weigh_1 rfl (lv_at hl 2 rfl) ?_
  refine lv_ixor hx hb d_B_weigh_2 ?_
  refine lv_topi (fun v1 ev1 => ?_)
  have hf := dn_e ev1 hf
  refine lv_istore (lv' := [(4, .int v1), (0, .ref h0), (1, .int x1), (2, .int x2), (3, .ref a_p3)]) hx hb d_B_weigh_3 hl (by decide) rfl (fun ls hl => ?_)
  refine lv_aload_n hx hb d_B_weigh_5 rfl (lv_at hl 1 rfl) ?_
  refine va_get (D := G.1) (ci := 0) (v := .ref a_crosses) (C := n_B) (T := T_B) (N := 4) hx hb htl iw_B hown hK hP 1 rfl rfl 2 (by decide) (htl _ k_402) (fun _ h9 => h9) rfl d_B_weigh_6 ?_
  refine lv_iload_n hx hb d_B_weigh_9 rfl (lv_at hl 3 rfl) ?_
  obtain ⟨c2, hf⟩ := dk_e hf
  refine va_iald hx hb hK hP 6 1 rfl rfl c2 d_B_weigh_10 ?_
  refine lv_aload_n hx hb d_B_weigh_11 rfl (lv_at hl 1 rfl) ?_
  refine va_get (D := G.1) (ci := 0) (v := .ref a_crosses) (C := n_B) (T := T_B) (N := 4) hx hb htl iw_B hown hK hP 1 rfl rfl 2 (by decide) (htl _ k_402) (fun _ h9 => h9) rfl d_B_weigh_12 ?_
  refine lv_iload hx hb d_B_weigh_15 (lv_at hl 0 rfl) ?_
  obtain ⟨c3, hf⟩ := dk_e hf
  refine va_iald hx hb hK hP 6 1 rfl rfl c3 d_B_weigh_17 ?_
  refine lv_iadd hx hb d_B_weigh_18 ?_
  refine lv_aload_n hx hb d_B_weigh_19 rfl (lv_at hl 4 rfl) ?_
  refine lv_iload_n hx hb d_B_weigh_20 rfl (lv_at hl 3 rfl) ?_
  refine lv_iload hx hb d_B_weigh_21 (lv_at hl 0 rfl) ?_
  obtain ⟨t4, hv5, hf⟩ := db_e hf
  refine call_i (isC := [0, 2, 3]) (run_V (As := [.int x2, .int v1]) (rest := [.int ((g_crosses x2.toNatClampNeg) + (g_crosses v1.toNatClampNeg))]) (ci := 8) (q0 := 0) hx hb hml hown htl (c_S_areJoined l G Y  a_p3 a_p3_sizes a_p3_capped a_p3_connected a_p3_leftIn a_p3_rightIn a_p3_pairs f_p3_known f_p3_paired f_p3_cappedInAll f_p3_connectedInAll f_p3_pairsInAll f_p3_end g_p3_leftIn g_p3_rightIn x2 v1 t4 hv5) mv_S_areJoined k_913 (hRk (by decide) (by decide)) hK hsk hS hP hD (isC := [0, 2, 3]) rfl (by decide) rfl rfl rfl hl.1 rfl (lv_room (Nat.le_of_ble_eq_true rfl)) d_B_weigh_23) hP hD hS rfl rfl (fun H locs hP hD hS => ?_)
  have hP : va_P G.1 classes [(a_p3, O_S f_p3_known f_p3_paired f_p3_cappedInAll f_p3_connectedInAll f_p3_pairsInAll a_p3_sizes a_p3_capped a_p3_connected f_p3_end a_p3_leftIn a_p3_rightIn a_p3_pairs), (h0, O_B f_known a_costs a_crosses a_part), (a_p3_leftIn, aI G 256 g_p3_leftIn), (a_p3_rightIn, aI G 256 g_p3_rightIn), (a_p3_sizes, aJ G 256 g_p3_sizes), (a_costs, aJ G 256 g_costs), (a_crosses, aI G 256 g_crosses), (a_part, aI G 256 g_part)] H := hP
  have hD : va_D A [(a_p3, O_S f_p3_known f_p3_paired f_p3_cappedInAll f_p3_connectedInAll f_p3_pairsInAll a_p3_sizes a_p3_capped a_p3_connected f_p3_end a_p3_leftIn a_p3_rightIn a_p3_pairs), (h0, O_B f_known a_costs a_crosses a_part), (a_p3_leftIn, aI G 256 g_p3_leftIn), (a_p3_rightIn, aI G 256 g_p3_rightIn), (a_p3_sizes, aJ G 256 g_p3_sizes), (a_costs, aJ G 256 g_costs), (a_crosses, aI G 256 g_crosses), (a_part, aI G 256 g_part)] := hD
  refine lv_if_eq (tgt := 33) hx hb d_B_weigh_26 (by decide) (fun c6 => ?_) (fun c6 => ?_)
  · have hf := di_t c6 hf
    refine lv_iconst (v := (1 : Int32)) hx hb d_B_weigh_33 (by decide) ?_
    exact hJ34 g_costs g_crosses g_part v1 ((g_crosses x2.toNatClampNeg) + (g_crosses v1.toNatClampNeg)) (1 : Int32) H locs ls ⟨hP, hD, hS⟩ (lv_sub hl [1, 2, 3, 4, 0] rfl) hf
  · have hf := di_f c6 hf
    refine lv_iconst (v := (0 : Int32)) hx hb d_B_weigh_29 (by decide) ?_
    refine lv_goto (tgt := 34) hx hb d_B_weigh_30 (by decide) ?_
    exact hJ34 g_costs g_crosses g_part v1 ((g_crosses x2.toNatClampNeg) + (g_crosses v1.toNatClampNeg)) (0 : Int32) H locs ls ⟨hP, hD, hS⟩ (lv_sub hl [1, 2, 3, 4, 0] rfl) hf
set_option maxHeartbeats 4000000 in
set_option maxRecDepth 100000 in
theorem c_B_findOf (l : Launch) (G : va_G × (Nat → ClassId)) (Y : (Nat → Nat) × (Nat → Nat)) (h0 : Nat) (a_p2 : Nat) (a_p2_sizes : Nat) (a_p2_capped : Nat) (a_p2_connected : Nat) (a_p2_leftIn : Nat) (a_p2_rightIn : Nat) (a_p2_pairs : Nat) (a_costs : Nat) (a_crosses : Nat) (a_part : Nat) (f_p2_known : Int32) (f_p2_paired : Int32) (f_p2_cappedInAll : Int32) (f_p2_connectedInAll : Int32) (f_p2_pairsInAll : Int32) (f_p2_end : Int32) (f_known : Int32) (g_p2_leftIn : Nat → Int32) (g_p2_rightIn : Nat → Int32) (g_p2_sizes : Nat → Int64) (g_costs : Nat → Int64) (g_crosses : Nat → Int32) (g_part : Nat → Int32) (x1 : Int32) (x3 : Int32) (N : Nat) (res : (Nat → Int64) × (Nat → Int32) × (Nat → Int32)) (hf : B_findOf N g_p2_leftIn g_p2_rightIn g_p2_sizes g_costs g_crosses g_part x1 x3 = some res) : Cv l classes y_B_findOf b_B_findOf 7 none (rmk 2) G.1 (tyL G) Y [.ref h0, .int x1, .ref a_p2, .int x3] [(a_p2, O_S f_p2_known f_p2_paired f_p2_cappedInAll f_p2_connectedInAll f_p2_pairsInAll a_p2_sizes a_p2_capped a_p2_connected f_p2_end a_p2_leftIn a_p2_rightIn a_p2_pairs), (h0, O_B f_known a_costs a_crosses a_part), (a_p2_leftIn, aI G 256 g_p2_leftIn), (a_p2_rightIn, aI G 256 g_p2_rightIn), (a_p2_sizes, aJ G 256 g_p2_sizes), (a_costs, aJ G 256 g_costs), (a_crosses, aI G 256 g_crosses), (a_part, aI G 256 g_part)] [(a_p2, O_S f_p2_known f_p2_paired f_p2_cappedInAll f_p2_connectedInAll f_p2_pairsInAll a_p2_sizes a_p2_capped a_p2_connected f_p2_end a_p2_leftIn a_p2_rightIn a_p2_pairs), (h0, O_B f_known a_costs a_crosses a_part), (a_p2_leftIn, aI G 256 g_p2_leftIn), (a_p2_rightIn, aI G 256 g_p2_rightIn), (a_p2_sizes, aJ G 256 g_p2_sizes), (a_costs, aJ G 256 res.1), (a_crosses, aI G 256 res.2.1), (a_part, aI G 256 res.2.2)] := by
  refine entV (by decide) (Nat.le_of_ble_eq_true rfl) ?_
  intro p e s m args below meth c ls A Q hx hb hml hown htl hK hsk wq hl hret
  obtain ⟨hP, hD, hS⟩ := wq
  have hl : lv_has ls 7 [(0, .ref h0), (1, .int x1), (2, .ref a_p2), (3, .int x3)] := hl
  have hS : va_S A s.heap s.heap [] := hS
  obtain ⟨H, hH⟩ : ∃ H : Heap, H = s.heap := ⟨_, rfl⟩
  obtain ⟨locs, hlocs⟩ : ∃ z : List Loc, z = [] := ⟨_, rfl⟩
  rw [← hH] at hP
  replace hS : va_S A s.heap H locs := by rw [hH, hlocs]; exact hS
  suffices hgo : W p l e (rmk 2) s m args below meth c H locs 0 0 Q (F0 m 0 ls []) by rw [hH, hlocs] at hgo; exact hgo
  have hJ87 : ∀ (g_costs : Nat → Int64) (g_crosses : Nat → Int32) (g_part : Nat → Int32) (H : Heap) (locs : List Loc) (ls : Array Slot), PDS G.1 classes A s [(a_p2, O_S f_p2_known f_p2_paired f_p2_cappedInAll f_p2_connectedInAll f_p2_pairsInAll a_p2_sizes a_p2_capped a_p2_connected f_p2_end a_p2_leftIn a_p2_rightIn a_p2_pairs), (h0, O_B f_known a_costs a_crosses a_part), (a_p2_leftIn, aI G 256 g_p2_leftIn), (a_p2_rightIn, aI G 256 g_p2_rightIn), (a_p2_sizes, aJ G 256 g_p2_sizes), (a_costs, aJ G 256 g_costs), (a_crosses, aI G 256 g_crosses), (a_part, aI G 256 g_part)] H locs → lv_has ls 7 [] → B_findOf_87 N g_p2_leftIn g_p2_rightIn g_p2_sizes g_costs g_crosses g_part = some res → W p l e (rmk 2) s m args below meth c H locs 0 0 Q (F0 m 87 ls []) := by
    intro g_costs g_crosses g_part H locs ls wq hl hf
    obtain ⟨hP, hD, hS⟩ := wq
    cases hf
    exact hret 87 ls H locs hP hS d_B_findOf_87
  have hJ36 : ∀ (g_costs : Nat → Int64) (g_crosses : Nat → Int32) (g_part : Nat → Int32) (x4 : Int32) (x5 : Int32) (x6 : Int32) (H : Heap) (locs : List Loc) (ls : Array Slot), PDS G.1 classes A s [(a_p2, O_S f_p2_known f_p2_paired f_p2_cappedInAll f_p2_connectedInAll f_p2_pairsInAll a_p2_sizes a_p2_capped a_p2_connected f_p2_end a_p2_leftIn a_p2_rightIn a_p2_pairs), (h0, O_B f_known a_costs a_crosses a_part), (a_p2_leftIn, aI G 256 g_p2_leftIn), (a_p2_rightIn, aI G 256 g_p2_rightIn), (a_p2_sizes, aJ G 256 g_p2_sizes), (a_costs, aJ G 256 g_costs), (a_crosses, aI G 256 g_crosses), (a_part, aI G 256 g_part)] H locs → lv_has ls 7 [(0, .ref h0), (1, .int x1), (2, .ref a_p2), (3, .int x3), (4, .int x4), (5, .int x5), (6, .int x6)] → B_findOf_36 N g_p2_leftIn g_p2_rightIn g_p2_sizes g_costs g_crosses g_part x1 x3 x4 x5 x6 = some res → W p l e (rmk 2) s m args below meth c H locs 0 0 Q (F0 m 36 ls []) := by
    intro g_costs g_crosses g_part x4 x5 x6 H locs ls wq hl hf
    obtain ⟨hP, hD, hS⟩ := wq
    obtain ⟨y36, hy36, hfo36⟩ := db_e hf
    have hL36 : ∀ (n : Nat) (g_costs : Nat → Int64) (g_crosses : Nat → Int32) (g_part : Nat → Int32) (x5 : Int32) (x6 : Int32) (H : Heap) (locs : List Loc) (ls : Array Slot), lp (fun x => B_findOf_b36 N g_p2_leftIn g_p2_rightIn g_p2_sizes x.1 x.2.1 x.2.2.1 x1 x3 x4 x.2.2.2.1 x.2.2.2.2) n (g_costs, g_crosses, g_part, x5, x6) = some y36 → PDS G.1 classes A s [(a_p2, O_S f_p2_known f_p2_paired f_p2_cappedInAll f_p2_connectedInAll f_p2_pairsInAll a_p2_sizes a_p2_capped a_p2_connected f_p2_end a_p2_leftIn a_p2_rightIn a_p2_pairs), (h0, O_B f_known a_costs a_crosses a_part), (a_p2_leftIn, aI G 256 g_p2_leftIn), (a_p2_rightIn, aI G 256 g_p2_rightIn), (a_p2_sizes, aJ G 256 g_p2_sizes), (a_costs, aJ G 256 g_costs), (a_crosses, aI G 256 g_crosses), (a_part, aI G 256 g_part)] H locs → lv_has ls 7 [(0, .ref h0), (1, .int x1), (2, .ref a_p2), (3, .int x3), (4, .int x4), (5, .int x5), (6, .int x6)] → W p l e (rmk 2) s m args below meth c H locs 0 0 Q (F0 m 36 ls []) := by
      intro n
      induction n with
      | zero =>
        intro g_costs g_crosses g_part x5 x6 H locs ls hf
        exact lp_0 hf
      | succ n ih36 =>
        intro g_costs g_crosses g_part x5 x6 H locs ls hf wq hl
        obtain ⟨hP, hD, hS⟩ := wq
        obtain ⟨r36, hf, hk36⟩ := lp_s hf
        have hf : B_findOf_b36 N g_p2_leftIn g_p2_rightIn g_p2_sizes g_costs g_crosses g_part x1 x3 x4 x5 x6 = some r36 := hf
        have hJ73 : ∀ (g_costs : Nat → Int64) (g_crosses : Nat → Int32) (g_part : Nat → Int32) (x5 : Int32) (x6 : Int32) (H : Heap) (locs : List Loc) (ls : Array Slot), PDS G.1 classes A s [(a_p2, O_S f_p2_known f_p2_paired f_p2_cappedInAll f_p2_connectedInAll f_p2_pairsInAll a_p2_sizes a_p2_capped a_p2_connected f_p2_end a_p2_leftIn a_p2_rightIn a_p2_pairs), (h0, O_B f_known a_costs a_crosses a_part), (a_p2_leftIn, aI G 256 g_p2_leftIn), (a_p2_rightIn, aI G 256 g_p2_rightIn), (a_p2_sizes, aJ G 256 g_p2_sizes), (a_costs, aJ G 256 g_costs), (a_crosses, aI G 256 g_crosses), (a_part, aI G 256 g_part)] H locs → lv_has ls 7 [(0, .ref h0), (1, .int x1), (2, .ref a_p2), (3, .int x3), (4, .int x4), (5, .int x5), (6, .int x6)] → B_findOf_73 N g_p2_leftIn g_p2_rightIn g_p2_sizes g_costs g_crosses g_part x1 x3 x4 x5 x6 = some r36 → W p l e (rmk 2) s m args below meth c H locs 0 0 Q (F0 m 73 ls []) := by
          intro g_costs g_crosses g_part x5 x6 H locs ls wq hl hf
          obtain ⟨hP, hD, hS⟩ := wq
          refine lv_iload_n hx hb d_B_findOf_73 rfl (lv_at hl 1 rfl) ?_
          refine lv_iload hx hb d_B_findOf_74 (lv_at hl 5 rfl) ?_
          refine call_i (isC := []) (run_SN (As := [.int x1, .int x5]) (rest := []) hx hb hml hown htl (c_J_nextPart l G Y  x1 x5 _ rfl) ms_J_nextPart k_921 (hRk (by decide) (by decide)) hK hsk hS hP hD (isC := []) rfl (by decide) rfl hl.1 rfl (lv_room (Nat.le_of_ble_eq_true rfl)) d_B_findOf_76) hP hD hS rfl rfl (fun H locs hP hD hS => ?_)
          have hP : va_P G.1 classes [(a_p2, O_S f_p2_known f_p2_paired f_p2_cappedInAll f_p2_connectedInAll f_p2_pairsInAll a_p2_sizes a_p2_capped a_p2_connected f_p2_end a_p2_leftIn a_p2_rightIn a_p2_pairs), (h0, O_B f_known a_costs a_crosses a_part), (a_p2_leftIn, aI G 256 g_p2_leftIn), (a_p2_rightIn, aI G 256 g_p2_rightIn), (a_p2_sizes, aJ G 256 g_p2_sizes), (a_costs, aJ G 256 g_costs), (a_crosses, aI G 256 g_crosses), (a_part, aI G 256 g_part)] H := hP
          have hD : va_D A [(a_p2, O_S f_p2_known f_p2_paired f_p2_cappedInAll f_p2_connectedInAll f_p2_pairsInAll a_p2_sizes a_p2_capped a_p2_connected f_p2_end a_p2_leftIn a_p2_rightIn a_p2_pairs), (h0, O_B f_known a_costs a_crosses a_part), (a_p2_leftIn, aI G 256 g_p2_leftIn), (a_p2_rightIn, aI G 256 g_p2_rightIn), (a_p2_sizes, aJ G 256 g_p2_sizes), (a_costs, aJ G 256 g_costs), (a_crosses, aI G 256 g_crosses), (a_part, aI G 256 g_part)] := hD
          refine lv_topi (fun v11 ev11 => ?_)
          have hf := dn_e ev11 hf
          refine lv_istore (lv' := [(5, .int v11), (0, .ref h0), (1, .int x1), (2, .ref a_p2), (3, .int x3), (4, .int x4), (6, .int x6)]) hx hb d_B_findOf_79 hl (by decide) rfl (fun ls hl => ?_)
          obtain ⟨v12, ev12⟩ : ∃ z : Int32, z = x6 + (1 : Int32) := ⟨_, rfl⟩
          have hf := dn_e ev12 hf
          refine lv_iinc (v := v12) (lv' := [(6, .int v12), (5, .int v11), (0, .ref h0), (1, .int x1), (2, .ref a_p2), (3, .int x3), (4, .int x4)]) hx hb d_B_findOf_81 hl (k := 6) rfl (by rw [ev12]; rfl) (by decide) rfl (fun ls hl => ?_)
          refine lv_goto (tgt := 36) hx hb d_B_findOf_84 (by decide) ?_
          exact ih36 g_costs g_crosses g_part v11 v12 H locs ls (lpk_i hf hk36) ⟨hP, hD, hS⟩ (lv_sub hl [2, 3, 4, 5, 6, 1, 0] rfl)
        have hJ65 : ∀ (g_costs : Nat → Int64) (g_crosses : Nat → Int32) (g_part : Nat → Int32) (x5 : Int32) (x6 : Int32) (H : Heap) (locs : List Loc) (ls : Array Slot), PDS G.1 classes A s [(a_p2, O_S f_p2_known f_p2_paired f_p2_cappedInAll f_p2_connectedInAll f_p2_pairsInAll a_p2_sizes a_p2_capped a_p2_connected f_p2_end a_p2_leftIn a_p2_rightIn a_p2_pairs), (h0, O_B f_known a_costs a_crosses a_part), (a_p2_leftIn, aI G 256 g_p2_leftIn), (a_p2_rightIn, aI G 256 g_p2_rightIn), (a_p2_sizes, aJ G 256 g_p2_sizes), (a_costs, aJ G 256 g_costs), (a_crosses, aI G 256 g_crosses), (a_part, aI G 256 g_part)] H locs → lv_has ls 7 [(0, .ref h0), (1, .int x1), (2, .ref a_p2), (3, .int x3), (4, .int x4), (5, .int x5), (6, .int x6)] → B_findOf_65 N g_p2_leftIn g_p2_rightIn g_p2_sizes g_costs g_crosses g_part x1 x3 x4 x5 x6 = some r36 → W p l e (rmk 2) s m args below meth c H locs 0 0 Q (F0 m 65 ls []) := by
          intro g_costs g_crosses g_part x5 x6 H locs ls wq hl hf
          obtain ⟨hP, hD, hS⟩ := wq
          refine lv_aload_n hx hb d_B_findOf_65 rfl (lv_at hl 0 rfl) ?_
          refine lv_iload_n hx hb d_B_findOf_66 rfl (lv_at hl 1 rfl) ?_
          refine lv_iload hx hb d_B_findOf_67 (lv_at hl 5 rfl) ?_
          refine lv_aload_n hx hb d_B_findOf_69 rfl (lv_at hl 2 rfl) ?_
          obtain ⟨t13, hv14, hf⟩ := db_e hf
          refine call_v (isC := [0, 1, 2, 3, 4, 5, 6, 7]) (run_V (As := [.int x1, .int x5, .ref a_p2]) (rest := []) (ci := 0) (q0 := 1) hx hb hml hown htl (c_B_weigh l G Y  h0 a_p2 a_p2_sizes a_p2_capped a_p2_connected a_p2_leftIn a_p2_rightIn a_p2_pairs a_costs a_crosses a_part f_p2_known f_p2_paired f_p2_cappedInAll f_p2_connectedInAll f_p2_pairsInAll f_p2_end f_known g_p2_leftIn g_p2_rightIn g_p2_sizes g_costs g_crosses g_part x1 x5 t13 hv14) mv_B_weigh k_909 (hRk (by decide) (by decide)) hK hsk hS hP hD (isC := [0, 1, 2, 3, 4, 5, 6, 7]) rfl (by decide) rfl rfl rfl hl.1 rfl (lv_room (Nat.le_of_ble_eq_true rfl)) d_B_findOf_70) hP hD hS rfl rfl (fun H locs hP hD hS => ?_)
          have hP : va_P G.1 classes [(a_p2, O_S f_p2_known f_p2_paired f_p2_cappedInAll f_p2_connectedInAll f_p2_pairsInAll a_p2_sizes a_p2_capped a_p2_connected f_p2_end a_p2_leftIn a_p2_rightIn a_p2_pairs), (h0, O_B f_known a_costs a_crosses a_part), (a_p2_leftIn, aI G 256 g_p2_leftIn), (a_p2_rightIn, aI G 256 g_p2_rightIn), (a_p2_sizes, aJ G 256 g_p2_sizes), (a_costs, aJ G 256 t13.1), (a_crosses, aI G 256 t13.2.1), (a_part, aI G 256 t13.2.2)] H := hP
          have hD : va_D A [(a_p2, O_S f_p2_known f_p2_paired f_p2_cappedInAll f_p2_connectedInAll f_p2_pairsInAll a_p2_sizes a_p2_capped a_p2_connected f_p2_end a_p2_leftIn a_p2_rightIn a_p2_pairs), (h0, O_B f_known a_costs a_crosses a_part), (a_p2_leftIn, aI G 256 g_p2_leftIn), (a_p2_rightIn, aI G 256 g_p2_rightIn), (a_p2_sizes, aJ G 256 g_p2_sizes), (a_costs, aJ G 256 t13.1), (a_crosses, aI G 256 t13.2.1), (a_part, aI G 256 t13.2.2)] := hD
          exact hJ73 t13.1 t13.2.1 t13.2.2 x5 x6 H locs ls ⟨hP, hD, hS⟩ (lv_sub hl [0, 1, 2, 3, 4, 5, 6] rfl) hf
        refine lv_iload hx hb d_B_findOf_36 (lv_at hl 6 rfl) ?_
        refine lv_iload hx hb d_B_findOf_38 (lv_at hl 4 rfl) ?_
        refine lv_icmp_ge (tgt := 87) hx hb d_B_findOf_40 (by decide) (fun c7 => ?_) (fun c7 => ?_)
        · have hf := di_t c7 hf
          have hq36 := lpk_x hf hk36
          have hf := ex_y (f := fun y => B_findOf_a36 N g_p2_leftIn g_p2_rightIn g_p2_sizes x1 x3 x4 y) hq36 hfo36
          have hf : B_findOf_87 N g_p2_leftIn g_p2_rightIn g_p2_sizes g_costs g_crosses g_part = some res := hf
          exact hJ87 g_costs g_crosses g_part H locs ls ⟨hP, hD, hS⟩ (lv_sub hl [] rfl) hf
        · have hf := di_f c7 hf
          refine lv_iload_n hx hb d_B_findOf_43 rfl (lv_at hl 3 rfl) ?_
          refine lv_if_eq (tgt := 65) hx hb d_B_findOf_44 (by decide) (fun c8 => ?_) (fun c8 => ?_)
          · have hf := di_t c8 hf
            exact hJ65 g_costs g_crosses g_part x5 x6 H locs ls ⟨hP, hD, hS⟩ (lv_sub hl [0, 1, 2, 3, 4, 5, 6] rfl) hf
          · have hf := di_f c8 hf
            refine lv_iload hx hb d_B_findOf_47 (lv_at hl 5 rfl) ?_
            refine call_i (isC := []) (run_SN (As := [.int x5]) (rest := []) hx hb hml hown htl (c_J_isOne l G Y  x5 _ rfl) ms_J_isOne k_908 (hRk (by decide) (by decide)) hK hsk hS hP hD (isC := []) rfl (by decide) rfl hl.1 rfl (lv_room (Nat.le_of_ble_eq_true rfl)) d_B_findOf_49) hP hD hS rfl rfl (fun H locs hP hD hS => ?_)
            have hP : va_P G.1 classes [(a_p2, O_S f_p2_known f_p2_paired f_p2_cappedInAll f_p2_connectedInAll f_p2_pairsInAll a_p2_sizes a_p2_capped a_p2_connected f_p2_end a_p2_leftIn a_p2_rightIn a_p2_pairs), (h0, O_B f_known a_costs a_crosses a_part), (a_p2_leftIn, aI G 256 g_p2_leftIn), (a_p2_rightIn, aI G 256 g_p2_rightIn), (a_p2_sizes, aJ G 256 g_p2_sizes), (a_costs, aJ G 256 g_costs), (a_crosses, aI G 256 g_crosses), (a_part, aI G 256 g_part)] H := hP
            have hD : va_D A [(a_p2, O_S f_p2_known f_p2_paired f_p2_cappedInAll f_p2_connectedInAll f_p2_pairsInAll a_p2_sizes a_p2_capped a_p2_connected f_p2_end a_p2_leftIn a_p2_rightIn a_p2_pairs), (h0, O_B f_known a_costs a_crosses a_part), (a_p2_leftIn, aI G 256 g_p2_leftIn), (a_p2_rightIn, aI G 256 g_p2_rightIn), (a_p2_sizes, aJ G 256 g_p2_sizes), (a_costs, aJ G 256 g_costs), (a_crosses, aI G 256 g_crosses), (a_part, aI G 256 g_part)] := hD
            refine lv_if_ne (tgt := 65) hx hb d_B_findOf_52 (by decide) (fun c9 => ?_) (fun c9 => ?_)
            · have hf := di_f c9 hf
              exact hJ65 g_costs g_crosses g_part x5 x6 H locs ls ⟨hP, hD, hS⟩ (lv_sub hl [0, 1, 2, 3, 4, 5, 6] rfl) hf
            · have hf := di_t c9 hf
              refine lv_iload_n hx hb d_B_findOf_55 rfl (lv_at hl 1 rfl) ?_
              refine lv_iload hx hb d_B_findOf_56 (lv_at hl 5 rfl) ?_
              refine lv_ixor hx hb d_B_findOf_58 ?_
              refine call_i (isC := []) (run_SN (As := [.int (x1 ^^^ x5)]) (rest := []) hx hb hml hown htl (c_J_isOne l G Y  (x1 ^^^ x5) _ rfl) ms_J_isOne k_908 (hRk (by decide) (by decide)) hK hsk hS hP hD (isC := []) rfl (by decide) rfl hl.1 rfl (lv_room (Nat.le_of_ble_eq_true rfl)) d_B_findOf_59) hP hD hS rfl rfl (fun H locs hP hD hS => ?_)
              have hP : va_P G.1 classes [(a_p2, O_S f_p2_known f_p2_paired f_p2_cappedInAll f_p2_connectedInAll f_p2_pairsInAll a_p2_sizes a_p2_capped a_p2_connected f_p2_end a_p2_leftIn a_p2_rightIn a_p2_pairs), (h0, O_B f_known a_costs a_crosses a_part), (a_p2_leftIn, aI G 256 g_p2_leftIn), (a_p2_rightIn, aI G 256 g_p2_rightIn), (a_p2_sizes, aJ G 256 g_p2_sizes), (a_costs, aJ G 256 g_costs), (a_crosses, aI G 256 g_crosses), (a_part, aI G 256 g_part)] H := hP
              have hD : va_D A [(a_p2, O_S f_p2_known f_p2_paired f_p2_cappedInAll f_p2_connectedInAll f_p2_pairsInAll a_p2_sizes a_p2_capped a_p2_connected f_p2_end a_p2_leftIn a_p2_rightIn a_p2_pairs), (h0, O_B f_known a_costs a_crosses a_part), (a_p2_leftIn, aI G 256 g_p2_leftIn), (a_p2_rightIn, aI G 256 g_p2_rightIn), (a_p2_sizes, aJ G 256 g_p2_sizes), (a_costs, aJ G 256 g_costs), (a_crosses, aI G 256 g_crosses), (a_part, aI G 256 g_part)] := hD
              refine lv_if_eq (tgt := 73) hx hb d_B_findOf_62 (by decide) (fun c10 => ?_) (fun c10 => ?_)
              · have hf := di_t c10 hf
                exact hJ73 g_costs g_crosses g_part x5 x6 H locs ls ⟨hP, hD, hS⟩ (lv_sub hl [0, 1, 2, 3, 4, 5, 6] rfl) hf
              · have hf := di_f c10 hf
                exact hJ65 g_costs g_crosses g_part x5 x6 H locs ls ⟨hP, hD, hS⟩ (lv_sub hl [0, 1, 2, 3, 4, 5, 6] rfl) hf
    exact hL36 N g_costs g_crosses g_part x5 x6 H locs ls hy36 ⟨hP, hD, hS⟩ hl
  refine lv_aload_n hx hb d_B_findOf_0 rfl (lv_at hl 0 rfl) ?_
  refine va_get (D := G.1) (ci := 0) (v := .ref a_costs) (C := n_B) (T := T_B) (N := 4) hx hb htl iw_B hown hK hP 1 rfl rfl 1 (by decide) (htl _ k_400) (fun _ h9 => h9) rfl d_B_findOf_1 ?_
  refine lv_iload_n hx hb d_B_findOf_4 rfl (lv_at hl 1 rfl) ?_
  refine lv_lconst (v := (0 : Int64)) hx hb d_B_findOf_5 (by decide) ?_
  obtain ⟨c1, hf⟩ := dk_e hf
  refine nx_last hx hb hK hP hD hS 5 2 rfl rfl c1 d_B_findOf_6 (fun v2 ev2 H locs hP hD hS => ?_)
  have hf := dn_e ev2 hf
  have hP : va_P G.1 classes [(a_p2, O_S f_p2_known f_p2_paired f_p2_cappedInAll f_p2_connectedInAll f_p2_pairsInAll a_p2_sizes a_p2_capped a_p2_connected f_p2_end a_p2_leftIn a_p2_rightIn a_p2_pairs), (h0, O_B f_known a_costs a_crosses a_part), (a_p2_leftIn, aI G 256 g_p2_leftIn), (a_p2_rightIn, aI G 256 g_p2_rightIn), (a_p2_sizes, aJ G 256 g_p2_sizes), (a_costs, aJ G 256 v2), (a_crosses, aI G 256 g_crosses), (a_part, aI G 256 g_part)] H := hP
  have hD : va_D A [(a_p2, O_S f_p2_known f_p2_paired f_p2_cappedInAll f_p2_connectedInAll f_p2_pairsInAll a_p2_sizes a_p2_capped a_p2_connected f_p2_end a_p2_leftIn a_p2_rightIn a_p2_pairs), (h0, O_B f_known a_costs a_crosses a_part), (a_p2_leftIn, aI G 256 g_p2_leftIn), (a_p2_rightIn, aI G 256 g_p2_rightIn), (a_p2_sizes, aJ G 256 g_p2_sizes), (a_costs, aJ G 256 v2), (a_crosses, aI G 256 g_crosses), (a_part, aI G 256 g_part)] := hD
  refine lv_aload_n hx hb d_B_findOf_7 rfl (lv_at hl 0 rfl) ?_
  refine va_get (D := G.1) (ci := 0) (v := .ref a_crosses) (C := n_B) (T := T_B) (N := 4) hx hb htl iw_B hown hK hP 1 rfl rfl 2 (by decide) (htl _ k_402) (fun _ h9 => h9) rfl d_B_findOf_8 ?_
  refine lv_iload_n hx hb d_B_findOf_11 rfl (lv_at hl 1 rfl) ?_
  refine lv_iconst (v := (0 : Int32)) hx hb d_B_findOf_12 (by decide) ?_
  refine nx_iast hx hb hK hP hD hS 6 1 rfl rfl c1 d_B_findOf_13 (fun v3 ev3 H locs hP hD hS => ?_)
  have hf := dn_e ev3 hf
  have hP : va_P G.1 classes [(a_p2, O_S f_p2_known f_p2_paired f_p2_cappedInAll f_p2_connectedInAll f_p2_pairsInAll a_p2_sizes a_p2_capped a_p2_connected f_p2_end a_p2_leftIn a_p2_rightIn a_p2_pairs), (h0, O_B f_known a_costs a_crosses a_part), (a_p2_leftIn, aI G 256 g_p2_leftIn), (a_p2_rightIn, aI G 256 g_p2_rightIn), (a_p2_sizes, aJ G 256 g_p2_sizes), (a_costs, aJ G 256 v2), (a_crosses, aI G 256 v3), (a_part, aI G 256 g_part)] H := hP
  have hD : va_D A [(a_p2, O_S f_p2_known f_p2_paired f_p2_cappedInAll f_p2_connectedInAll f_p2_pairsInAll a_p2_sizes a_p2_capped a_p2_connected f_p2_end a_p2_leftIn a_p2_rightIn a_p2_pairs), (h0, O_B f_known a_costs a_crosses a_part), (a_p2_leftIn, aI G 256 g_p2_leftIn), (a_p2_rightIn, aI G 256 g_p2_rightIn), (a_p2_sizes, aJ G 256 g_p2_sizes), (a_costs, aJ G 256 v2), (a_crosses, aI G 256 v3), (a_part, aI G 256 g_part)] := hD
  refine lv_aload_n hx hb d_B_findOf_14 rfl (lv_at hl 0 rfl) ?_
  refine va_get (D := G.1) (ci := 0) (v := .ref a_part) (C := n_B) (T := T_B) (N := 4) hx hb htl iw_B hown hK hP 1 rfl rfl 3 (by decide) (htl _ k_404) (fun _ h9 => h9) rfl d_B_findOf_15 ?_
  refine lv_iload_n hx hb d_B_findOf_18 rfl (lv_at hl 1 rfl) ?_
  refine lv_iconst (v := (0 : Int32)) hx hb d_B_findOf_19 (by decide) ?_
  refine nx_iast hx hb hK hP hD hS 7 1 rfl rfl c1 d_B_findOf_20 (fun v4 ev4 H locs hP hD hS => ?_)
  have hf := dn_e ev4 hf
  have hP : va_P G.1 classes [(a_p2, O_S f_p2_known f_p2_paired f_p2_cappedInAll f_p2_connectedInAll f_p2_pairsInAll a_p2_sizes a_p2_capped a_p2_connected f_p2_end a_p2_leftIn a_p2_rightIn a_p2_pairs), (h0, O_B f_known a_costs a_crosses a_part), (a_p2_leftIn, aI G 256 g_p2_leftIn), (a_p2_rightIn, aI G 256 g_p2_rightIn), (a_p2_sizes, aJ G 256 g_p2_sizes), (a_costs, aJ G 256 v2), (a_crosses, aI G 256 v3), (a_part, aI G 256 v4)] H := hP
  have hD : va_D A [(a_p2, O_S f_p2_known f_p2_paired f_p2_cappedInAll f_p2_connectedInAll f_p2_pairsInAll a_p2_sizes a_p2_capped a_p2_connected f_p2_end a_p2_leftIn a_p2_rightIn a_p2_pairs), (h0, O_B f_known a_costs a_crosses a_part), (a_p2_leftIn, aI G 256 g_p2_leftIn), (a_p2_rightIn, aI G 256 g_p2_rightIn), (a_p2_sizes, aJ G 256 g_p2_sizes), (a_costs, aJ G 256 v2), (a_crosses, aI G 256 v3), (a_part, aI G 256 v4)] := hD
  refine lv_iload_n hx hb d_B_findOf_21 rfl (lv_at hl 1 rfl) ?_
  refine call_i (isC := []) (run_SN (As := [.int x1]) (rest := []) hx hb hml hown htl (c_J_splitsOf l G Y  x1 _ rfl) ms_J_splitsOf k_906 (hRk (by decide) (by decide)) hK hsk hS hP hD (isC := []) rfl (by decide) rfl hl.1 rfl (lv_room (Nat.le_of_ble_eq_true rfl)) d_B_findOf_22) hP hD hS rfl rfl (fun H locs hP hD hS => ?_)
  have hP : va_P G.1 classes [(a_p2, O_S f_p2_known f_p2_paired f_p2_cappedInAll f_p2_connectedInAll f_p2_pairsInAll a_p2_sizes a_p2_capped a_p2_connected f_p2_end a_p2_leftIn a_p2_rightIn a_p2_pairs), (h0, O_B f_known a_costs a_crosses a_part), (a_p2_leftIn, aI G 256 g_p2_leftIn), (a_p2_rightIn, aI G 256 g_p2_rightIn), (a_p2_sizes, aJ G 256 g_p2_sizes), (a_costs, aJ G 256 v2), (a_crosses, aI G 256 v3), (a_part, aI G 256 v4)] H := hP
  have hD : va_D A [(a_p2, O_S f_p2_known f_p2_paired f_p2_cappedInAll f_p2_connectedInAll f_p2_pairsInAll a_p2_sizes a_p2_capped a_p2_connected f_p2_end a_p2_leftIn a_p2_rightIn a_p2_pairs), (h0, O_B f_known a_costs a_crosses a_part), (a_p2_leftIn, aI G 256 g_p2_leftIn), (a_p2_rightIn, aI G 256 g_p2_rightIn), (a_p2_sizes, aJ G 256 g_p2_sizes), (a_costs, aJ G 256 v2), (a_crosses, aI G 256 v3), (a_part, aI G 256 v4)] := hD
  refine lv_topi (fun v5 ev5 => ?_)
  have hf := dn_e ev5 hf
  refine lv_istore (lv' := [(4, .int v5), (0, .ref h0), (1, .int x1), (2, .ref a_p2), (3, .int x3)]) hx hb d_B_findOf_25 hl (by decide) rfl (fun ls hl => ?_)
  refine lv_iload_n hx hb d_B_findOf_27 rfl (lv_at hl 2 rfl) ?_
  refine call_i (isC := []) (run_SN (As := [.int x1]) (rest := []) hx hb hml hown htl (c_J_least l G Y  x1 _ rfl) ms_J_least k_907 (hRk (by decide) (by decide)) hK hsk hS hP hD (isC := []) rfl (by decide) rfl hl.1 rfl (lv_room (Nat.le_of_ble_eq_true rfl)) d_B_findOf_28) hP hD hS rfl rfl (fun H locs hP hD hS => ?_)
  have hP : va_P G.1 classes [(a_p2, O_S f_p2_known f_p2_paired f_p2_cappedInAll f_p2_connectedInAll f_p2_pairsInAll a_p2_sizes a_p2_capped a_p2_connected f_p2_end a_p2_leftIn a_p2_rightIn a_p2_pairs), (h0, O_B f_known a_costs a_crosses a_part), (a_p2_leftIn, aI G 256 g_p2_leftIn), (a_p2_rightIn, aI G 256 g_p2_rightIn), (a_p2_sizes, aJ G 256 g_p2_sizes), (a_costs, aJ G 256 v2), (a_crosses, aI G 256 v3), (a_part, aI G 256 v4)] H := hP
  have hD : va_D A [(a_p2, O_S f_p2_known f_p2_paired f_p2_cappedInAll f_p2_connectedInAll f_p2_pairsInAll a_p2_sizes a_p2_capped a_p2_connected f_p2_end a_p2_leftIn a_p2_rightIn a_p2_pairs), (h0, O_B f_known a_costs a_crosses a_part), (a_p2_leftIn, aI G 256 g_p2_leftIn), (a_p2_rightIn, aI G 256 g_p2_rightIn), (a_p2_sizes, aJ G 256 g_p2_sizes), (a_costs, aJ G 256 v2), (a_crosses, aI G 256 v3), (a_part, aI G 256 v4)] := hD
  refine lv_topi (fun v6 ev6 => ?_)
  have hf := dn_e ev6 hf
  refine lv_istore (lv' := [(5, .int v6), (4, .int v5), (0, .ref h0), (1, .int x1), (2, .ref a_p2), (3, .int x3)]) hx hb d_B_findOf_31 hl (by decide) rfl (fun ls hl => ?_)
  refine lv_iconst (v := (0 : Int32)) hx hb d_B_findOf_33 (by decide) ?_
  refine lv_istore (lv' := [(6, .int (0 : Int32)), (5, .int v6), (4, .int v5), (0, .ref h0), (1, .int x1), (2, .ref a_p2), (3, .int x3)]) hx hb d_B_findOf_34 hl (by decide) rfl (fun ls hl => ?_)
  exact hJ36 v2 v3 v4 v5 v6 (0 : Int32) H locs ls ⟨hP, hD, hS⟩ (lv_sub hl [3, 4, 5, 6, 2, 1, 0] rfl) hf
set_option maxHeartbeats 4000000 in
set_option maxRecDepth 100000 in
theorem c_B_find (l : Launch) (G : va_G × (Nat → ClassId)) (Y : (Nat → Nat) × (Nat → Nat)) (h0 : Nat) (a_p1 : Nat) (a_p1_sizes : Nat) (a_p1_capped : Nat) (a_p1_connected : Nat) (a_p1_leftIn : Nat) (a_p1_rightIn : Nat) (a_p1_pairs : Nat) (a_costs : Nat) (a_crosses : Nat) (a_part : Nat) (f_p1_known : Int32) (f_p1_paired : Int32) (f_p1_cappedInAll : Int32) (f_p1_connectedInAll : Int32) (f_p1_pairsInAll : Int32) (f_p1_end : Int32) (f_known : Int32) (g_p1_leftIn : Nat → Int32) (g_p1_rightIn : Nat → Int32) (g_p1_sizes : Nat → Int64) (g_costs : Nat → Int64) (g_crosses : Nat → Int32) (g_part : Nat → Int32) (x2 : Int32) (N : Nat) (res : Int32 × (Nat → Int64) × (Nat → Int32) × (Nat → Int32)) (hf : B_find N f_p1_end f_known g_p1_leftIn g_p1_rightIn g_p1_sizes g_costs g_crosses g_part x2 = some res) : Cv l classes y_B_find b_B_find 4 none (rmk 3) G.1 (tyL G) Y [.ref h0, .ref a_p1, .int x2] [(a_p1, O_S f_p1_known f_p1_paired f_p1_cappedInAll f_p1_connectedInAll f_p1_pairsInAll a_p1_sizes a_p1_capped a_p1_connected f_p1_end a_p1_leftIn a_p1_rightIn a_p1_pairs), (h0, O_B f_known a_costs a_crosses a_part), (a_p1_leftIn, aI G 256 g_p1_leftIn), (a_p1_rightIn, aI G 256 g_p1_rightIn), (a_p1_sizes, aJ G 256 g_p1_sizes), (a_costs, aJ G 256 g_costs), (a_crosses, aI G 256 g_crosses), (a_part, aI G 256 g_part)] [(a_p1, O_S f_p1_known f_p1_paired f_p1_cappedInAll f_p1_connectedInAll f_p1_pairsInAll a_p1_sizes a_p1_capped a_p1_connected f_p1_end a_p1_leftIn a_p1_rightIn a_p1_pairs), (h0, O_B res.1 a_costs a_crosses a_part), (a_p1_leftIn, aI G 256 g_p1_leftIn), (a_p1_rightIn, aI G 256 g_p1_rightIn), (a_p1_sizes, aJ G 256 g_p1_sizes), (a_costs, aJ G 256 res.2.1), (a_crosses, aI G 256 res.2.2.1), (a_part, aI G 256 res.2.2.2)] := by
  refine entV (by decide) (Nat.le_of_ble_eq_true rfl) ?_
  intro p e s m args below meth c ls A Q hx hb hml hown htl hK hsk wq hl hret
  obtain ⟨hP, hD, hS⟩ := wq
  have hl : lv_has ls 4 [(0, .ref h0), (1, .ref a_p1), (2, .int x2)] := hl
  have hS : va_S A s.heap s.heap [] := hS
  obtain ⟨H, hH⟩ : ∃ H : Heap, H = s.heap := ⟨_, rfl⟩
  obtain ⟨locs, hlocs⟩ : ∃ z : List Loc, z = [] := ⟨_, rfl⟩
  rw [← hH] at hP
  replace hS : va_S A s.heap H locs := by rw [hH, hlocs]; exact hS
  suffices hgo : W p l e (rmk 3) s m args below meth c H locs 0 0 Q (F0 m 0 ls []) by rw [hH, hlocs] at hgo; exact hgo
  have hJ23 : ∀ (f_known : Int32) (g_costs : Nat → Int64) (g_crosses : Nat → Int32) (g_part : Nat → Int32) (H : Heap) (locs : List Loc) (ls : Array Slot), PDS G.1 classes A s [(a_p1, O_S f_p1_known f_p1_paired f_p1_cappedInAll f_p1_connectedInAll f_p1_pairsInAll a_p1_sizes a_p1_capped a_p1_connected f_p1_end a_p1_leftIn a_p1_rightIn a_p1_pairs), (h0, O_B f_known a_costs a_crosses a_part), (a_p1_leftIn, aI G 256 g_p1_leftIn), (a_p1_rightIn, aI G 256 g_p1_rightIn), (a_p1_sizes, aJ G 256 g_p1_sizes), (a_costs, aJ G 256 g_costs), (a_crosses, aI G 256 g_crosses), (a_part, aI G 256 g_part)] H locs → lv_has ls 4 [(0, .ref h0)] → B_find_23 N f_p1_end f_known g_p1_leftIn g_p1_rightIn g_p1_sizes g_costs g_crosses g_part = some res → W p l e (rmk 3) s m args below meth c H locs 0 0 Q (F0 m 23 ls []) := by
    intro f_known g_costs g_crosses g_part H locs ls wq hl hf
    obtain ⟨hP, hD, hS⟩ := wq
    refine lv_aload_n hx hb d_B_find_23 rfl (lv_at hl 0 rfl) ?_
    refine lv_iconst (v := (1 : Int32)) hx hb d_B_find_24 (by decide) ?_
    refine va_put (D := G.1) (ci := 0) (v := .int (1 : Int32)) (ty := .boolean) (C := n_B) (T := T_B) (N := 4) hx hb htl iw_B ty_B ty_B_ok nm_B hown hK hP hD hS 1 rfl rfl 0 (by decide) (htl _ k_398) (fun _ h9 => h9) rfl (by decide +kernel) rfl rfl (Nat.le_of_ble_eq_true rfl) d_B_find_25 (fun H locs hP hD hS => ?_)
    have hP : va_P G.1 classes [(a_p1, O_S f_p1_known f_p1_paired f_p1_cappedInAll f_p1_connectedInAll f_p1_pairsInAll a_p1_sizes a_p1_capped a_p1_connected f_p1_end a_p1_leftIn a_p1_rightIn a_p1_pairs), (h0, O_B (1 : Int32) a_costs a_crosses a_part), (a_p1_leftIn, aI G 256 g_p1_leftIn), (a_p1_rightIn, aI G 256 g_p1_rightIn), (a_p1_sizes, aJ G 256 g_p1_sizes), (a_costs, aJ G 256 g_costs), (a_crosses, aI G 256 g_crosses), (a_part, aI G 256 g_part)] H := hP
    have hD : va_D A [(a_p1, O_S f_p1_known f_p1_paired f_p1_cappedInAll f_p1_connectedInAll f_p1_pairsInAll a_p1_sizes a_p1_capped a_p1_connected f_p1_end a_p1_leftIn a_p1_rightIn a_p1_pairs), (h0, O_B (1 : Int32) a_costs a_crosses a_part), (a_p1_leftIn, aI G 256 g_p1_leftIn), (a_p1_rightIn, aI G 256 g_p1_rightIn), (a_p1_sizes, aJ G 256 g_p1_sizes), (a_costs, aJ G 256 g_costs), (a_crosses, aI G 256 g_crosses), (a_part, aI G 256 g_part)] := hD
    cases hf
    exact hret 28 ls H locs hP hS d_B_find_28
  have hJ2 : ∀ (f_known : Int32) (g_costs : Nat → Int64) (g_crosses : Nat → Int32) (g_part : Nat → Int32) (x3 : Int32) (H : Heap) (locs : List Loc) (ls : Array Slot), PDS G.1 classes A s [(a_p1, O_S f_p1_known f_p1_paired f_p1_cappedInAll f_p1_connectedInAll f_p1_pairsInAll a_p1_sizes a_p1_capped a_p1_connected f_p1_end a_p1_leftIn a_p1_rightIn a_p1_pairs), (h0, O_B f_known a_costs a_crosses a_part), (a_p1_leftIn, aI G 256 g_p1_leftIn), (a_p1_rightIn, aI G 256 g_p1_rightIn), (a_p1_sizes, aJ G 256 g_p1_sizes), (a_costs, aJ G 256 g_costs), (a_crosses, aI G 256 g_crosses), (a_part, aI G 256 g_part)] H locs → lv_has ls 4 [(0, .ref h0), (1, .ref a_p1), (2, .int x2), (3, .int x3)] → B_find_2 N f_p1_end f_known g_p1_leftIn g_p1_rightIn g_p1_sizes g_costs g_crosses g_part x2 x3 = some res → W p l e (rmk 3) s m args below meth c H locs 0 0 Q (F0 m 2 ls []) := by
    intro f_known g_costs g_crosses g_part x3 H locs ls wq hl hf
    obtain ⟨hP, hD, hS⟩ := wq
    obtain ⟨y2, hy2, hfo2⟩ := db_e hf
    have hL2 : ∀ (n : Nat) (g_costs : Nat → Int64) (g_crosses : Nat → Int32) (g_part : Nat → Int32) (x3 : Int32) (H : Heap) (locs : List Loc) (ls : Array Slot), lp (fun x => B_find_b2 N f_p1_end f_known g_p1_leftIn g_p1_rightIn g_p1_sizes x.1 x.2.1 x.2.2.1 x2 x.2.2.2) n (g_costs, g_crosses, g_part, x3) = some y2 → PDS G.1 classes A s [(a_p1, O_S f_p1_known f_p1_paired f_p1_cappedInAll f_p1_connectedInAll f_p1_pairsInAll a_p1_sizes a_p1_capped a_p1_connected f_p1_end a_p1_leftIn a_p1_rightIn a_p1_pairs), (h0, O_B f_known a_costs a_crosses a_part), (a_p1_leftIn, aI G 256 g_p1_leftIn), (a_p1_rightIn, aI G 256 g_p1_rightIn), (a_p1_sizes, aJ G 256 g_p1_sizes), (a_costs, aJ G 256 g_costs), (a_crosses, aI G 256 g_crosses), (a_part, aI G 256 g_part)] H locs → lv_has ls 4 [(0, .ref h0), (1, .ref a_p1), (2, .int x2), (3, .int x3)] → W p l e (rmk 3) s m args below meth c H locs 0 0 Q (F0 m 2 ls []) := by
      intro n
      induction n with
      | zero =>
        intro g_costs g_crosses g_part x3 H locs ls hf
        exact lp_0 hf
      | succ n ih2 =>
        intro g_costs g_crosses g_part x3 H locs ls hf wq hl
        obtain ⟨hP, hD, hS⟩ := wq
        obtain ⟨r2, hf, hk2⟩ := lp_s hf
        have hf : B_find_b2 N f_p1_end f_known g_p1_leftIn g_p1_rightIn g_p1_sizes g_costs g_crosses g_part x2 x3 = some r2 := hf
        refine lv_iload_n hx hb d_B_find_2 rfl (lv_at hl 3 rfl) ?_
        refine lv_aload_n hx hb d_B_find_3 rfl (lv_at hl 1 rfl) ?_
        refine va_getN (D := G.1) (ci := 8) (v := .int f_p1_end) (C := n_S) (T := T_S) (N := 12) hx hb htl iw_S hown hK hP 0 rfl rfl 8 (by decide) (va_Nw.use rfl (hsk.2.2.2.2.2 _ k_360)) (fun _ h9 => h9) rfl d_B_find_4 ?_
        refine lv_icmp_ge (tgt := 23) hx hb d_B_find_7 (by decide) (fun c1 => ?_) (fun c1 => ?_)
        · have hf := di_t c1 hf
          have hq2 := lpk_x hf hk2
          have hf := ex_y (f := fun y => B_find_a2 N f_p1_end f_known g_p1_leftIn g_p1_rightIn g_p1_sizes x2 y) hq2 hfo2
          have hf : B_find_23 N f_p1_end f_known g_p1_leftIn g_p1_rightIn g_p1_sizes g_costs g_crosses g_part = some res := hf
          exact hJ23 f_known g_costs g_crosses g_part H locs ls ⟨hP, hD, hS⟩ (lv_sub hl [0] rfl) hf
        · have hf := di_f c1 hf
          refine lv_aload_n hx hb d_B_find_10 rfl (lv_at hl 0 rfl) ?_
          refine lv_iload_n hx hb d_B_find_11 rfl (lv_at hl 3 rfl) ?_
          refine lv_aload_n hx hb d_B_find_12 rfl (lv_at hl 1 rfl) ?_
          refine lv_iload_n hx hb d_B_find_13 rfl (lv_at hl 2 rfl) ?_
          obtain ⟨t2, hv3, hf⟩ := db_e hf
          refine call_v (isC := [0, 1, 2, 3, 4, 5, 6, 7]) (run_V (As := [.int x3, .ref a_p1, .int x2]) (rest := []) (ci := 0) (q0 := 1) hx hb hml hown htl (c_B_findOf l G Y  h0 a_p1 a_p1_sizes a_p1_capped a_p1_connected a_p1_leftIn a_p1_rightIn a_p1_pairs a_costs a_crosses a_part f_p1_known f_p1_paired f_p1_cappedInAll f_p1_connectedInAll f_p1_pairsInAll f_p1_end f_known g_p1_leftIn g_p1_rightIn g_p1_sizes g_costs g_crosses g_part x3 x2 N t2 hv3) mv_B_findOf k_902 (hRk (by decide) (by decide)) hK hsk hS hP hD (isC := [0, 1, 2, 3, 4, 5, 6, 7]) rfl (by decide) rfl rfl rfl hl.1 rfl (lv_room (Nat.le_of_ble_eq_true rfl)) d_B_find_14) hP hD hS rfl rfl (fun H locs hP hD hS => ?_)
          have hP : va_P G.1 classes [(a_p1, O_S f_p1_known f_p1_paired f_p1_cappedInAll f_p1_connectedInAll f_p1_pairsInAll a_p1_sizes a_p1_capped a_p1_connected f_p1_end a_p1_leftIn a_p1_rightIn a_p1_pairs), (h0, O_B f_known a_costs a_crosses a_part), (a_p1_leftIn, aI G 256 g_p1_leftIn), (a_p1_rightIn, aI G 256 g_p1_rightIn), (a_p1_sizes, aJ G 256 g_p1_sizes), (a_costs, aJ G 256 t2.1), (a_crosses, aI G 256 t2.2.1), (a_part, aI G 256 t2.2.2)] H := hP
          have hD : va_D A [(a_p1, O_S f_p1_known f_p1_paired f_p1_cappedInAll f_p1_connectedInAll f_p1_pairsInAll a_p1_sizes a_p1_capped a_p1_connected f_p1_end a_p1_leftIn a_p1_rightIn a_p1_pairs), (h0, O_B f_known a_costs a_crosses a_part), (a_p1_leftIn, aI G 256 g_p1_leftIn), (a_p1_rightIn, aI G 256 g_p1_rightIn), (a_p1_sizes, aJ G 256 g_p1_sizes), (a_costs, aJ G 256 t2.1), (a_crosses, aI G 256 t2.2.1), (a_part, aI G 256 t2.2.2)] := hD
          obtain ⟨v4, ev4⟩ : ∃ z : Int32, z = x3 + (1 : Int32) := ⟨_, rfl⟩
          have hf := dn_e ev4 hf
          refine lv_iinc (v := v4) (lv' := [(3, .int v4), (0, .ref h0), (1, .ref a_p1), (2, .int x2)]) hx hb d_B_find_17 hl (k := 3) rfl (by rw [ev4]; rfl) (by decide) rfl (fun ls hl => ?_)
          refine lv_goto (tgt := 2) hx hb d_B_find_20 (by decide) ?_
          exact ih2 t2.1 t2.2.1 t2.2.2 v4 H locs ls (lpk_i hf hk2) ⟨hP, hD, hS⟩ (lv_sub hl [1, 2, 3, 0] rfl)
    exact hL2 N g_costs g_crosses g_part x3 H locs ls hy2 ⟨hP, hD, hS⟩ hl
  refine lv_iconst (v := (1 : Int32)) hx hb d_B_find_0 (by decide) ?_
  refine lv_istore_n (lv' := [(3, .int (1 : Int32)), (0, .ref h0), (1, .ref a_p1), (2, .int x2)]) hx hb d_B_find_1 rfl hl (by decide) rfl (fun ls hl => ?_)
  exact hJ2 f_known g_costs g_crosses g_part (1 : Int32) H locs ls ⟨hP, hD, hS⟩ (lv_sub hl [1, 2, 3, 0] rfl) hf
set_option maxHeartbeats 4000000 in
set_option maxRecDepth 100000 in
theorem c_G_canBeRows (l : Launch) (G : va_G × (Nat → ClassId)) (Y : (Nat → Nat) × (Nat → Nat)) (x0 : Int32) (res : Int32) (hf : G_canBeRows x0 = res) : Ci l classes y_G_canBeRows b_G_canBeRows 1 (some .boolean) (rmk 0) G.1 (tyL G) Y [.int x0] [] [] res := by
  refine entZ (by decide) (Nat.le_of_ble_eq_true rfl) ?_
  intro p e s m args below meth c ls A Q hx hb hml hown htl hK hsk wq hl hret
  obtain ⟨hP, hD, hS⟩ := wq
  have hl : lv_has ls 1 [(0, .int x0)] := hl
  have hS : va_S A s.heap s.heap [] := hS
  obtain ⟨H, hH⟩ : ∃ H : Heap, H = s.heap := ⟨_, rfl⟩
  obtain ⟨locs, hlocs⟩ : ∃ z : List Loc, z = [] := ⟨_, rfl⟩
  rw [← hH] at hP
  replace hS : va_S A s.heap H locs := by rw [hH, hlocs]; exact hS
  suffices hgo : W p l e (rmk 0) s m args below meth c H locs 0 0 Q (F0 m 0 ls []) by rw [hH, hlocs] at hgo; exact hgo
  refine lv_iload_n hx hb d_G_canBeRows_0 rfl (lv_at hl 0 rfl) ?_
  refine lv_iconst (v := (1 : Int32)) hx hb d_G_canBeRows_1 (by decide) ?_
  refine lv_icmp_lt (tgt := 15) hx hb d_G_canBeRows_2 (by decide) (fun c1 => ?_) (fun c1 => ?_)
  · have hf := di_t c1 hf
    refine lv_iconst (v := (0 : Int32)) hx hb d_G_canBeRows_15 (by decide) ?_
    cases hf
    exact hret 16 ls H locs z_0 hP hS d_G_canBeRows_16
  · have hf := di_f c1 hf
    refine lv_iload_n hx hb d_G_canBeRows_5 rfl (lv_at hl 0 rfl) ?_
    refine lv_ldc (v := (1000000 : Int32)) hx hb hown (htl _ k_678) d_G_canBeRows_6 ?_
    refine lv_icmp_gt (tgt := 15) hx hb d_G_canBeRows_8 (by decide) (fun c2 => ?_) (fun c2 => ?_)
    · have hf := di_t c2 hf
      refine lv_iconst (v := (0 : Int32)) hx hb d_G_canBeRows_15 (by decide) ?_
      cases hf
      exact hret 16 ls H locs z_0 hP hS d_G_canBeRows_16
    · have hf := di_f c2 hf
      refine lv_iconst (v := (1 : Int32)) hx hb d_G_canBeRows_11 (by decide) ?_
      refine lv_goto (tgt := 16) hx hb d_G_canBeRows_12 (by decide) ?_
      cases hf
      exact hret 16 ls H locs z_1 hP hS d_G_canBeRows_16
set_option maxHeartbeats 4000000 in
set_option maxRecDepth 100000 in
theorem c_G_canBeBy (l : Launch) (G : va_G × (Nat → ClassId)) (Y : (Nat → Nat) × (Nat → Nat)) (x0 : Int32) (res : Int32) (hf : G_canBeBy x0 = res) : Ci l classes y_G_canBeBy b_G_canBeBy 1 (some .boolean) (rmk 0) G.1 (tyL G) Y [.int x0] [] [] res := by
  refine entZ (by decide) (Nat.le_of_ble_eq_true rfl) ?_
  intro p e s m args below meth c ls A Q hx hb hml hown htl hK hsk wq hl hret
  obtain ⟨hP, hD, hS⟩ := wq
  have hl : lv_has ls 1 [(0, .int x0)] := hl
  have hS : va_S A s.heap s.heap [] := hS
  obtain ⟨H, hH⟩ : ∃ H : Heap, H = s.heap := ⟨_, rfl⟩
  obtain ⟨locs, hlocs⟩ : ∃ z : List Loc, z = [] := ⟨_, rfl⟩
  rw [← hH] at hP
  replace hS : va_S A s.heap H locs := by rw [hH, hlocs]; exact hS
  suffices hgo : W p l e (rmk 0) s m args below meth c H locs 0 0 Q (F0 m 0 ls []) by rw [hH, hlocs] at hgo; exact hgo
  refine lv_iload_n hx hb d_G_canBeBy_0 rfl (lv_at hl 0 rfl) ?_
  refine lv_iconst (v := (1 : Int32)) hx hb d_G_canBeBy_1 (by decide) ?_
  refine lv_icmp_lt (tgt := 15) hx hb d_G_canBeBy_2 (by decide) (fun c1 => ?_) (fun c1 => ?_)
  · have hf := di_t c1 hf
    refine lv_iconst (v := (0 : Int32)) hx hb d_G_canBeBy_15 (by decide) ?_
    cases hf
    exact hret 16 ls H locs z_0 hP hS d_G_canBeBy_16
  · have hf := di_f c1 hf
    refine lv_iload_n hx hb d_G_canBeBy_5 rfl (lv_at hl 0 rfl) ?_
    refine lv_ldc (v := (100000 : Int32)) hx hb hown (htl _ k_690) d_G_canBeBy_6 ?_
    refine lv_icmp_gt (tgt := 15) hx hb d_G_canBeBy_8 (by decide) (fun c2 => ?_) (fun c2 => ?_)
    · have hf := di_t c2 hf
      refine lv_iconst (v := (0 : Int32)) hx hb d_G_canBeBy_15 (by decide) ?_
      cases hf
      exact hret 16 ls H locs z_0 hP hS d_G_canBeBy_16
    · have hf := di_f c2 hf
      refine lv_iconst (v := (1 : Int32)) hx hb d_G_canBeBy_11 (by decide) ?_
      refine lv_goto (tgt := 16) hx hb d_G_canBeBy_12 (by decide) ?_
      cases hf
      exact hret 16 ls H locs z_1 hP hS d_G_canBeBy_16
set_option maxHeartbeats 4000000 in
set_option maxRecDepth 100000 in
theorem c_G_canBeLimit (l : Launch) (G : va_G × (Nat → ClassId)) (Y : (Nat → Nat) × (Nat → Nat)) (x0 : Int32) (res : Int32) (hf : G_canBeLimit x0 = res) : Ci l classes y_G_canBeLimit b_G_canBeLimit 1 (some .boolean) (rmk 0) G.1 (tyL G) Y [.int x0] [] [] res := by
  refine entZ (by decide) (Nat.le_of_ble_eq_true rfl) ?_
  intro p e s m args below meth c ls A Q hx hb hml hown htl hK hsk wq hl hret
  obtain ⟨hP, hD, hS⟩ := wq
  have hl : lv_has ls 1 [(0, .int x0)] := hl
  have hS : va_S A s.heap s.heap [] := hS
  obtain ⟨H, hH⟩ : ∃ H : Heap, H = s.heap := ⟨_, rfl⟩
  obtain ⟨locs, hlocs⟩ : ∃ z : List Loc, z = [] := ⟨_, rfl⟩
  rw [← hH] at hP
  replace hS : va_S A s.heap H locs := by rw [hH, hlocs]; exact hS
  suffices hgo : W p l e (rmk 0) s m args below meth c H locs 0 0 Q (F0 m 0 ls []) by rw [hH, hlocs] at hgo; exact hgo
  refine lv_iload_n hx hb d_G_canBeLimit_0 rfl (lv_at hl 0 rfl) ?_
  refine lv_if_lt (tgt := 15) hx hb d_G_canBeLimit_1 (by decide) (fun c1 => ?_) (fun c1 => ?_)
  · have hf := di_t c1 hf
    refine lv_iconst (v := (0 : Int32)) hx hb d_G_canBeLimit_15 (by decide) ?_
    cases hf
    exact hret 16 ls H locs z_0 hP hS d_G_canBeLimit_16
  · have hf := di_f c1 hf
    refine lv_iload_n hx hb d_G_canBeLimit_4 rfl (lv_at hl 0 rfl) ?_
    refine lv_sipush (v := (5000 : Int32)) hx hb d_G_canBeLimit_5 (by decide) ?_
    refine lv_icmp_gt (tgt := 15) hx hb d_G_canBeLimit_8 (by decide) (fun c2 => ?_) (fun c2 => ?_)
    · have hf := di_t c2 hf
      refine lv_iconst (v := (0 : Int32)) hx hb d_G_canBeLimit_15 (by decide) ?_
      cases hf
      exact hret 16 ls H locs z_0 hP hS d_G_canBeLimit_16
    · have hf := di_f c2 hf
      refine lv_iconst (v := (1 : Int32)) hx hb d_G_canBeLimit_11 (by decide) ?_
      refine lv_goto (tgt := 16) hx hb d_G_canBeLimit_12 (by decide) ?_
      cases hf
      exact hret 16 ls H locs z_1 hP hS d_G_canBeLimit_16
set_option maxHeartbeats 4000000 in
set_option maxRecDepth 100000 in
theorem c_G_clear (l : Launch) (G : va_G × (Nat → ClassId)) (Y : (Nat → Nat) × (Nat → Nat)) (h0 : Nat) (a_rows : Nat) (a_left : Nat) (a_right : Nat) (a_by : Nat) (f_relations : Int32) (f_edges : Int32) (f_limit : Int32) (res : Int32 × Int32 × Int32) (hf : G_clear f_relations f_edges f_limit = some res) : Cv l classes y_G_clear b_G_clear 1 none (rmk 0) G.1 (tyL G) Y [.ref h0] [(h0, O_G f_relations f_edges f_limit a_rows a_left a_right a_by)] [(h0, O_G res.1 res.2.1 res.2.2 a_rows a_left a_right a_by)] := by
  refine entV (by decide) (Nat.le_of_ble_eq_true rfl) ?_
  intro p e s m args below meth c ls A Q hx hb hml hown htl hK hsk wq hl hret
  obtain ⟨hP, hD, hS⟩ := wq
  have hl : lv_has ls 1 [(0, .ref h0)] := hl
  have hS : va_S A s.heap s.heap [] := hS
  obtain ⟨H, hH⟩ : ∃ H : Heap, H = s.heap := ⟨_, rfl⟩
  obtain ⟨locs, hlocs⟩ : ∃ z : List Loc, z = [] := ⟨_, rfl⟩
  rw [← hH] at hP
  replace hS : va_S A s.heap H locs := by rw [hH, hlocs]; exact hS
  suffices hgo : W p l e (rmk 0) s m args below meth c H locs 0 0 Q (F0 m 0 ls []) by rw [hH, hlocs] at hgo; exact hgo
  refine lv_aload_n hx hb d_G_clear_0 rfl (lv_at hl 0 rfl) ?_
  refine lv_iconst (v := (0 : Int32)) hx hb d_G_clear_1 (by decide) ?_
  refine va_put (D := G.1) (ci := 1) (v := .int (0 : Int32)) (ty := .int) (C := n_G) (T := T_G) (N := 7) hx hb htl iw_G ty_G ty_G_ok nm_G hown hK hP hD hS 0 rfl rfl 0 (by decide) (htl _ k_141) (fun _ h9 => h9) rfl (by decide +kernel) rfl rfl (Nat.le_of_ble_eq_true rfl) d_G_clear_2 (fun H locs hP hD hS => ?_)
  have hP : va_P G.1 classes [(h0, O_G (0 : Int32) f_edges f_limit a_rows a_left a_right a_by)] H := hP
  have hD : va_D A [(h0, O_G (0 : Int32) f_edges f_limit a_rows a_left a_right a_by)] := hD
  refine lv_aload_n hx hb d_G_clear_5 rfl (lv_at hl 0 rfl) ?_
  refine lv_iconst (v := (0 : Int32)) hx hb d_G_clear_6 (by decide) ?_
  refine va_put (D := G.1) (ci := 1) (v := .int (0 : Int32)) (ty := .int) (C := n_G) (T := T_G) (N := 7) hx hb htl iw_G ty_G ty_G_ok nm_G hown hK hP hD hS 0 rfl rfl 1 (by decide) (htl _ k_144) (fun _ h9 => h9) rfl (by decide +kernel) rfl rfl (Nat.le_of_ble_eq_true rfl) d_G_clear_7 (fun H locs hP hD hS => ?_)
  have hP : va_P G.1 classes [(h0, O_G (0 : Int32) (0 : Int32) f_limit a_rows a_left a_right a_by)] H := hP
  have hD : va_D A [(h0, O_G (0 : Int32) (0 : Int32) f_limit a_rows a_left a_right a_by)] := hD
  refine lv_aload_n hx hb d_G_clear_10 rfl (lv_at hl 0 rfl) ?_
  refine lv_sipush (v := (1000 : Int32)) hx hb d_G_clear_11 (by decide) ?_
  refine va_put (D := G.1) (ci := 1) (v := .int (1000 : Int32)) (ty := .int) (C := n_G) (T := T_G) (N := 7) hx hb htl iw_G ty_G ty_G_ok nm_G hown hK hP hD hS 0 rfl rfl 2 (by decide) (htl _ k_147) (fun _ h9 => h9) rfl (by decide +kernel) rfl rfl (Nat.le_of_ble_eq_true rfl) d_G_clear_14 (fun H locs hP hD hS => ?_)
  have hP : va_P G.1 classes [(h0, O_G (0 : Int32) (0 : Int32) (1000 : Int32) a_rows a_left a_right a_by)] H := hP
  have hD : va_D A [(h0, O_G (0 : Int32) (0 : Int32) (1000 : Int32) a_rows a_left a_right a_by)] := hD
  cases hf
  exact hret 17 ls H locs hP hS d_G_clear_17
set_option maxHeartbeats 4000000 in
set_option maxRecDepth 100000 in
theorem c_G_copy (l : Launch) (G : va_G × (Nat → ClassId)) (Y : (Nat → Nat) × (Nat → Nat)) (h0 : Nat) (a_p1 : Nat) (a_p1_rows : Nat) (a_p1_left : Nat) (a_p1_right : Nat) (a_p1_by : Nat) (a_rows : Nat) (a_left : Nat) (a_right : Nat) (a_by : Nat) (f_p1_relations : Int32) (f_p1_edges : Int32) (f_p1_limit : Int32) (f_relations : Int32) (f_edges : Int32) (f_limit : Int32) (g_p1_by : Nat → Int32) (g_p1_left : Nat → Int32) (g_p1_right : Nat → Int32) (g_p1_rows : Nat → Int32) (g_by : Nat → Int32) (g_left : Nat → Int32) (g_right : Nat → Int32) (g_rows : Nat → Int32) (res : Int32 × Int32 × Int32 × (Nat → Int32) × (Nat → Int32) × (Nat → Int32) × (Nat → Int32)) (hf : G_copy f_p1_relations f_p1_edges f_p1_limit f_relations f_edges f_limit g_p1_by g_p1_left g_p1_right g_p1_rows g_by g_left g_right g_rows = some res) : Cv l classes y_G_copy b_G_copy 2 none (rmk 1) G.1 (tyL G) Y [.ref h0, .ref a_p1] [(a_p1, O_G f_p1_relations f_p1_edges f_p1_limit a_p1_rows a_p1_left a_p1_right a_p1_by), (h0, O_G f_relations f_edges f_limit a_rows a_left a_right a_by), (a_p1_by, aI G 16 g_p1_by), (a_p1_left, aI G 16 g_p1_left), (a_p1_right, aI G 16 g_p1_right), (a_p1_rows, aI G 8 g_p1_rows), (a_by, aI G 16 g_by), (a_left, aI G 16 g_left), (a_right, aI G 16 g_right), (a_rows, aI G 8 g_rows)] [(a_p1, O_G f_p1_relations f_p1_edges f_p1_limit a_p1_rows a_p1_left a_p1_right a_p1_by), (h0, O_G res.1 res.2.1 res.2.2.1 a_rows a_left a_right a_by), (a_p1_by, aI G 16 g_p1_by), (a_p1_left, aI G 16 g_p1_left), (a_p1_right, aI G 16 g_p1_right), (a_p1_rows, aI G 8 g_p1_rows), (a_by, aI G 16 res.2.2.2.1), (a_left, aI G 16 res.2.2.2.2.1), (a_right, aI G 16 res.2.2.2.2.2.1), (a_rows, aI G 8 res.2.2.2.2.2.2)] := by
  refine entV (by decide) (Nat.le_of_ble_eq_true rfl) ?_
  intro p e s m args below meth c ls A Q hx hb hml hown htl hK hsk wq hl hret
  obtain ⟨hP, hD, hS⟩ := wq
  have hl : lv_has ls 2 [(0, .ref h0), (1, .ref a_p1)] := hl
  have hS : va_S A s.heap s.heap [] := hS
  obtain ⟨H, hH⟩ : ∃ H : Heap, H = s.heap := ⟨_, rfl⟩
  obtain ⟨locs, hlocs⟩ : ∃ z : List Loc, z = [] := ⟨_, rfl⟩
  rw [← hH] at hP
  replace hS : va_S A s.heap H locs := by rw [hH, hlocs]; exact hS
  suffices hgo : W p l e (rmk 1) s m args below meth c H locs 0 0 Q (F0 m 0 ls []) by rw [hH, hlocs] at hgo; exact hgo
  refine lv_aload_n hx hb d_G_copy_0 rfl (lv_at hl 0 rfl) ?_
  refine lv_aload_n hx hb d_G_copy_1 rfl (lv_at hl 1 rfl) ?_
  refine va_get (D := G.1) (ci := 1) (v := .int f_p1_relations) (C := n_G) (T := T_G) (N := 7) hx hb htl iw_G hown hK hP 0 rfl rfl 0 (by decide) (htl _ k_141) (fun _ h9 => h9) rfl d_G_copy_2 ?_
  refine va_put (D := G.1) (ci := 1) (v := .int f_p1_relations) (ty := .int) (C := n_G) (T := T_G) (N := 7) hx hb htl iw_G ty_G ty_G_ok nm_G hown hK hP hD hS 1 rfl rfl 0 (by decide) (htl _ k_141) (fun _ h9 => h9) rfl (by decide +kernel) rfl rfl (Nat.le_of_ble_eq_true rfl) d_G_copy_5 (fun H locs hP hD hS => ?_)
  have hP : va_P G.1 classes [(a_p1, O_G f_p1_relations f_p1_edges f_p1_limit a_p1_rows a_p1_left a_p1_right a_p1_by), (h0, O_G f_p1_relations f_edges f_limit a_rows a_left a_right a_by), (a_p1_by, aI G 16 g_p1_by), (a_p1_left, aI G 16 g_p1_left), (a_p1_right, aI G 16 g_p1_right), (a_p1_rows, aI G 8 g_p1_rows), (a_by, aI G 16 g_by), (a_left, aI G 16 g_left), (a_right, aI G 16 g_right), (a_rows, aI G 8 g_rows)] H := hP
  have hD : va_D A [(a_p1, O_G f_p1_relations f_p1_edges f_p1_limit a_p1_rows a_p1_left a_p1_right a_p1_by), (h0, O_G f_p1_relations f_edges f_limit a_rows a_left a_right a_by), (a_p1_by, aI G 16 g_p1_by), (a_p1_left, aI G 16 g_p1_left), (a_p1_right, aI G 16 g_p1_right), (a_p1_rows, aI G 8 g_p1_rows), (a_by, aI G 16 g_by), (a_left, aI G 16 g_left), (a_right, aI G 16 g_right), (a_rows, aI G 8 g_rows)] := hD
  refine lv_aload_n hx hb d_G_copy_8 rfl (lv_at hl 0 rfl) ?_
  refine lv_aload_n hx hb d_G_copy_9 rfl (lv_at hl 1 rfl) ?_
  refine va_get (D := G.1) (ci := 1) (v := .int f_p1_edges) (C := n_G) (T := T_G) (N := 7) hx hb htl iw_G hown hK hP 0 rfl rfl 1 (by decide) (htl _ k_144) (fun _ h9 => h9) rfl d_G_copy_10 ?_
  refine va_put (D := G.1) (ci := 1) (v := .int f_p1_edges) (ty := .int) (C := n_G) (T := T_G) (N := 7) hx hb htl iw_G ty_G ty_G_ok nm_G hown hK hP hD hS 1 rfl rfl 1 (by decide) (htl _ k_144) (fun _ h9 => h9) rfl (by decide +kernel) rfl rfl (Nat.le_of_ble_eq_true rfl) d_G_copy_13 (fun H locs hP hD hS => ?_)
  have hP : va_P G.1 classes [(a_p1, O_G f_p1_relations f_p1_edges f_p1_limit a_p1_rows a_p1_left a_p1_right a_p1_by), (h0, O_G f_p1_relations f_p1_edges f_limit a_rows a_left a_right a_by), (a_p1_by, aI G 16 g_p1_by), (a_p1_left, aI G 16 g_p1_left), (a_p1_right, aI G 16 g_p1_right), (a_p1_rows, aI G 8 g_p1_rows), (a_by, aI G 16 g_by), (a_left, aI G 16 g_left), (a_right, aI G 16 g_right), (a_rows, aI G 8 g_rows)] H := hP
  have hD : va_D A [(a_p1, O_G f_p1_relations f_p1_edges f_p1_limit a_p1_rows a_p1_left a_p1_right a_p1_by), (h0, O_G f_p1_relations f_p1_edges f_limit a_rows a_left a_right a_by), (a_p1_by, aI G 16 g_p1_by), (a_p1_left, aI G 16 g_p1_left), (a_p1_right, aI G 16 g_p1_right), (a_p1_rows, aI G 8 g_p1_rows), (a_by, aI G 16 g_by), (a_left, aI G 16 g_left), (a_right, aI G 16 g_right), (a_rows, aI G 8 g_rows)] := hD
  refine lv_aload_n hx hb d_G_copy_16 rfl (lv_at hl 0 rfl) ?_
  refine lv_aload_n hx hb d_G_copy_17 rfl (lv_at hl 1 rfl) ?_
  refine va_get (D := G.1) (ci := 1) (v := .int f_p1_limit) (C := n_G) (T := T_G) (N := 7) hx hb htl iw_G hown hK hP 0 rfl rfl 2 (by decide) (htl _ k_147) (fun _ h9 => h9) rfl d_G_copy_18 ?_
  refine va_put (D := G.1) (ci := 1) (v := .int f_p1_limit) (ty := .int) (C := n_G) (T := T_G) (N := 7) hx hb htl iw_G ty_G ty_G_ok nm_G hown hK hP hD hS 1 rfl rfl 2 (by decide) (htl _ k_147) (fun _ h9 => h9) rfl (by decide +kernel) rfl rfl (Nat.le_of_ble_eq_true rfl) d_G_copy_21 (fun H locs hP hD hS => ?_)
  have hP : va_P G.1 classes [(a_p1, O_G f_p1_relations f_p1_edges f_p1_limit a_p1_rows a_p1_left a_p1_right a_p1_by), (h0, O_G f_p1_relations f_p1_edges f_p1_limit a_rows a_left a_right a_by), (a_p1_by, aI G 16 g_p1_by), (a_p1_left, aI G 16 g_p1_left), (a_p1_right, aI G 16 g_p1_right), (a_p1_rows, aI G 8 g_p1_rows), (a_by, aI G 16 g_by), (a_left, aI G 16 g_left), (a_right, aI G 16 g_right), (a_rows, aI G 8 g_rows)] H := hP
  have hD : va_D A [(a_p1, O_G f_p1_relations f_p1_edges f_p1_limit a_p1_rows a_p1_left a_p1_right a_p1_by), (h0, O_G f_p1_relations f_p1_edges f_p1_limit a_rows a_left a_right a_by), (a_p1_by, aI G 16 g_p1_by), (a_p1_left, aI G 16 g_p1_left), (a_p1_right, aI G 16 g_p1_right), (a_p1_rows, aI G 8 g_p1_rows), (a_by, aI G 16 g_by), (a_left, aI G 16 g_left), (a_right, aI G 16 g_right), (a_rows, aI G 8 g_rows)] := hD
  refine lv_aload_n hx hb d_G_copy_24 rfl (lv_at hl 1 rfl) ?_
  refine va_get (D := G.1) (ci := 1) (v := .ref a_p1_rows) (C := n_G) (T := T_G) (N := 7) hx hb htl iw_G hown hK hP 0 rfl rfl 3 (by decide) (htl _ k_150) (fun _ h9 => h9) rfl d_G_copy_25 ?_
  refine lv_iconst (v := (0 : Int32)) hx hb d_G_copy_28 (by decide) ?_
  refine lv_aload_n hx hb d_G_copy_29 rfl (lv_at hl 0 rfl) ?_
  refine va_get (D := G.1) (ci := 1) (v := .ref a_rows) (C := n_G) (T := T_G) (N := 7) hx hb htl iw_G hown hK hP 1 rfl rfl 3 (by decide) (htl _ k_150) (fun _ h9 => h9) rfl d_G_copy_30 ?_
  refine lv_iconst (v := (0 : Int32)) hx hb d_G_copy_33 (by decide) ?_
  refine lv_bipush (v := (8 : Int32)) hx hb d_G_copy_34 (by decide) ?_
  refine nx_copy hx hb (hml.trans hl.1.symm) hown (htl _ k_723) (htl _ k_725) (htl _ k_724) (htl _ k_110) hK hP hD hS 5 9 1 1 rfl rfl rfl rfl rfl (by decide) (by decide) (by decide) (by decide) (by decide) (fun _ _ => rfl) (Nat.le_of_ble_eq_true rfl) (Nat.le_of_ble_eq_true rfl) d_G_copy_36 (fun v1 ev1 H locs hP hD hS => ?_)
  have hf := dn_e ev1 hf
  have hP : va_P G.1 classes [(a_p1, O_G f_p1_relations f_p1_edges f_p1_limit a_p1_rows a_p1_left a_p1_right a_p1_by), (h0, O_G f_p1_relations f_p1_edges f_p1_limit a_rows a_left a_right a_by), (a_p1_by, aI G 16 g_p1_by), (a_p1_left, aI G 16 g_p1_left), (a_p1_right, aI G 16 g_p1_right), (a_p1_rows, aI G 8 g_p1_rows), (a_by, aI G 16 g_by), (a_left, aI G 16 g_left), (a_right, aI G 16 g_right), (a_rows, aI G 8 v1)] H := hP
  have hD : va_D A [(a_p1, O_G f_p1_relations f_p1_edges f_p1_limit a_p1_rows a_p1_left a_p1_right a_p1_by), (h0, O_G f_p1_relations f_p1_edges f_p1_limit a_rows a_left a_right a_by), (a_p1_by, aI G 16 g_p1_by), (a_p1_left, aI G 16 g_p1_left), (a_p1_right, aI G 16 g_p1_right), (a_p1_rows, aI G 8 g_p1_rows), (a_by, aI G 16 g_by), (a_left, aI G 16 g_left), (a_right, aI G 16 g_right), (a_rows, aI G 8 v1)] := hD
  refine lv_aload_n hx hb d_G_copy_39 rfl (lv_at hl 1 rfl) ?_
  refine va_get (D := G.1) (ci := 1) (v := .ref a_p1_left) (C := n_G) (T := T_G) (N := 7) hx hb htl iw_G hown hK hP 0 rfl rfl 4 (by decide) (htl _ k_153) (fun _ h9 => h9) rfl d_G_copy_40 ?_
  refine lv_iconst (v := (0 : Int32)) hx hb d_G_copy_43 (by decide) ?_
  refine lv_aload_n hx hb d_G_copy_44 rfl (lv_at hl 0 rfl) ?_
  refine va_get (D := G.1) (ci := 1) (v := .ref a_left) (C := n_G) (T := T_G) (N := 7) hx hb htl iw_G hown hK hP 1 rfl rfl 4 (by decide) (htl _ k_153) (fun _ h9 => h9) rfl d_G_copy_45 ?_
  refine lv_iconst (v := (0 : Int32)) hx hb d_G_copy_48 (by decide) ?_
  refine lv_bipush (v := (16 : Int32)) hx hb d_G_copy_49 (by decide) ?_
  refine nx_copy hx hb (hml.trans hl.1.symm) hown (htl _ k_723) (htl _ k_725) (htl _ k_724) (htl _ k_110) hK hP hD hS 3 7 1 1 rfl rfl rfl rfl rfl (by decide) (by decide) (by decide) (by decide) (by decide) (fun _ _ => rfl) (Nat.le_of_ble_eq_true rfl) (Nat.le_of_ble_eq_true rfl) d_G_copy_51 (fun v2 ev2 H locs hP hD hS => ?_)
  have hf := dn_e ev2 hf
  have hP : va_P G.1 classes [(a_p1, O_G f_p1_relations f_p1_edges f_p1_limit a_p1_rows a_p1_left a_p1_right a_p1_by), (h0, O_G f_p1_relations f_p1_edges f_p1_limit a_rows a_left a_right a_by), (a_p1_by, aI G 16 g_p1_by), (a_p1_left, aI G 16 g_p1_left), (a_p1_right, aI G 16 g_p1_right), (a_p1_rows, aI G 8 g_p1_rows), (a_by, aI G 16 g_by), (a_left, aI G 16 v2), (a_right, aI G 16 g_right), (a_rows, aI G 8 v1)] H := hP
  have hD : va_D A [(a_p1, O_G f_p1_relations f_p1_edges f_p1_limit a_p1_rows a_p1_left a_p1_right a_p1_by), (h0, O_G f_p1_relations f_p1_edges f_p1_limit a_rows a_left a_right a_by), (a_p1_by, aI G 16 g_p1_by), (a_p1_left, aI G 16 g_p1_left), (a_p1_right, aI G 16 g_p1_right), (a_p1_rows, aI G 8 g_p1_rows), (a_by, aI G 16 g_by), (a_left, aI G 16 v2), (a_right, aI G 16 g_right), (a_rows, aI G 8 v1)] := hD
  refine lv_aload_n hx hb d_G_copy_54 rfl (lv_at hl 1 rfl) ?_
  refine va_get (D := G.1) (ci := 1) (v := .ref a_p1_right) (C := n_G) (T := T_G) (N := 7) hx hb htl iw_G hown hK hP 0 rfl rfl 5 (by decide) (htl _ k_156) (fun _ h9 => h9) rfl d_G_copy_55 ?_
  refine lv_iconst (v := (0 : Int32)) hx hb d_G_copy_58 (by decide) ?_
  refine lv_aload_n hx hb d_G_copy_59 rfl (lv_at hl 0 rfl) ?_
  refine va_get (D := G.1) (ci := 1) (v := .ref a_right) (C := n_G) (T := T_G) (N := 7) hx hb htl iw_G hown hK hP 1 rfl rfl 5 (by decide) (htl _ k_156) (fun _ h9 => h9) rfl d_G_copy_60 ?_
  refine lv_iconst (v := (0 : Int32)) hx hb d_G_copy_63 (by decide) ?_
  refine lv_bipush (v := (16 : Int32)) hx hb d_G_copy_64 (by decide) ?_
  refine nx_copy hx hb (hml.trans hl.1.symm) hown (htl _ k_723) (htl _ k_725) (htl _ k_724) (htl _ k_110) hK hP hD hS 4 8 1 1 rfl rfl rfl rfl rfl (by decide) (by decide) (by decide) (by decide) (by decide) (fun _ _ => rfl) (Nat.le_of_ble_eq_true rfl) (Nat.le_of_ble_eq_true rfl) d_G_copy_66 (fun v3 ev3 H locs hP hD hS => ?_)
  have hf := dn_e ev3 hf
  have hP : va_P G.1 classes [(a_p1, O_G f_p1_relations f_p1_edges f_p1_limit a_p1_rows a_p1_left a_p1_right a_p1_by), (h0, O_G f_p1_relations f_p1_edges f_p1_limit a_rows a_left a_right a_by), (a_p1_by, aI G 16 g_p1_by), (a_p1_left, aI G 16 g_p1_left), (a_p1_right, aI G 16 g_p1_right), (a_p1_rows, aI G 8 g_p1_rows), (a_by, aI G 16 g_by), (a_left, aI G 16 v2), (a_right, aI G 16 v3), (a_rows, aI G 8 v1)] H := hP
  have hD : va_D A [(a_p1, O_G f_p1_relations f_p1_edges f_p1_limit a_p1_rows a_p1_left a_p1_right a_p1_by), (h0, O_G f_p1_relations f_p1_edges f_p1_limit a_rows a_left a_right a_by), (a_p1_by, aI G 16 g_p1_by), (a_p1_left, aI G 16 g_p1_left), (a_p1_right, aI G 16 g_p1_right), (a_p1_rows, aI G 8 g_p1_rows), (a_by, aI G 16 g_by), (a_left, aI G 16 v2), (a_right, aI G 16 v3), (a_rows, aI G 8 v1)] := hD
  refine lv_aload_n hx hb d_G_copy_69 rfl (lv_at hl 1 rfl) ?_
  refine va_get (D := G.1) (ci := 1) (v := .ref a_p1_by) (C := n_G) (T := T_G) (N := 7) hx hb htl iw_G hown hK hP 0 rfl rfl 6 (by decide) (htl _ k_159) (fun _ h9 => h9) rfl d_G_copy_70 ?_
  refine lv_iconst (v := (0 : Int32)) hx hb d_G_copy_73 (by decide) ?_
  refine lv_aload_n hx hb d_G_copy_74 rfl (lv_at hl 0 rfl) ?_
  refine va_get (D := G.1) (ci := 1) (v := .ref a_by) (C := n_G) (T := T_G) (N := 7) hx hb htl iw_G hown hK hP 1 rfl rfl 6 (by decide) (htl _ k_159) (fun _ h9 => h9) rfl d_G_copy_75 ?_
  refine lv_iconst (v := (0 : Int32)) hx hb d_G_copy_78 (by decide) ?_
  refine lv_bipush (v := (16 : Int32)) hx hb d_G_copy_79 (by decide) ?_
  refine nx_copy hx hb (hml.trans hl.1.symm) hown (htl _ k_723) (htl _ k_725) (htl _ k_724) (htl _ k_110) hK hP hD hS 2 6 1 1 rfl rfl rfl rfl rfl (by decide) (by decide) (by decide) (by decide) (by decide) (fun _ _ => rfl) (Nat.le_of_ble_eq_true rfl) (Nat.le_of_ble_eq_true rfl) d_G_copy_81 (fun v4 ev4 H locs hP hD hS => ?_)
  have hf := dn_e ev4 hf
  have hP : va_P G.1 classes [(a_p1, O_G f_p1_relations f_p1_edges f_p1_limit a_p1_rows a_p1_left a_p1_right a_p1_by), (h0, O_G f_p1_relations f_p1_edges f_p1_limit a_rows a_left a_right a_by), (a_p1_by, aI G 16 g_p1_by), (a_p1_left, aI G 16 g_p1_left), (a_p1_right, aI G 16 g_p1_right), (a_p1_rows, aI G 8 g_p1_rows), (a_by, aI G 16 v4), (a_left, aI G 16 v2), (a_right, aI G 16 v3), (a_rows, aI G 8 v1)] H := hP
  have hD : va_D A [(a_p1, O_G f_p1_relations f_p1_edges f_p1_limit a_p1_rows a_p1_left a_p1_right a_p1_by), (h0, O_G f_p1_relations f_p1_edges f_p1_limit a_rows a_left a_right a_by), (a_p1_by, aI G 16 g_p1_by), (a_p1_left, aI G 16 g_p1_left), (a_p1_right, aI G 16 g_p1_right), (a_p1_rows, aI G 8 g_p1_rows), (a_by, aI G 16 v4), (a_left, aI G 16 v2), (a_right, aI G 16 v3), (a_rows, aI G 8 v1)] := hD
  cases hf
  exact hret 84 ls H locs hP hS d_G_copy_84
set_option maxHeartbeats 4000000 in
set_option maxRecDepth 100000 in
theorem c_G_all (l : Launch) (G : va_G × (Nat → ClassId)) (Y : (Nat → Nat) × (Nat → Nat)) (h0 : Nat) (a_rows : Nat) (a_left : Nat) (a_right : Nat) (a_by : Nat) (f_relations : Int32) (f_edges : Int32) (f_limit : Int32) (res : Int32) (hf : G_all f_relations = res) : Ci l classes y_G_all b_G_all 1 (some .int) (rmk 0) G.1 (tyL G) Y [.ref h0] [(h0, O_G f_relations f_edges f_limit a_rows a_left a_right a_by)] [(h0, O_G f_relations f_edges f_limit a_rows a_left a_right a_by)] res := by
  refine entI (by decide) (Nat.le_of_ble_eq_true rfl) ?_
  intro p e s m args below meth c ls A Q hx hb hml hown htl hK hsk wq hl hret
  obtain ⟨hP, hD, hS⟩ := wq
  have hl : lv_has ls 1 [(0, .ref h0)] := hl
  have hS : va_S A s.heap s.heap [] := hS
  obtain ⟨H, hH⟩ : ∃ H : Heap, H = s.heap := ⟨_, rfl⟩
  obtain ⟨locs, hlocs⟩ : ∃ z : List Loc, z = [] := ⟨_, rfl⟩
  rw [← hH] at hP
  replace hS : va_S A s.heap H locs := by rw [hH, hlocs]; exact hS
  suffices hgo : W p l e (rmk 0) s m args below meth c H locs 0 0 Q (F0 m 0 ls []) by rw [hH, hlocs] at hgo; exact hgo
  refine lv_iconst (v := (1 : Int32)) hx hb d_G_all_0 (by decide) ?_
  refine lv_aload_n hx hb d_G_all_1 rfl (lv_at hl 0 rfl) ?_
  refine va_get (D := G.1) (ci := 1) (v := .int f_relations) (C := n_G) (T := T_G) (N := 7) hx hb htl iw_G hown hK hP 0 rfl rfl 0 (by decide) (htl _ k_141) (fun _ h9 => h9) rfl d_G_all_2 ?_
  refine lv_ishl hx hb d_G_all_5 ?_
  refine lv_iconst (v := (1 : Int32)) hx hb d_G_all_6 (by decide) ?_
  refine lv_isub hx hb d_G_all_7 ?_
  cases hf
  exact hret 8 ls H locs hP hS d_G_all_8
set_option maxHeartbeats 4000000 in
set_option maxRecDepth 100000 in
theorem c_G_holds (l : Launch) (G : va_G × (Nat → ClassId)) (Y : (Nat → Nat) × (Nat → Nat)) (h0 : Nat) (a_rows : Nat) (a_left : Nat) (a_right : Nat) (a_by : Nat) (f_relations : Int32) (f_edges : Int32) (f_limit : Int32) (x1 : Int32) (res : Int32) (hf : G_holds f_relations x1 = res) : Ci l classes y_G_holds b_G_holds 2 (some .boolean) (rmk 1) G.1 (tyL G) Y [.ref h0, .int x1] [(h0, O_G f_relations f_edges f_limit a_rows a_left a_right a_by)] [(h0, O_G f_relations f_edges f_limit a_rows a_left a_right a_by)] res := by
  refine entZ (by decide) (Nat.le_of_ble_eq_true rfl) ?_
  intro p e s m args below meth c ls A Q hx hb hml hown htl hK hsk wq hl hret
  obtain ⟨hP, hD, hS⟩ := wq
  have hl : lv_has ls 2 [(0, .ref h0), (1, .int x1)] := hl
  have hS : va_S A s.heap s.heap [] := hS
  obtain ⟨H, hH⟩ : ∃ H : Heap, H = s.heap := ⟨_, rfl⟩
  obtain ⟨locs, hlocs⟩ : ∃ z : List Loc, z = [] := ⟨_, rfl⟩
  rw [← hH] at hP
  replace hS : va_S A s.heap H locs := by rw [hH, hlocs]; exact hS
  suffices hgo : W p l e (rmk 1) s m args below meth c H locs 0 0 Q (F0 m 0 ls []) by rw [hH, hlocs] at hgo; exact hgo
  refine lv_iload_n hx hb d_G_holds_0 rfl (lv_at hl 1 rfl) ?_
  refine lv_if_le (tgt := 16) hx hb d_G_holds_1 (by decide) (fun c1 => ?_) (fun c1 => ?_)
  · have hf := di_t c1 hf
    refine lv_iconst (v := (0 : Int32)) hx hb d_G_holds_16 (by decide) ?_
    cases hf
    exact hret 17 ls H locs z_0 hP hS d_G_holds_17
  · have hf := di_f c1 hf
    refine lv_iload_n hx hb d_G_holds_4 rfl (lv_at hl 1 rfl) ?_
    refine lv_aload_n hx hb d_G_holds_5 rfl (lv_at hl 0 rfl) ?_
    refine call_i (isC := [0]) (run_V (As := []) (rest := [.int x1]) (ci := 1) (q0 := 0) hx hb hml hown htl (c_G_all l G Y  h0 a_rows a_left a_right a_by f_relations f_edges f_limit _ rfl) mv_G_all k_800 (hRk (by decide) (by decide)) hK hsk hS hP hD (isC := [0]) rfl (by decide) rfl rfl rfl hl.1 rfl (lv_room (Nat.le_of_ble_eq_true rfl)) d_G_holds_6) hP hD hS rfl rfl (fun H locs hP hD hS => ?_)
    have hP : va_P G.1 classes [(h0, O_G f_relations f_edges f_limit a_rows a_left a_right a_by)] H := hP
    have hD : va_D A [(h0, O_G f_relations f_edges f_limit a_rows a_left a_right a_by)] := hD
    refine lv_icmp_gt (tgt := 16) hx hb d_G_holds_9 (by decide) (fun c2 => ?_) (fun c2 => ?_)
    · have hf := di_t c2 hf
      refine lv_iconst (v := (0 : Int32)) hx hb d_G_holds_16 (by decide) ?_
      cases hf
      exact hret 17 ls H locs z_0 hP hS d_G_holds_17
    · have hf := di_f c2 hf
      refine lv_iconst (v := (1 : Int32)) hx hb d_G_holds_12 (by decide) ?_
      refine lv_goto (tgt := 17) hx hb d_G_holds_13 (by decide) ?_
      cases hf
      exact hret 17 ls H locs z_1 hP hS d_G_holds_17
set_option maxHeartbeats 4000000 in
set_option maxRecDepth 100000 in
theorem c_G_hasRelation (l : Launch) (G : va_G × (Nat → ClassId)) (Y : (Nat → Nat) × (Nat → Nat)) (h0 : Nat) (a_rows : Nat) (a_left : Nat) (a_right : Nat) (a_by : Nat) (f_relations : Int32) (f_edges : Int32) (f_limit : Int32) (x1 : Int32) (res : Int32) (hf : G_hasRelation f_relations x1 = res) : Ci l classes y_G_hasRelation b_G_hasRelation 2 (some .boolean) (rmk 0) G.1 (tyL G) Y [.ref h0, .int x1] [(h0, O_G f_relations f_edges f_limit a_rows a_left a_right a_by)] [(h0, O_G f_relations f_edges f_limit a_rows a_left a_right a_by)] res := by
  refine entZ (by decide) (Nat.le_of_ble_eq_true rfl) ?_
  intro p e s m args below meth c ls A Q hx hb hml hown htl hK hsk wq hl hret
  obtain ⟨hP, hD, hS⟩ := wq
  have hl : lv_has ls 2 [(0, .ref h0), (1, .int x1)] := hl
  have hS : va_S A s.heap s.heap [] := hS
  obtain ⟨H, hH⟩ : ∃ H : Heap, H = s.heap := ⟨_, rfl⟩
  obtain ⟨locs, hlocs⟩ : ∃ z : List Loc, z = [] := ⟨_, rfl⟩
  rw [← hH] at hP
  replace hS : va_S A s.heap H locs := by rw [hH, hlocs]; exact hS
  suffices hgo : W p l e (rmk 0) s m args below meth c H locs 0 0 Q (F0 m 0 ls []) by rw [hH, hlocs] at hgo; exact hgo
  refine lv_iload_n hx hb d_G_hasRelation_0 rfl (lv_at hl 1 rfl) ?_
  refine lv_if_lt (tgt := 16) hx hb d_G_hasRelation_1 (by decide) (fun c1 => ?_) (fun c1 => ?_)
  · have hf := di_t c1 hf
    refine lv_iconst (v := (0 : Int32)) hx hb d_G_hasRelation_16 (by decide) ?_
    cases hf
    exact hret 17 ls H locs z_0 hP hS d_G_hasRelation_17
  · have hf := di_f c1 hf
    refine lv_iload_n hx hb d_G_hasRelation_4 rfl (lv_at hl 1 rfl) ?_
    refine lv_aload_n hx hb d_G_hasRelation_5 rfl (lv_at hl 0 rfl) ?_
    refine va_get (D := G.1) (ci := 1) (v := .int f_relations) (C := n_G) (T := T_G) (N := 7) hx hb htl iw_G hown hK hP 0 rfl rfl 0 (by decide) (htl _ k_141) (fun _ h9 => h9) rfl d_G_hasRelation_6 ?_
    refine lv_icmp_ge (tgt := 16) hx hb d_G_hasRelation_9 (by decide) (fun c2 => ?_) (fun c2 => ?_)
    · have hf := di_t c2 hf
      refine lv_iconst (v := (0 : Int32)) hx hb d_G_hasRelation_16 (by decide) ?_
      cases hf
      exact hret 17 ls H locs z_0 hP hS d_G_hasRelation_17
    · have hf := di_f c2 hf
      refine lv_iconst (v := (1 : Int32)) hx hb d_G_hasRelation_12 (by decide) ?_
      refine lv_goto (tgt := 17) hx hb d_G_hasRelation_13 (by decide) ?_
      cases hf
      exact hret 17 ls H locs z_1 hP hS d_G_hasRelation_17
set_option maxHeartbeats 4000000 in
set_option maxRecDepth 100000 in
theorem c_G_hasEdge (l : Launch) (G : va_G × (Nat → ClassId)) (Y : (Nat → Nat) × (Nat → Nat)) (h0 : Nat) (a_rows : Nat) (a_left : Nat) (a_right : Nat) (a_by : Nat) (f_relations : Int32) (f_edges : Int32) (f_limit : Int32) (x1 : Int32) (res : Int32) (hf : G_hasEdge f_edges x1 = res) : Ci l classes y_G_hasEdge b_G_hasEdge 2 (some .boolean) (rmk 0) G.1 (tyL G) Y [.ref h0, .int x1] [(h0, O_G f_relations f_edges f_limit a_rows a_left a_right a_by)] [(h0, O_G f_relations f_edges f_limit a_rows a_left a_right a_by)] res := by
  refine entZ (by decide) (Nat.le_of_ble_eq_true rfl) ?_
  intro p e s m args below meth c ls A Q hx hb hml hown htl hK hsk wq hl hret
  obtain ⟨hP, hD, hS⟩ := wq
  have hl : lv_has ls 2 [(0, .ref h0), (1, .int x1)] := hl
  have hS : va_S A s.heap s.heap [] := hS
  obtain ⟨H, hH⟩ : ∃ H : Heap, H = s.heap := ⟨_, rfl⟩
  obtain ⟨locs, hlocs⟩ : ∃ z : List Loc, z = [] := ⟨_, rfl⟩
  rw [← hH] at hP
  replace hS : va_S A s.heap H locs := by rw [hH, hlocs]; exact hS
  suffices hgo : W p l e (rmk 0) s m args below meth c H locs 0 0 Q (F0 m 0 ls []) by rw [hH, hlocs] at hgo; exact hgo
  refine lv_iload_n hx hb d_G_hasEdge_0 rfl (lv_at hl 1 rfl) ?_
  refine lv_if_lt (tgt := 16) hx hb d_G_hasEdge_1 (by decide) (fun c1 => ?_) (fun c1 => ?_)
  · have hf := di_t c1 hf
    refine lv_iconst (v := (0 : Int32)) hx hb d_G_hasEdge_16 (by decide) ?_
    cases hf
    exact hret 17 ls H locs z_0 hP hS d_G_hasEdge_17
  · have hf := di_f c1 hf
    refine lv_iload_n hx hb d_G_hasEdge_4 rfl (lv_at hl 1 rfl) ?_
    refine lv_aload_n hx hb d_G_hasEdge_5 rfl (lv_at hl 0 rfl) ?_
    refine va_get (D := G.1) (ci := 1) (v := .int f_edges) (C := n_G) (T := T_G) (N := 7) hx hb htl iw_G hown hK hP 0 rfl rfl 1 (by decide) (htl _ k_144) (fun _ h9 => h9) rfl d_G_hasEdge_6 ?_
    refine lv_icmp_ge (tgt := 16) hx hb d_G_hasEdge_9 (by decide) (fun c2 => ?_) (fun c2 => ?_)
    · have hf := di_t c2 hf
      refine lv_iconst (v := (0 : Int32)) hx hb d_G_hasEdge_16 (by decide) ?_
      cases hf
      exact hret 17 ls H locs z_0 hP hS d_G_hasEdge_17
    · have hf := di_f c2 hf
      refine lv_iconst (v := (1 : Int32)) hx hb d_G_hasEdge_12 (by decide) ?_
      refine lv_goto (tgt := 17) hx hb d_G_hasEdge_13 (by decide) ?_
      cases hf
      exact hret 17 ls H locs z_1 hP hS d_G_hasEdge_17
set_option maxHeartbeats 4000000 in
set_option maxRecDepth 100000 in
theorem c_G_canLink (l : Launch) (G : va_G × (Nat → ClassId)) (Y : (Nat → Nat) × (Nat → Nat)) (h0 : Nat) (a_rows : Nat) (a_left : Nat) (a_right : Nat) (a_by : Nat) (f_relations : Int32) (f_edges : Int32) (f_limit : Int32) (x1 : Int32) (x2 : Int32) (res : Int32) (hf : G_canLink f_relations x1 x2 = res) : Ci l classes y_G_canLink b_G_canLink 3 (some .boolean) (rmk 2) G.1 (tyL G) Y [.ref h0, .int x1, .int x2] [(h0, O_G f_relations f_edges f_limit a_rows a_left a_right a_by)] [(h0, O_G f_relations f_edges f_limit a_rows a_left a_right a_by)] res := by
  refine entZ (by decide) (Nat.le_of_ble_eq_true rfl) ?_
  intro p e s m args below meth c ls A Q hx hb hml hown htl hK hsk wq hl hret
  obtain ⟨hP, hD, hS⟩ := wq
  have hl : lv_has ls 3 [(0, .ref h0), (1, .int x1), (2, .int x2)] := hl
  have hS : va_S A s.heap s.heap [] := hS
  obtain ⟨H, hH⟩ : ∃ H : Heap, H = s.heap := ⟨_, rfl⟩
  obtain ⟨locs, hlocs⟩ : ∃ z : List Loc, z = [] := ⟨_, rfl⟩
  rw [← hH] at hP
  replace hS : va_S A s.heap H locs := by rw [hH, hlocs]; exact hS
  suffices hgo : W p l e (rmk 2) s m args below meth c H locs 0 0 Q (F0 m 0 ls []) by rw [hH, hlocs] at hgo; exact hgo
  refine lv_aload_n hx hb d_G_canLink_0 rfl (lv_at hl 0 rfl) ?_
  refine lv_iload_n hx hb d_G_canLink_1 rfl (lv_at hl 1 rfl) ?_
  refine call_i (isC := [0]) (run_V (As := [.int x1]) (rest := []) (ci := 1) (q0 := 0) hx hb hml hown htl (c_G_holds l G Y  h0 a_rows a_left a_right a_by f_relations f_edges f_limit x1 _ rfl) mv_G_holds k_796 (hRk (by decide) (by decide)) hK hsk hS hP hD (isC := [0]) rfl (by decide) rfl rfl rfl hl.1 rfl (lv_room (Nat.le_of_ble_eq_true rfl)) d_G_canLink_2) hP hD hS rfl rfl (fun H locs hP hD hS => ?_)
  have hP : va_P G.1 classes [(h0, O_G f_relations f_edges f_limit a_rows a_left a_right a_by)] H := hP
  have hD : va_D A [(h0, O_G f_relations f_edges f_limit a_rows a_left a_right a_by)] := hD
  refine lv_if_eq (tgt := 26) hx hb d_G_canLink_5 (by decide) (fun c1 => ?_) (fun c1 => ?_)
  · have hf := di_t c1 hf
    refine lv_iconst (v := (0 : Int32)) hx hb d_G_canLink_26 (by decide) ?_
    cases hf
    exact hret 27 ls H locs z_0 hP hS d_G_canLink_27
  · have hf := di_f c1 hf
    refine lv_aload_n hx hb d_G_canLink_8 rfl (lv_at hl 0 rfl) ?_
    refine lv_iload_n hx hb d_G_canLink_9 rfl (lv_at hl 2 rfl) ?_
    refine call_i (isC := [0]) (run_V (As := [.int x2]) (rest := []) (ci := 1) (q0 := 0) hx hb hml hown htl (c_G_holds l G Y  h0 a_rows a_left a_right a_by f_relations f_edges f_limit x2 _ rfl) mv_G_holds k_796 (hRk (by decide) (by decide)) hK hsk hS hP hD (isC := [0]) rfl (by decide) rfl rfl rfl hl.1 rfl (lv_room (Nat.le_of_ble_eq_true rfl)) d_G_canLink_10) hP hD hS rfl rfl (fun H locs hP hD hS => ?_)
    have hP : va_P G.1 classes [(h0, O_G f_relations f_edges f_limit a_rows a_left a_right a_by)] H := hP
    have hD : va_D A [(h0, O_G f_relations f_edges f_limit a_rows a_left a_right a_by)] := hD
    refine lv_if_eq (tgt := 26) hx hb d_G_canLink_13 (by decide) (fun c2 => ?_) (fun c2 => ?_)
    · have hf := di_t c2 hf
      refine lv_iconst (v := (0 : Int32)) hx hb d_G_canLink_26 (by decide) ?_
      cases hf
      exact hret 27 ls H locs z_0 hP hS d_G_canLink_27
    · have hf := di_f c2 hf
      refine lv_iload_n hx hb d_G_canLink_16 rfl (lv_at hl 1 rfl) ?_
      refine lv_iload_n hx hb d_G_canLink_17 rfl (lv_at hl 2 rfl) ?_
      refine lv_iand hx hb d_G_canLink_18 ?_
      refine lv_if_ne (tgt := 26) hx hb d_G_canLink_19 (by decide) (fun c3 => ?_) (fun c3 => ?_)
      · have hf := di_f c3 hf
        refine lv_iconst (v := (0 : Int32)) hx hb d_G_canLink_26 (by decide) ?_
        cases hf
        exact hret 27 ls H locs z_0 hP hS d_G_canLink_27
      · have hf := di_t c3 hf
        refine lv_iconst (v := (1 : Int32)) hx hb d_G_canLink_22 (by decide) ?_
        refine lv_goto (tgt := 27) hx hb d_G_canLink_23 (by decide) ?_
        cases hf
        exact hret 27 ls H locs z_1 hP hS d_G_canLink_27
set_option maxHeartbeats 4000000 in
set_option maxRecDepth 100000 in
theorem c_G_addRelation (l : Launch) (G : va_G × (Nat → ClassId)) (Y : (Nat → Nat) × (Nat → Nat)) (h0 : Nat) (a_rows : Nat) (a_left : Nat) (a_right : Nat) (a_by : Nat) (f_relations : Int32) (f_edges : Int32) (f_limit : Int32) (g_rows : Nat → Int32) (x1 : Int32) (res : Int32 × (Nat → Int32)) (hf : G_addRelation f_relations g_rows x1 = some res) : Cv l classes y_G_addRelation b_G_addRelation 2 none (rmk 0) G.1 (tyL G) Y [.ref h0, .int x1] [(h0, O_G f_relations f_edges f_limit a_rows a_left a_right a_by), (a_rows, aI G 8 g_rows)] [(h0, O_G res.1 f_edges f_limit a_rows a_left a_right a_by), (a_rows, aI G 8 res.2)] := by
  refine entV (by decide) (Nat.le_of_ble_eq_true rfl) ?_
  intro p e s m args below meth c ls A Q hx hb hml hown htl hK hsk wq hl hret
  obtain ⟨hP, hD, hS⟩ := wq
  have hl : lv_has ls 2 [(0, .ref h0), (1, .int x1)] := hl
  have hS : va_S A s.heap s.heap [] := hS
  obtain ⟨H, hH⟩ : ∃ H : Heap, H = s.heap := ⟨_, rfl⟩
  obtain ⟨locs, hlocs⟩ : ∃ z : List Loc, z = [] := ⟨_, rfl⟩
  rw [← hH] at hP
  replace hS : va_S A s.heap H locs := by rw [hH, hlocs]; exact hS
  suffices hgo : W p l e (rmk 0) s m args below meth c H locs 0 0 Q (F0 m 0 ls []) by rw [hH, hlocs] at hgo; exact hgo
  refine lv_aload_n hx hb d_G_addRelation_0 rfl (lv_at hl 0 rfl) ?_
  refine va_get (D := G.1) (ci := 1) (v := .int f_relations) (C := n_G) (T := T_G) (N := 7) hx hb htl iw_G hown hK hP 0 rfl rfl 0 (by decide) (htl _ k_141) (fun _ h9 => h9) rfl d_G_addRelation_1 ?_
  refine lv_bipush (v := (8 : Int32)) hx hb d_G_addRelation_4 (by decide) ?_
  refine lv_icmp_ge (tgt := 29) hx hb d_G_addRelation_6 (by decide) (fun c1 => ?_) (fun c1 => ?_)
  · have hf := di_t c1 hf
    cases hf
    exact hret 29 ls H locs hP hS d_G_addRelation_29
  · have hf := di_f c1 hf
    refine lv_aload_n hx hb d_G_addRelation_9 rfl (lv_at hl 0 rfl) ?_
    refine va_get (D := G.1) (ci := 1) (v := .ref a_rows) (C := n_G) (T := T_G) (N := 7) hx hb htl iw_G hown hK hP 0 rfl rfl 3 (by decide) (htl _ k_150) (fun _ h9 => h9) rfl d_G_addRelation_10 ?_
    refine lv_aload_n hx hb d_G_addRelation_13 rfl (lv_at hl 0 rfl) ?_
    refine va_get (D := G.1) (ci := 1) (v := .int f_relations) (C := n_G) (T := T_G) (N := 7) hx hb htl iw_G hown hK hP 0 rfl rfl 0 (by decide) (htl _ k_141) (fun _ h9 => h9) rfl d_G_addRelation_14 ?_
    refine lv_iload_n hx hb d_G_addRelation_17 rfl (lv_at hl 1 rfl) ?_
    obtain ⟨c2, hf⟩ := dk_e hf
    refine nx_iast hx hb hK hP hD hS 1 1 rfl rfl c2 d_G_addRelation_18 (fun v3 ev3 H locs hP hD hS => ?_)
    have hf := dn_e ev3 hf
    have hP : va_P G.1 classes [(h0, O_G f_relations f_edges f_limit a_rows a_left a_right a_by), (a_rows, aI G 8 v3)] H := hP
    have hD : va_D A [(h0, O_G f_relations f_edges f_limit a_rows a_left a_right a_by), (a_rows, aI G 8 v3)] := hD
    refine lv_aload_n hx hb d_G_addRelation_19 rfl (lv_at hl 0 rfl) ?_
    refine lv_dup hx hb d_G_addRelation_20 rfl ?_
    refine va_get (D := G.1) (ci := 1) (v := .int f_relations) (C := n_G) (T := T_G) (N := 7) hx hb htl iw_G hown hK hP 0 rfl rfl 0 (by decide) (htl _ k_141) (fun _ h9 => h9) rfl d_G_addRelation_21 ?_
    refine lv_iconst (v := (1 : Int32)) hx hb d_G_addRelation_24 (by decide) ?_
    refine lv_iadd hx hb d_G_addRelation_25 ?_
    refine lv_topi (fun v4 ev4 => ?_)
    have hf := dn_e ev4 hf
    refine va_put (D := G.1) (ci := 1) (v := .int v4) (ty := .int) (C := n_G) (T := T_G) (N := 7) hx hb htl iw_G ty_G ty_G_ok nm_G hown hK hP hD hS 0 rfl rfl 0 (by decide) (htl _ k_141) (fun _ h9 => h9) rfl (by decide +kernel) rfl rfl (Nat.le_of_ble_eq_true rfl) d_G_addRelation_26 (fun H locs hP hD hS => ?_)
    have hP : va_P G.1 classes [(h0, O_G v4 f_edges f_limit a_rows a_left a_right a_by), (a_rows, aI G 8 v3)] H := hP
    have hD : va_D A [(h0, O_G v4 f_edges f_limit a_rows a_left a_right a_by), (a_rows, aI G 8 v3)] := hD
    cases hf
    exact hret 29 ls H locs hP hS d_G_addRelation_29
set_option maxHeartbeats 4000000 in
set_option maxRecDepth 100000 in
theorem c_G_addEdge (l : Launch) (G : va_G × (Nat → ClassId)) (Y : (Nat → Nat) × (Nat → Nat)) (h0 : Nat) (a_rows : Nat) (a_left : Nat) (a_right : Nat) (a_by : Nat) (f_relations : Int32) (f_edges : Int32) (f_limit : Int32) (g_by : Nat → Int32) (g_left : Nat → Int32) (g_right : Nat → Int32) (x1 : Int32) (x2 : Int32) (x3 : Int32) (res : Int32 × (Nat → Int32) × (Nat → Int32) × (Nat → Int32)) (hf : G_addEdge f_edges g_by g_left g_right x1 x2 x3 = some res) : Cv l classes y_G_addEdge b_G_addEdge 4 none (rmk 0) G.1 (tyL G) Y [.ref h0, .int x1, .int x2, .int x3] [(h0, O_G f_relations f_edges f_limit a_rows a_left a_right a_by), (a_by, aI G 16 g_by), (a_left, aI G 16 g_left), (a_right, aI G 16 g_right)] [(h0, O_G f_relations res.1 f_limit a_rows a_left a_right a_by), (a_by, aI G 16 res.2.1), (a_left, aI G 16 res.2.2.1), (a_right, aI G 16 res.2.2.2)] := by
  refine entV (by decide) (Nat.le_of_ble_eq_true rfl) ?_
  intro p e s m args below meth c ls A Q hx hb hml hown htl hK hsk wq hl hret
  obtain ⟨hP, hD, hS⟩ := wq
  have hl : lv_has ls 4 [(0, .ref h0), (1, .int x1), (2, .int x2), (3, .int x3)] := hl
  have hS : va_S A s.heap s.heap [] := hS
  obtain ⟨H, hH⟩ : ∃ H : Heap, H = s.heap := ⟨_, rfl⟩
  obtain ⟨locs, hlocs⟩ : ∃ z : List Loc, z = [] := ⟨_, rfl⟩
  rw [← hH] at hP
  replace hS : va_S A s.heap H locs := by rw [hH, hlocs]; exact hS
  suffices hgo : W p l e (rmk 0) s m args below meth c H locs 0 0 Q (F0 m 0 ls []) by rw [hH, hlocs] at hgo; exact hgo
  refine lv_aload_n hx hb d_G_addEdge_0 rfl (lv_at hl 0 rfl) ?_
  refine va_get (D := G.1) (ci := 1) (v := .int f_edges) (C := n_G) (T := T_G) (N := 7) hx hb htl iw_G hown hK hP 0 rfl rfl 1 (by decide) (htl _ k_144) (fun _ h9 => h9) rfl d_G_addEdge_1 ?_
  refine lv_bipush (v := (16 : Int32)) hx hb d_G_addEdge_4 (by decide) ?_
  refine lv_icmp_ge (tgt := 49) hx hb d_G_addEdge_6 (by decide) (fun c1 => ?_) (fun c1 => ?_)
  · have hf := di_t c1 hf
    cases hf
    exact hret 49 ls H locs hP hS d_G_addEdge_49
  · have hf := di_f c1 hf
    refine lv_aload_n hx hb d_G_addEdge_9 rfl (lv_at hl 0 rfl) ?_
    refine va_get (D := G.1) (ci := 1) (v := .ref a_left) (C := n_G) (T := T_G) (N := 7) hx hb htl iw_G hown hK hP 0 rfl rfl 4 (by decide) (htl _ k_153) (fun _ h9 => h9) rfl d_G_addEdge_10 ?_
    refine lv_aload_n hx hb d_G_addEdge_13 rfl (lv_at hl 0 rfl) ?_
    refine va_get (D := G.1) (ci := 1) (v := .int f_edges) (C := n_G) (T := T_G) (N := 7) hx hb htl iw_G hown hK hP 0 rfl rfl 1 (by decide) (htl _ k_144) (fun _ h9 => h9) rfl d_G_addEdge_14 ?_
    refine lv_iload_n hx hb d_G_addEdge_17 rfl (lv_at hl 1 rfl) ?_
    obtain ⟨c2, hf⟩ := dk_e hf
    refine nx_iast hx hb hK hP hD hS 2 1 rfl rfl c2 d_G_addEdge_18 (fun v3 ev3 H locs hP hD hS => ?_)
    have hf := dn_e ev3 hf
    have hP : va_P G.1 classes [(h0, O_G f_relations f_edges f_limit a_rows a_left a_right a_by), (a_by, aI G 16 g_by), (a_left, aI G 16 v3), (a_right, aI G 16 g_right)] H := hP
    have hD : va_D A [(h0, O_G f_relations f_edges f_limit a_rows a_left a_right a_by), (a_by, aI G 16 g_by), (a_left, aI G 16 v3), (a_right, aI G 16 g_right)] := hD
    refine lv_aload_n hx hb d_G_addEdge_19 rfl (lv_at hl 0 rfl) ?_
    refine va_get (D := G.1) (ci := 1) (v := .ref a_right) (C := n_G) (T := T_G) (N := 7) hx hb htl iw_G hown hK hP 0 rfl rfl 5 (by decide) (htl _ k_156) (fun _ h9 => h9) rfl d_G_addEdge_20 ?_
    refine lv_aload_n hx hb d_G_addEdge_23 rfl (lv_at hl 0 rfl) ?_
    refine va_get (D := G.1) (ci := 1) (v := .int f_edges) (C := n_G) (T := T_G) (N := 7) hx hb htl iw_G hown hK hP 0 rfl rfl 1 (by decide) (htl _ k_144) (fun _ h9 => h9) rfl d_G_addEdge_24 ?_
    refine lv_iload_n hx hb d_G_addEdge_27 rfl (lv_at hl 2 rfl) ?_
    refine nx_iast hx hb hK hP hD hS 3 1 rfl rfl c2 d_G_addEdge_28 (fun v4 ev4 H locs hP hD hS => ?_)
    have hf := dn_e ev4 hf
    have hP : va_P G.1 classes [(h0, O_G f_relations f_edges f_limit a_rows a_left a_right a_by), (a_by, aI G 16 g_by), (a_left, aI G 16 v3), (a_right, aI G 16 v4)] H := hP
    have hD : va_D A [(h0, O_G f_relations f_edges f_limit a_rows a_left a_right a_by), (a_by, aI G 16 g_by), (a_left, aI G 16 v3), (a_right, aI G 16 v4)] := hD
    refine lv_aload_n hx hb d_G_addEdge_29 rfl (lv_at hl 0 rfl) ?_
    refine va_get (D := G.1) (ci := 1) (v := .ref a_by) (C := n_G) (T := T_G) (N := 7) hx hb htl iw_G hown hK hP 0 rfl rfl 6 (by decide) (htl _ k_159) (fun _ h9 => h9) rfl d_G_addEdge_30 ?_
    refine lv_aload_n hx hb d_G_addEdge_33 rfl (lv_at hl 0 rfl) ?_
    refine va_get (D := G.1) (ci := 1) (v := .int f_edges) (C := n_G) (T := T_G) (N := 7) hx hb htl iw_G hown hK hP 0 rfl rfl 1 (by decide) (htl _ k_144) (fun _ h9 => h9) rfl d_G_addEdge_34 ?_
    refine lv_iload_n hx hb d_G_addEdge_37 rfl (lv_at hl 3 rfl) ?_
    refine nx_iast hx hb hK hP hD hS 1 1 rfl rfl c2 d_G_addEdge_38 (fun v5 ev5 H locs hP hD hS => ?_)
    have hf := dn_e ev5 hf
    have hP : va_P G.1 classes [(h0, O_G f_relations f_edges f_limit a_rows a_left a_right a_by), (a_by, aI G 16 v5), (a_left, aI G 16 v3), (a_right, aI G 16 v4)] H := hP
    have hD : va_D A [(h0, O_G f_relations f_edges f_limit a_rows a_left a_right a_by), (a_by, aI G 16 v5), (a_left, aI G 16 v3), (a_right, aI G 16 v4)] := hD
    refine lv_aload_n hx hb d_G_addEdge_39 rfl (lv_at hl 0 rfl) ?_
    refine lv_dup hx hb d_G_addEdge_40 rfl ?_
    refine va_get (D := G.1) (ci := 1) (v := .int f_edges) (C := n_G) (T := T_G) (N := 7) hx hb htl iw_G hown hK hP 0 rfl rfl 1 (by decide) (htl _ k_144) (fun _ h9 => h9) rfl d_G_addEdge_41 ?_
    refine lv_iconst (v := (1 : Int32)) hx hb d_G_addEdge_44 (by decide) ?_
    refine lv_iadd hx hb d_G_addEdge_45 ?_
    refine lv_topi (fun v6 ev6 => ?_)
    have hf := dn_e ev6 hf
    refine va_put (D := G.1) (ci := 1) (v := .int v6) (ty := .int) (C := n_G) (T := T_G) (N := 7) hx hb htl iw_G ty_G ty_G_ok nm_G hown hK hP hD hS 0 rfl rfl 1 (by decide) (htl _ k_144) (fun _ h9 => h9) rfl (by decide +kernel) rfl rfl (Nat.le_of_ble_eq_true rfl) d_G_addEdge_46 (fun H locs hP hD hS => ?_)
    have hP : va_P G.1 classes [(h0, O_G f_relations v6 f_limit a_rows a_left a_right a_by), (a_by, aI G 16 v5), (a_left, aI G 16 v3), (a_right, aI G 16 v4)] H := hP
    have hD : va_D A [(h0, O_G f_relations v6 f_limit a_rows a_left a_right a_by), (a_by, aI G 16 v5), (a_left, aI G 16 v3), (a_right, aI G 16 v4)] := hD
    cases hf
    exact hret 49 ls H locs hP hS d_G_addEdge_49
set_option maxHeartbeats 4000000 in
set_option maxRecDepth 100000 in
theorem c_G_dropEdge (l : Launch) (G : va_G × (Nat → ClassId)) (Y : (Nat → Nat) × (Nat → Nat)) (h0 : Nat) (a_rows : Nat) (a_left : Nat) (a_right : Nat) (a_by : Nat) (f_relations : Int32) (f_edges : Int32) (f_limit : Int32) (g_by : Nat → Int32) (g_left : Nat → Int32) (g_right : Nat → Int32) (x1 : Int32) (res : Int32 × (Nat → Int32) × (Nat → Int32) × (Nat → Int32)) (hf : G_dropEdge f_edges g_by g_left g_right x1 = some res) : Cv l classes y_G_dropEdge b_G_dropEdge 2 none (rmk 1) G.1 (tyL G) Y [.ref h0, .int x1] [(h0, O_G f_relations f_edges f_limit a_rows a_left a_right a_by), (a_by, aI G 16 g_by), (a_left, aI G 16 g_left), (a_right, aI G 16 g_right)] [(h0, O_G f_relations res.1 f_limit a_rows a_left a_right a_by), (a_by, aI G 16 res.2.1), (a_left, aI G 16 res.2.2.1), (a_right, aI G 16 res.2.2.2)] := by
  refine entV (by decide) (Nat.le_of_ble_eq_true rfl) ?_
  intro p e s m args below meth c ls A Q hx hb hml hown htl hK hsk wq hl hret
  obtain ⟨hP, hD, hS⟩ := wq
  have hl : lv_has ls 2 [(0, .ref h0), (1, .int x1)] := hl
  have hS : va_S A s.heap s.heap [] := hS
  obtain ⟨H, hH⟩ : ∃ H : Heap, H = s.heap := ⟨_, rfl⟩
  obtain ⟨locs, hlocs⟩ : ∃ z : List Loc, z = [] := ⟨_, rfl⟩
  rw [← hH] at hP
  replace hS : va_S A s.heap H locs := by rw [hH, hlocs]; exact hS
  suffices hgo : W p l e (rmk 1) s m args below meth c H locs 0 0 Q (F0 m 0 ls []) by rw [hH, hlocs] at hgo; exact hgo
  refine lv_aload_n hx hb d_G_dropEdge_0 rfl (lv_at hl 0 rfl) ?_
  refine lv_iload_n hx hb d_G_dropEdge_1 rfl (lv_at hl 1 rfl) ?_
  refine call_i (isC := [0]) (run_V (As := [.int x1]) (rest := []) (ci := 1) (q0 := 0) hx hb hml hown htl (c_G_hasEdge l G Y  h0 a_rows a_left a_right a_by f_relations f_edges f_limit x1 _ rfl) mv_G_hasEdge k_818 (hRk (by decide) (by decide)) hK hsk hS hP hD (isC := [0]) rfl (by decide) rfl rfl rfl hl.1 rfl (lv_room (Nat.le_of_ble_eq_true rfl)) d_G_dropEdge_2) hP hD hS rfl rfl (fun H locs hP hD hS => ?_)
  have hP : va_P G.1 classes [(h0, O_G f_relations f_edges f_limit a_rows a_left a_right a_by), (a_by, aI G 16 g_by), (a_left, aI G 16 g_left), (a_right, aI G 16 g_right)] H := hP
  have hD : va_D A [(h0, O_G f_relations f_edges f_limit a_rows a_left a_right a_by), (a_by, aI G 16 g_by), (a_left, aI G 16 g_left), (a_right, aI G 16 g_right)] := hD
  refine lv_if_eq (tgt := 81) hx hb d_G_dropEdge_5 (by decide) (fun c1 => ?_) (fun c1 => ?_)
  · have hf := di_t c1 hf
    cases hf
    exact hret 81 ls H locs hP hS d_G_dropEdge_81
  · have hf := di_f c1 hf
    refine lv_aload_n hx hb d_G_dropEdge_8 rfl (lv_at hl 0 rfl) ?_
    refine lv_dup hx hb d_G_dropEdge_9 rfl ?_
    refine va_get (D := G.1) (ci := 1) (v := .int f_edges) (C := n_G) (T := T_G) (N := 7) hx hb htl iw_G hown hK hP 0 rfl rfl 1 (by decide) (htl _ k_144) (fun _ h9 => h9) rfl d_G_dropEdge_10 ?_
    refine lv_iconst (v := (1 : Int32)) hx hb d_G_dropEdge_13 (by decide) ?_
    refine lv_isub hx hb d_G_dropEdge_14 ?_
    refine lv_topi (fun v2 ev2 => ?_)
    have hf := dn_e ev2 hf
    refine va_put (D := G.1) (ci := 1) (v := .int v2) (ty := .int) (C := n_G) (T := T_G) (N := 7) hx hb htl iw_G ty_G ty_G_ok nm_G hown hK hP hD hS 0 rfl rfl 1 (by decide) (htl _ k_144) (fun _ h9 => h9) rfl (by decide +kernel) rfl rfl (Nat.le_of_ble_eq_true rfl) d_G_dropEdge_15 (fun H locs hP hD hS => ?_)
    have hP : va_P G.1 classes [(h0, O_G f_relations v2 f_limit a_rows a_left a_right a_by), (a_by, aI G 16 g_by), (a_left, aI G 16 g_left), (a_right, aI G 16 g_right)] H := hP
    have hD : va_D A [(h0, O_G f_relations v2 f_limit a_rows a_left a_right a_by), (a_by, aI G 16 g_by), (a_left, aI G 16 g_left), (a_right, aI G 16 g_right)] := hD
    refine lv_aload_n hx hb d_G_dropEdge_18 rfl (lv_at hl 0 rfl) ?_
    refine va_get (D := G.1) (ci := 1) (v := .ref a_left) (C := n_G) (T := T_G) (N := 7) hx hb htl iw_G hown hK hP 0 rfl rfl 4 (by decide) (htl _ k_153) (fun _ h9 => h9) rfl d_G_dropEdge_19 ?_
    refine lv_iload_n hx hb d_G_dropEdge_22 rfl (lv_at hl 1 rfl) ?_
    refine lv_iconst (v := (1 : Int32)) hx hb d_G_dropEdge_23 (by decide) ?_
    refine lv_iadd hx hb d_G_dropEdge_24 ?_
    refine lv_aload_n hx hb d_G_dropEdge_25 rfl (lv_at hl 0 rfl) ?_
    refine va_get (D := G.1) (ci := 1) (v := .ref a_left) (C := n_G) (T := T_G) (N := 7) hx hb htl iw_G hown hK hP 0 rfl rfl 4 (by decide) (htl _ k_153) (fun _ h9 => h9) rfl d_G_dropEdge_26 ?_
    refine lv_iload_n hx hb d_G_dropEdge_29 rfl (lv_at hl 1 rfl) ?_
    refine lv_aload_n hx hb d_G_dropEdge_30 rfl (lv_at hl 0 rfl) ?_
    refine va_get (D := G.1) (ci := 1) (v := .int v2) (C := n_G) (T := T_G) (N := 7) hx hb htl iw_G hown hK hP 0 rfl rfl 1 (by decide) (htl _ k_144) (fun _ h9 => h9) rfl d_G_dropEdge_31 ?_
    refine lv_iload_n hx hb d_G_dropEdge_34 rfl (lv_at hl 1 rfl) ?_
    refine lv_isub hx hb d_G_dropEdge_35 ?_
    obtain ⟨c3, hf⟩ := dk_e hf
    refine nx_copy hx hb (hml.trans hl.1.symm) hown (htl _ k_723) (htl _ k_725) (htl _ k_724) (htl _ k_110) hK hP hD hS 2 2 1 1 rfl rfl rfl rfl rfl c3.1 c3.2.1 c3.2.2.1 c3.2.2.2.1 c3.2.2.2.2 (fun _ _ => rfl) (Nat.le_of_ble_eq_true rfl) (Nat.le_of_ble_eq_true rfl) d_G_dropEdge_36 (fun v4 ev4 H locs hP hD hS => ?_)
    have hf := dn_e ev4 hf
    have hP : va_P G.1 classes [(h0, O_G f_relations v2 f_limit a_rows a_left a_right a_by), (a_by, aI G 16 g_by), (a_left, aI G 16 v4), (a_right, aI G 16 g_right)] H := hP
    have hD : va_D A [(h0, O_G f_relations v2 f_limit a_rows a_left a_right a_by), (a_by, aI G 16 g_by), (a_left, aI G 16 v4), (a_right, aI G 16 g_right)] := hD
    refine lv_aload_n hx hb d_G_dropEdge_39 rfl (lv_at hl 0 rfl) ?_
    refine va_get (D := G.1) (ci := 1) (v := .ref a_right) (C := n_G) (T := T_G) (N := 7) hx hb htl iw_G hown hK hP 0 rfl rfl 5 (by decide) (htl _ k_156) (fun _ h9 => h9) rfl d_G_dropEdge_40 ?_
    refine lv_iload_n hx hb d_G_dropEdge_43 rfl (lv_at hl 1 rfl) ?_
    refine lv_iconst (v := (1 : Int32)) hx hb d_G_dropEdge_44 (by decide) ?_
    refine lv_iadd hx hb d_G_dropEdge_45 ?_
    refine lv_aload_n hx hb d_G_dropEdge_46 rfl (lv_at hl 0 rfl) ?_
    refine va_get (D := G.1) (ci := 1) (v := .ref a_right) (C := n_G) (T := T_G) (N := 7) hx hb htl iw_G hown hK hP 0 rfl rfl 5 (by decide) (htl _ k_156) (fun _ h9 => h9) rfl d_G_dropEdge_47 ?_
    refine lv_iload_n hx hb d_G_dropEdge_50 rfl (lv_at hl 1 rfl) ?_
    refine lv_aload_n hx hb d_G_dropEdge_51 rfl (lv_at hl 0 rfl) ?_
    refine va_get (D := G.1) (ci := 1) (v := .int v2) (C := n_G) (T := T_G) (N := 7) hx hb htl iw_G hown hK hP 0 rfl rfl 1 (by decide) (htl _ k_144) (fun _ h9 => h9) rfl d_G_dropEdge_52 ?_
    refine lv_iload_n hx hb d_G_dropEdge_55 rfl (lv_at hl 1 rfl) ?_
    refine lv_isub hx hb d_G_dropEdge_56 ?_
    obtain ⟨c5, hf⟩ := dk_e hf
    refine nx_copy hx hb (hml.trans hl.1.symm) hown (htl _ k_723) (htl _ k_725) (htl _ k_724) (htl _ k_110) hK hP hD hS 3 3 1 1 rfl rfl rfl rfl rfl c5.1 c5.2.1 c5.2.2.1 c5.2.2.2.1 c5.2.2.2.2 (fun _ _ => rfl) (Nat.le_of_ble_eq_true rfl) (Nat.le_of_ble_eq_true rfl) d_G_dropEdge_57 (fun v6 ev6 H locs hP hD hS => ?_)
    have hf := dn_e ev6 hf
    have hP : va_P G.1 classes [(h0, O_G f_relations v2 f_limit a_rows a_left a_right a_by), (a_by, aI G 16 g_by), (a_left, aI G 16 v4), (a_right, aI G 16 v6)] H := hP
    have hD : va_D A [(h0, O_G f_relations v2 f_limit a_rows a_left a_right a_by), (a_by, aI G 16 g_by), (a_left, aI G 16 v4), (a_right, aI G 16 v6)] := hD
    refine lv_aload_n hx hb d_G_dropEdge_60 rfl (lv_at hl 0 rfl) ?_
    refine va_get (D := G.1) (ci := 1) (v := .ref a_by) (C := n_G) (T := T_G) (N := 7) hx hb htl iw_G hown hK hP 0 rfl rfl 6 (by decide) (htl _ k_159) (fun _ h9 => h9) rfl d_G_dropEdge_61 ?_
    refine lv_iload_n hx hb d_G_dropEdge_64 rfl (lv_at hl 1 rfl) ?_
    refine lv_iconst (v := (1 : Int32)) hx hb d_G_dropEdge_65 (by decide) ?_
    refine lv_iadd hx hb d_G_dropEdge_66 ?_
    refine lv_aload_n hx hb d_G_dropEdge_67 rfl (lv_at hl 0 rfl) ?_
    refine va_get (D := G.1) (ci := 1) (v := .ref a_by) (C := n_G) (T := T_G) (N := 7) hx hb htl iw_G hown hK hP 0 rfl rfl 6 (by decide) (htl _ k_159) (fun _ h9 => h9) rfl d_G_dropEdge_68 ?_
    refine lv_iload_n hx hb d_G_dropEdge_71 rfl (lv_at hl 1 rfl) ?_
    refine lv_aload_n hx hb d_G_dropEdge_72 rfl (lv_at hl 0 rfl) ?_
    refine va_get (D := G.1) (ci := 1) (v := .int v2) (C := n_G) (T := T_G) (N := 7) hx hb htl iw_G hown hK hP 0 rfl rfl 1 (by decide) (htl _ k_144) (fun _ h9 => h9) rfl d_G_dropEdge_73 ?_
    refine lv_iload_n hx hb d_G_dropEdge_76 rfl (lv_at hl 1 rfl) ?_
    refine lv_isub hx hb d_G_dropEdge_77 ?_
    obtain ⟨c7, hf⟩ := dk_e hf
    refine nx_copy hx hb (hml.trans hl.1.symm) hown (htl _ k_723) (htl _ k_725) (htl _ k_724) (htl _ k_110) hK hP hD hS 1 1 1 1 rfl rfl rfl rfl rfl c7.1 c7.2.1 c7.2.2.1 c7.2.2.2.1 c7.2.2.2.2 (fun _ _ => rfl) (Nat.le_of_ble_eq_true rfl) (Nat.le_of_ble_eq_true rfl) d_G_dropEdge_78 (fun v8 ev8 H locs hP hD hS => ?_)
    have hf := dn_e ev8 hf
    have hP : va_P G.1 classes [(h0, O_G f_relations v2 f_limit a_rows a_left a_right a_by), (a_by, aI G 16 v8), (a_left, aI G 16 v4), (a_right, aI G 16 v6)] H := hP
    have hD : va_D A [(h0, O_G f_relations v2 f_limit a_rows a_left a_right a_by), (a_by, aI G 16 v8), (a_left, aI G 16 v4), (a_right, aI G 16 v6)] := hD
    cases hf
    exact hret 81 ls H locs hP hS d_G_dropEdge_81
set_option maxHeartbeats 4000000 in
set_option maxRecDepth 100000 in
theorem c_V_movesOf (l : Launch) (G : va_G × (Nat → ClassId)) (Y : (Nat → Nat) × (Nat → Nat)) (a_p1 : Nat) (a_p1_set : Nat) (a_p1_part : Nat) (f_p1_root : Int32) (f_p1_joins : Int32) (res : Int32) (hf : V_movesOf f_p1_joins = res) : Ci l classes y_V_movesOf b_V_movesOf 1 (some .int) (rmk 0) G.1 (tyL G) Y [.ref a_p1] [(a_p1, O_P f_p1_root f_p1_joins a_p1_set a_p1_part)] [(a_p1, O_P f_p1_root f_p1_joins a_p1_set a_p1_part)] res := by
  refine entI (by decide) (Nat.le_of_ble_eq_true rfl) ?_
  intro p e s m args below meth c ls A Q hx hb hml hown htl hK hsk wq hl hret
  obtain ⟨hP, hD, hS⟩ := wq
  have hl : lv_has ls 1 [(0, .ref a_p1)] := hl
  have hS : va_S A s.heap s.heap [] := hS
  obtain ⟨H, hH⟩ : ∃ H : Heap, H = s.heap := ⟨_, rfl⟩
  obtain ⟨locs, hlocs⟩ : ∃ z : List Loc, z = [] := ⟨_, rfl⟩
  rw [← hH] at hP
  replace hS : va_S A s.heap H locs := by rw [hH, hlocs]; exact hS
  suffices hgo : W p l e (rmk 0) s m args below meth c H locs 0 0 Q (F0 m 0 ls []) by rw [hH, hlocs] at hgo; exact hgo
  refine lv_aload_n hx hb d_V_movesOf_0 rfl (lv_at hl 0 rfl) ?_
  refine va_get (D := G.1) (ci := 4) (v := .int f_p1_joins) (C := n_P) (T := T_P) (N := 4) hx hb htl iw_P hown hK hP 0 rfl rfl 1 (by decide) (htl _ k_187) (fun _ h9 => h9) rfl d_V_movesOf_1 ?_
  refine lv_iconst (v := (2 : Int32)) hx hb d_V_movesOf_4 (by decide) ?_
  refine lv_icmp_ge (tgt := 12) hx hb d_V_movesOf_5 (by decide) (fun c1 => ?_) (fun c1 => ?_)
  · have hf := di_t c1 hf
    refine lv_iconst (v := (2 : Int32)) hx hb d_V_movesOf_12 (by decide) ?_
    refine lv_aload_n hx hb d_V_movesOf_13 rfl (lv_at hl 0 rfl) ?_
    refine va_get (D := G.1) (ci := 4) (v := .int f_p1_joins) (C := n_P) (T := T_P) (N := 4) hx hb htl iw_P hown hK hP 0 rfl rfl 1 (by decide) (htl _ k_187) (fun _ h9 => h9) rfl d_V_movesOf_14 ?_
    refine lv_iconst (v := (1 : Int32)) hx hb d_V_movesOf_17 (by decide) ?_
    refine lv_isub hx hb d_V_movesOf_18 ?_
    refine lv_imul hx hb d_V_movesOf_19 ?_
    cases hf
    exact hret 20 ls H locs hP hS d_V_movesOf_20
  · have hf := di_f c1 hf
    refine lv_iconst (v := (0 : Int32)) hx hb d_V_movesOf_8 (by decide) ?_
    refine lv_goto (tgt := 20) hx hb d_V_movesOf_9 (by decide) ?_
    cases hf
    exact hret 20 ls H locs hP hS d_V_movesOf_20
set_option maxHeartbeats 4000000 in
set_option maxRecDepth 100000 in
theorem c_V_kindOf (l : Launch) (G : va_G × (Nat → ClassId)) (Y : (Nat → Nat) × (Nat → Nat)) (x0 : Int32) (res : Int32) (hf : V_kindOf x0 = res) : Ci l classes y_V_kindOf b_V_kindOf 1 (some .int) (rmk 0) G.1 (tyL G) Y [.int x0] [] [] res := by
  refine entI (by decide) (Nat.le_of_ble_eq_true rfl) ?_
  intro p e s m args below meth c ls A Q hx hb hml hown htl hK hsk wq hl hret
  obtain ⟨hP, hD, hS⟩ := wq
  have hl : lv_has ls 1 [(0, .int x0)] := hl
  have hS : va_S A s.heap s.heap [] := hS
  obtain ⟨H, hH⟩ : ∃ H : Heap, H = s.heap := ⟨_, rfl⟩
  obtain ⟨locs, hlocs⟩ : ∃ z : List Loc, z = [] := ⟨_, rfl⟩
  rw [← hH] at hP
  replace hS : va_S A s.heap H locs := by rw [hH, hlocs]; exact hS
  suffices hgo : W p l e (rmk 0) s m args below meth c H locs 0 0 Q (F0 m 0 ls []) by rw [hH, hlocs] at hgo; exact hgo
  refine lv_iload_n hx hb d_V_kindOf_0 rfl (lv_at hl 0 rfl) ?_
  refine lv_iconst (v := (2 : Int32)) hx hb d_V_kindOf_1 (by decide) ?_
  refine lv_irem hx hb d_V_kindOf_2 (by decide) ?_
  cases hf
  exact hret 3 ls H locs hP hS d_V_kindOf_3
set_option maxHeartbeats 4000000 in
set_option maxRecDepth 100000 in
theorem c_A_begin (l : Launch) (G : va_G × (Nat → ClassId)) (Y : (Nat → Nat) × (Nat → Nat)) (h0 : Nat) (a_p1 : Nat) (a_p1_rows : Nat) (a_p1_left : Nat) (a_p1_right : Nat) (a_p1_by : Nat) (a_split : Nat) (a_part : Nat) (f_p1_relations : Int32) (f_p1_edges : Int32) (f_p1_limit : Int32) (f_many : Int32) (f_pickedFirst : Int32) (f_pickedSecond : Int32) (g_part : Nat → Int32) (N : Nat) (res : Int32 × (Nat → Int32)) (hf : A_begin N f_p1_relations f_many g_part = some res) : Cv l classes y_A_begin b_A_begin 3 none (rmk 0) G.1 (tyL G) Y [.ref h0, .ref a_p1] [(a_p1, O_G f_p1_relations f_p1_edges f_p1_limit a_p1_rows a_p1_left a_p1_right a_p1_by), (h0, O_A a_split a_part f_many f_pickedFirst f_pickedSecond), (a_part, aI G 8 g_part)] [(a_p1, O_G f_p1_relations f_p1_edges f_p1_limit a_p1_rows a_p1_left a_p1_right a_p1_by), (h0, O_A a_split a_part res.1 f_pickedFirst f_pickedSecond), (a_part, aI G 8 res.2)] := by
  refine entV (by decide) (Nat.le_of_ble_eq_true rfl) ?_
  intro p e s m args below meth c ls A Q hx hb hml hown htl hK hsk wq hl hret
  obtain ⟨hP, hD, hS⟩ := wq
  have hl : lv_has ls 3 [(0, .ref h0), (1, .ref a_p1)] := hl
  have hS : va_S A s.heap s.heap [] := hS
  obtain ⟨H, hH⟩ : ∃ H : Heap, H = s.heap := ⟨_, rfl⟩
  obtain ⟨locs, hlocs⟩ : ∃ z : List Loc, z = [] := ⟨_, rfl⟩
  rw [← hH] at hP
  replace hS : va_S A s.heap H locs := by rw [hH, hlocs]; exact hS
  suffices hgo : W p l e (rmk 0) s m args below meth c H locs 0 0 Q (F0 m 0 ls []) by rw [hH, hlocs] at hgo; exact hgo
  have hJ33 : ∀ (f_many : Int32) (g_part : Nat → Int32) (H : Heap) (locs : List Loc) (ls : Array Slot), PDS G.1 classes A s [(a_p1, O_G f_p1_relations f_p1_edges f_p1_limit a_p1_rows a_p1_left a_p1_right a_p1_by), (h0, O_A a_split a_part f_many f_pickedFirst f_pickedSecond), (a_part, aI G 8 g_part)] H locs → lv_has ls 3 [] → A_begin_33 N f_p1_relations f_many g_part = some res → W p l e (rmk 0) s m args below meth c H locs 0 0 Q (F0 m 33 ls []) := by
    intro f_many g_part H locs ls wq hl hf
    obtain ⟨hP, hD, hS⟩ := wq
    cases hf
    exact hret 33 ls H locs hP hS d_A_begin_33
  have hJ10 : ∀ (f_many : Int32) (g_part : Nat → Int32) (x2 : Int32) (H : Heap) (locs : List Loc) (ls : Array Slot), PDS G.1 classes A s [(a_p1, O_G f_p1_relations f_p1_edges f_p1_limit a_p1_rows a_p1_left a_p1_right a_p1_by), (h0, O_A a_split a_part f_many f_pickedFirst f_pickedSecond), (a_part, aI G 8 g_part)] H locs → lv_has ls 3 [(0, .ref h0), (2, .int x2)] → A_begin_10 N f_p1_relations f_many g_part x2 = some res → W p l e (rmk 0) s m args below meth c H locs 0 0 Q (F0 m 10 ls []) := by
    intro f_many g_part x2 H locs ls wq hl hf
    obtain ⟨hP, hD, hS⟩ := wq
    obtain ⟨y10, hy10, hfo10⟩ := db_e hf
    have hL10 : ∀ (n : Nat) (g_part : Nat → Int32) (x2 : Int32) (H : Heap) (locs : List Loc) (ls : Array Slot), lp (fun x => A_begin_b10 N f_p1_relations f_many x.1 x.2) n (g_part, x2) = some y10 → PDS G.1 classes A s [(a_p1, O_G f_p1_relations f_p1_edges f_p1_limit a_p1_rows a_p1_left a_p1_right a_p1_by), (h0, O_A a_split a_part f_many f_pickedFirst f_pickedSecond), (a_part, aI G 8 g_part)] H locs → lv_has ls 3 [(0, .ref h0), (2, .int x2)] → W p l e (rmk 0) s m args below meth c H locs 0 0 Q (F0 m 10 ls []) := by
      intro n
      induction n with
      | zero =>
        intro g_part x2 H locs ls hf
        exact lp_0 hf
      | succ n ih10 =>
        intro g_part x2 H locs ls hf wq hl
        obtain ⟨hP, hD, hS⟩ := wq
        obtain ⟨r10, hf, hk10⟩ := lp_s hf
        have hf : A_begin_b10 N f_p1_relations f_many g_part x2 = some r10 := hf
        refine lv_iload_n hx hb d_A_begin_10 rfl (lv_at hl 1 rfl) ?_
        refine lv_aload_n hx hb d_A_begin_11 rfl (lv_at hl 0 rfl) ?_
        refine va_get (D := G.1) (ci := 3) (v := .int f_many) (C := n_A) (T := T_A) (N := 5) hx hb htl iw_A hown hK hP 1 rfl rfl 2 (by decide) (htl _ k_424) (fun _ h9 => h9) rfl d_A_begin_12 ?_
        refine lv_icmp_ge (tgt := 33) hx hb d_A_begin_15 (by decide) (fun c1 => ?_) (fun c1 => ?_)
        · have hf := di_t c1 hf
          have hq10 := lpk_x hf hk10
          have hf := ex_y (f := fun y => A_begin_a10 N f_p1_relations f_many y) hq10 hfo10
          have hf : A_begin_33 N f_p1_relations f_many g_part = some res := hf
          exact hJ33 f_many g_part H locs ls ⟨hP, hD, hS⟩ (lv_sub hl [] rfl) hf
        · have hf := di_f c1 hf
          refine lv_aload_n hx hb d_A_begin_18 rfl (lv_at hl 0 rfl) ?_
          refine va_get (D := G.1) (ci := 3) (v := .ref a_part) (C := n_A) (T := T_A) (N := 5) hx hb htl iw_A hown hK hP 1 rfl rfl 1 (by decide) (htl _ k_423) (fun _ h9 => h9) rfl d_A_begin_19 ?_
          refine lv_iload_n hx hb d_A_begin_22 rfl (lv_at hl 1 rfl) ?_
          refine lv_iconst (v := (1 : Int32)) hx hb d_A_begin_23 (by decide) ?_
          refine lv_iload_n hx hb d_A_begin_24 rfl (lv_at hl 1 rfl) ?_
          refine lv_ishl hx hb d_A_begin_25 ?_
          obtain ⟨c2, hf⟩ := dk_e hf
          refine nx_iast hx hb hK hP hD hS 2 1 rfl rfl c2 d_A_begin_26 (fun v3 ev3 H locs hP hD hS => ?_)
          have hf := dn_e ev3 hf
          have hP : va_P G.1 classes [(a_p1, O_G f_p1_relations f_p1_edges f_p1_limit a_p1_rows a_p1_left a_p1_right a_p1_by), (h0, O_A a_split a_part f_many f_pickedFirst f_pickedSecond), (a_part, aI G 8 v3)] H := hP
          have hD : va_D A [(a_p1, O_G f_p1_relations f_p1_edges f_p1_limit a_p1_rows a_p1_left a_p1_right a_p1_by), (h0, O_A a_split a_part f_many f_pickedFirst f_pickedSecond), (a_part, aI G 8 v3)] := hD
          obtain ⟨v4, ev4⟩ : ∃ z : Int32, z = x2 + (1 : Int32) := ⟨_, rfl⟩
          have hf := dn_e ev4 hf
          refine lv_iinc (v := v4) (lv' := [(2, .int v4), (0, .ref h0)]) hx hb d_A_begin_27 hl (k := 1) rfl (by rw [ev4]; rfl) (by decide) rfl (fun ls hl => ?_)
          refine lv_goto (tgt := 10) hx hb d_A_begin_30 (by decide) ?_
          exact ih10 v3 v4 H locs ls (lpk_i hf hk10) ⟨hP, hD, hS⟩ (lv_sub hl [1, 0] rfl)
    exact hL10 N g_part x2 H locs ls hy10 ⟨hP, hD, hS⟩ hl
  refine lv_aload_n hx hb d_A_begin_0 rfl (lv_at hl 0 rfl) ?_
  refine lv_aload_n hx hb d_A_begin_1 rfl (lv_at hl 1 rfl) ?_
  refine va_get (D := G.1) (ci := 1) (v := .int f_p1_relations) (C := n_G) (T := T_G) (N := 7) hx hb htl iw_G hown hK hP 0 rfl rfl 0 (by decide) (htl _ k_140) (fun _ h9 => h9) rfl d_A_begin_2 ?_
  refine va_put (D := G.1) (ci := 3) (v := .int f_p1_relations) (ty := .int) (C := n_A) (T := T_A) (N := 5) hx hb htl iw_A ty_A ty_A_ok nm_A hown hK hP hD hS 1 rfl rfl 2 (by decide) (htl _ k_424) (fun _ h9 => h9) rfl (by decide +kernel) rfl rfl (Nat.le_of_ble_eq_true rfl) d_A_begin_5 (fun H locs hP hD hS => ?_)
  have hP : va_P G.1 classes [(a_p1, O_G f_p1_relations f_p1_edges f_p1_limit a_p1_rows a_p1_left a_p1_right a_p1_by), (h0, O_A a_split a_part f_p1_relations f_pickedFirst f_pickedSecond), (a_part, aI G 8 g_part)] H := hP
  have hD : va_D A [(a_p1, O_G f_p1_relations f_p1_edges f_p1_limit a_p1_rows a_p1_left a_p1_right a_p1_by), (h0, O_A a_split a_part f_p1_relations f_pickedFirst f_pickedSecond), (a_part, aI G 8 g_part)] := hD
  refine lv_iconst (v := (0 : Int32)) hx hb d_A_begin_8 (by decide) ?_
  refine lv_istore_n (lv' := [(2, .int (0 : Int32)), (0, .ref h0), (1, .ref a_p1)]) hx hb d_A_begin_9 rfl hl (by decide) rfl (fun ls hl => ?_)
  exact hJ10 f_p1_relations g_part (0 : Int32) H locs ls ⟨hP, hD, hS⟩ (lv_sub hl [1, 0] rfl) hf
set_option maxHeartbeats 4000000 in
set_option maxRecDepth 100000 in
theorem c_A_goesAhead (l : Launch) (G : va_G × (Nat → ClassId)) (Y : (Nat → Nat) × (Nat → Nat)) (h0 : Nat) (a_p3 : Nat) (a_p3_sizes : Nat) (a_p3_capped : Nat) (a_p3_connected : Nat) (a_p3_leftIn : Nat) (a_p3_rightIn : Nat) (a_p3_pairs : Nat) (a_split : Nat) (a_part : Nat) (f_p3_known : Int32) (f_p3_paired : Int32) (f_p3_cappedInAll : Int32) (f_p3_connectedInAll : Int32) (f_p3_pairsInAll : Int32) (f_p3_end : Int32) (f_many : Int32) (f_pickedFirst : Int32) (f_pickedSecond : Int32) (g_p3_leftIn : Nat → Int32) (g_p3_rightIn : Nat → Int32) (g_p3_sizes : Nat → Int64) (g_part : Nat → Int32) (x1 : Int32) (x2 : Int32) (res : Int32) (hf : A_goesAhead f_pickedFirst f_pickedSecond g_p3_leftIn g_p3_rightIn g_p3_sizes g_part x1 x2 = some res) : Ci l classes y_A_goesAhead b_A_goesAhead 11 (some .boolean) (rmk 1) G.1 (tyL G) Y [.ref h0, .int x1, .int x2, .ref a_p3] [(a_p3, O_S f_p3_known f_p3_paired f_p3_cappedInAll f_p3_connectedInAll f_p3_pairsInAll a_p3_sizes a_p3_capped a_p3_connected f_p3_end a_p3_leftIn a_p3_rightIn a_p3_pairs), (h0, O_A a_split a_part f_many f_pickedFirst f_pickedSecond), (a_p3_leftIn, aI G 256 g_p3_leftIn), (a_p3_rightIn, aI G 256 g_p3_rightIn), (a_p3_sizes, aJ G 256 g_p3_sizes), (a_part, aI G 8 g_part)] [(a_p3, O_S f_p3_known f_p3_paired f_p3_cappedInAll f_p3_connectedInAll f_p3_pairsInAll a_p3_sizes a_p3_capped a_p3_connected f_p3_end a_p3_leftIn a_p3_rightIn a_p3_pairs), (h0, O_A a_split a_part f_many f_pickedFirst f_pickedSecond), (a_p3_leftIn, aI G 256 g_p3_leftIn), (a_p3_rightIn, aI G 256 g_p3_rightIn), (a_p3_sizes, aJ G 256 g_p3_sizes), (a_part, aI G 8 g_part)] res := by
  refine entZ (by decide) (Nat.le_of_ble_eq_true rfl) ?_
  intro p e s m args below meth c ls A Q hx hb hml hown htl hK hsk wq hl hret
  obtain ⟨hP, hD, hS⟩ := wq
  have hl : lv_has ls 11 [(0, .ref h0), (1, .int x1), (2, .int x2), (3, .ref a_p3)] := hl
  have hS : va_S A s.heap s.heap [] := hS
  obtain ⟨H, hH⟩ : ∃ H : Heap, H = s.heap := ⟨_, rfl⟩
  obtain ⟨locs, hlocs⟩ : ∃ z : List Loc, z = [] := ⟨_, rfl⟩
  rw [← hH] at hP
  replace hS : va_S A s.heap H locs := by rw [hH, hlocs]; exact hS
  suffices hgo : W p l e (rmk 1) s m args below meth c H locs 0 0 Q (F0 m 0 ls []) by rw [hH, hlocs] at hgo; exact hgo
  refine lv_aload_n hx hb d_A_goesAhead_0 rfl (lv_at hl 0 rfl) ?_
  refine va_get (D := G.1) (ci := 3) (v := .ref a_part) (C := n_A) (T := T_A) (N := 5) hx hb htl iw_A hown hK hP 1 rfl rfl 1 (by decide) (htl _ k_423) (fun _ h9 => h9) rfl d_A_goesAhead_1 ?_
  refine lv_aload_n hx hb d_A_goesAhead_4 rfl (lv_at hl 0 rfl) ?_
  refine va_get (D := G.1) (ci := 3) (v := .int f_pickedFirst) (C := n_A) (T := T_A) (N := 5) hx hb htl iw_A hown hK hP 1 rfl rfl 3 (by decide) (htl _ k_425) (fun _ h9 => h9) rfl d_A_goesAhead_5 ?_
  obtain ⟨c1, hf⟩ := dk_e hf
  refine va_iald hx hb hK hP 5 1 rfl rfl c1 d_A_goesAhead_8 ?_
  refine lv_topi (fun v2 ev2 => ?_)
  have hf := dn_e ev2 hf
  refine lv_istore (lv' := [(4, .int v2), (0, .ref h0), (1, .int x1), (2, .int x2), (3, .ref a_p3)]) hx hb d_A_goesAhead_9 hl (by decide) rfl (fun ls hl => ?_)
  refine lv_aload_n hx hb d_A_goesAhead_11 rfl (lv_at hl 1 rfl) ?_
  refine va_get (D := G.1) (ci := 3) (v := .ref a_part) (C := n_A) (T := T_A) (N := 5) hx hb htl iw_A hown hK hP 1 rfl rfl 1 (by decide) (htl _ k_423) (fun _ h9 => h9) rfl d_A_goesAhead_12 ?_
  refine lv_aload_n hx hb d_A_goesAhead_15 rfl (lv_at hl 1 rfl) ?_
  refine va_get (D := G.1) (ci := 3) (v := .int f_pickedSecond) (C := n_A) (T := T_A) (N := 5) hx hb htl iw_A hown hK hP 1 rfl rfl 4 (by decide) (htl _ k_426) (fun _ h9 => h9) rfl d_A_goesAhead_16 ?_
  obtain ⟨c3, hf⟩ := dk_e hf
  refine va_iald hx hb hK hP 5 1 rfl rfl c3 d_A_goesAhead_19 ?_
  refine lv_topi (fun v4 ev4 => ?_)
  have hf := dn_e ev4 hf
  refine lv_istore (lv' := [(5, .int v4), (4, .int v2), (0, .ref h0), (1, .int x1), (2, .int x2), (3, .ref a_p3)]) hx hb d_A_goesAhead_20 hl (by decide) rfl (fun ls hl => ?_)
  refine lv_aload_n hx hb d_A_goesAhead_22 rfl (lv_at hl 5 rfl) ?_
  refine lv_iload_n hx hb d_A_goesAhead_23 rfl (lv_at hl 3 rfl) ?_
  refine lv_iload_n hx hb d_A_goesAhead_24 rfl (lv_at hl 4 rfl) ?_
  obtain ⟨t5, hv6, hf⟩ := db_e hf
  refine call_i (isC := [0, 2, 3]) (run_V (As := [.int x1, .int x2]) (rest := []) (ci := 8) (q0 := 0) hx hb hml hown htl (c_S_areJoined l G Y  a_p3 a_p3_sizes a_p3_capped a_p3_connected a_p3_leftIn a_p3_rightIn a_p3_pairs f_p3_known f_p3_paired f_p3_cappedInAll f_p3_connectedInAll f_p3_pairsInAll f_p3_end g_p3_leftIn g_p3_rightIn x1 x2 t5 hv6) mv_S_areJoined k_938 (hRk (by decide) (by decide)) hK hsk hS hP hD (isC := [0, 2, 3]) rfl (by decide) rfl rfl rfl hl.1 rfl (lv_room (Nat.le_of_ble_eq_true rfl)) d_A_goesAhead_25) hP hD hS rfl rfl (fun H locs hP hD hS => ?_)
  have hP : va_P G.1 classes [(a_p3, O_S f_p3_known f_p3_paired f_p3_cappedInAll f_p3_connectedInAll f_p3_pairsInAll a_p3_sizes a_p3_capped a_p3_connected f_p3_end a_p3_leftIn a_p3_rightIn a_p3_pairs), (h0, O_A a_split a_part f_many f_pickedFirst f_pickedSecond), (a_p3_leftIn, aI G 256 g_p3_leftIn), (a_p3_rightIn, aI G 256 g_p3_rightIn), (a_p3_sizes, aJ G 256 g_p3_sizes), (a_part, aI G 8 g_part)] H := hP
  have hD : va_D A [(a_p3, O_S f_p3_known f_p3_paired f_p3_cappedInAll f_p3_connectedInAll f_p3_pairsInAll a_p3_sizes a_p3_capped a_p3_connected f_p3_end a_p3_leftIn a_p3_rightIn a_p3_pairs), (h0, O_A a_split a_part f_many f_pickedFirst f_pickedSecond), (a_p3_leftIn, aI G 256 g_p3_leftIn), (a_p3_rightIn, aI G 256 g_p3_rightIn), (a_p3_sizes, aJ G 256 g_p3_sizes), (a_part, aI G 8 g_part)] := hD
  refine lv_istore (lv' := [(6, .int t5), (5, .int v4), (4, .int v2), (0, .ref h0), (1, .int x1), (2, .int x2), (3, .ref a_p3)]) hx hb d_A_goesAhead_28 hl (by decide) rfl (fun ls hl => ?_)
  refine lv_iload hx hb d_A_goesAhead_30 (lv_at hl 0 rfl) ?_
  refine lv_aload_n hx hb d_A_goesAhead_32 rfl (lv_at hl 6 rfl) ?_
  refine lv_iload hx hb d_A_goesAhead_33 (lv_at hl 2 rfl) ?_
  refine lv_iload hx hb d_A_goesAhead_35 (lv_at hl 1 rfl) ?_
  obtain ⟨t7, hv8, hf⟩ := db_e hf
  refine call_i (isC := [0, 2, 3]) (run_V (As := [.int v2, .int v4]) (rest := [.int t5]) (ci := 8) (q0 := 0) hx hb hml hown htl (c_S_areJoined l G Y  a_p3 a_p3_sizes a_p3_capped a_p3_connected a_p3_leftIn a_p3_rightIn a_p3_pairs f_p3_known f_p3_paired f_p3_cappedInAll f_p3_connectedInAll f_p3_pairsInAll f_p3_end g_p3_leftIn g_p3_rightIn v2 v4 t7 hv8) mv_S_areJoined k_938 (hRk (by decide) (by decide)) hK hsk hS hP hD (isC := [0, 2, 3]) rfl (by decide) rfl rfl rfl hl.1 rfl (lv_room (Nat.le_of_ble_eq_true rfl)) d_A_goesAhead_37) hP hD hS rfl rfl (fun H locs hP hD hS => ?_)
  have hP : va_P G.1 classes [(a_p3, O_S f_p3_known f_p3_paired f_p3_cappedInAll f_p3_connectedInAll f_p3_pairsInAll a_p3_sizes a_p3_capped a_p3_connected f_p3_end a_p3_leftIn a_p3_rightIn a_p3_pairs), (h0, O_A a_split a_part f_many f_pickedFirst f_pickedSecond), (a_p3_leftIn, aI G 256 g_p3_leftIn), (a_p3_rightIn, aI G 256 g_p3_rightIn), (a_p3_sizes, aJ G 256 g_p3_sizes), (a_part, aI G 8 g_part)] H := hP
  have hD : va_D A [(a_p3, O_S f_p3_known f_p3_paired f_p3_cappedInAll f_p3_connectedInAll f_p3_pairsInAll a_p3_sizes a_p3_capped a_p3_connected f_p3_end a_p3_leftIn a_p3_rightIn a_p3_pairs), (h0, O_A a_split a_part f_many f_pickedFirst f_pickedSecond), (a_p3_leftIn, aI G 256 g_p3_leftIn), (a_p3_rightIn, aI G 256 g_p3_rightIn), (a_p3_sizes, aJ G 256 g_p3_sizes), (a_part, aI G 8 g_part)] := hD
  refine lv_icmp_eq (tgt := 46) hx hb d_A_goesAhead_40 (by decide) (fun c9 => ?_) (fun c9 => ?_)
  · have hf := di_t c9 hf
    refine lv_aload_n hx hb d_A_goesAhead_46 rfl (lv_at hl 6 rfl) ?_
    refine va_get (D := G.1) (ci := 8) (v := .ref a_p3_sizes) (C := n_S) (T := T_S) (N := 12) hx hb htl iw_S hown hK hP 0 rfl rfl 5 (by decide) (htl _ k_354) (fun _ h9 => h9) rfl d_A_goesAhead_47 ?_
    refine lv_iload_n hx hb d_A_goesAhead_50 rfl (lv_at hl 4 rfl) ?_
    refine lv_iload_n hx hb d_A_goesAhead_51 rfl (lv_at hl 5 rfl) ?_
    refine lv_ior hx hb d_A_goesAhead_52 ?_
    obtain ⟨c10, hf⟩ := dk_e hf
    refine va_lald hx hb hK hP 4 2 rfl rfl c10 d_A_goesAhead_53 ?_
    refine lv_topl (fun v11 ev11 => ?_)
    have hf := dn_e ev11 hf
    refine lv_lstore (lv' := [(7, .long v11), (6, .int t5), (5, .int v4), (4, .int v2), (0, .ref h0), (1, .int x1), (2, .int x2), (3, .ref a_p3)]) hx hb d_A_goesAhead_54 hl (by decide) rfl (fun ls hl => ?_)
    refine lv_aload_n hx hb d_A_goesAhead_56 rfl (lv_at hl 7 rfl) ?_
    refine va_get (D := G.1) (ci := 8) (v := .ref a_p3_sizes) (C := n_S) (T := T_S) (N := 12) hx hb htl iw_S hown hK hP 0 rfl rfl 5 (by decide) (htl _ k_354) (fun _ h9 => h9) rfl d_A_goesAhead_57 ?_
    refine lv_iload hx hb d_A_goesAhead_60 (lv_at hl 3 rfl) ?_
    refine lv_iload hx hb d_A_goesAhead_62 (lv_at hl 2 rfl) ?_
    refine lv_ior hx hb d_A_goesAhead_64 ?_
    obtain ⟨c12, hf⟩ := dk_e hf
    refine va_lald hx hb hK hP 4 2 rfl rfl c12 d_A_goesAhead_65 ?_
    refine lv_topl (fun v13 ev13 => ?_)
    have hf := dn_e ev13 hf
    refine lv_lstore (lv' := [(9, .long v13), (7, .long v11), (6, .int t5), (5, .int v4), (4, .int v2), (0, .ref h0), (1, .int x1), (2, .int x2), (3, .ref a_p3)]) hx hb d_A_goesAhead_66 hl (by decide) rfl (fun ls hl => ?_)
    refine lv_lload hx hb d_A_goesAhead_68 (lv_at hl 1 rfl) ?_
    refine lv_lload hx hb d_A_goesAhead_70 (lv_at hl 0 rfl) ?_
    refine lx_eq (tgt := 90) hx hb d_A_goesAhead_72 d_A_goesAhead_73 (by decide) (fun c14 => ?_) (fun c14 => ?_)
    · have hf := di_t c14 hf
      refine lv_iload_n hx hb d_A_goesAhead_90 rfl (lv_at hl 6 rfl) ?_
      refine lv_iload hx hb d_A_goesAhead_91 (lv_at hl 4 rfl) ?_
      refine lv_icmp_eq (tgt := 110) hx hb d_A_goesAhead_93 (by decide) (fun c15 => ?_) (fun c15 => ?_)
      · have hf := di_t c15 hf
        refine lv_iload_n hx hb d_A_goesAhead_110 rfl (lv_at hl 7 rfl) ?_
        refine lv_iload hx hb d_A_goesAhead_111 (lv_at hl 3 rfl) ?_
        refine lv_icmp_ge (tgt := 120) hx hb d_A_goesAhead_113 (by decide) (fun c16 => ?_) (fun c16 => ?_)
        · have hf := di_t c16 hf
          refine lv_iconst (v := (0 : Int32)) hx hb d_A_goesAhead_120 (by decide) ?_
          cases hf
          exact hret 121 ls H locs z_0 hP hS d_A_goesAhead_121
        · have hf := di_f c16 hf
          refine lv_iconst (v := (1 : Int32)) hx hb d_A_goesAhead_116 (by decide) ?_
          refine lv_goto (tgt := 121) hx hb d_A_goesAhead_117 (by decide) ?_
          cases hf
          exact hret 121 ls H locs z_1 hP hS d_A_goesAhead_121
      · have hf := di_f c15 hf
        refine lv_iload_n hx hb d_A_goesAhead_96 rfl (lv_at hl 6 rfl) ?_
        refine lv_iload hx hb d_A_goesAhead_97 (lv_at hl 4 rfl) ?_
        refine lv_icmp_ge (tgt := 106) hx hb d_A_goesAhead_99 (by decide) (fun c17 => ?_) (fun c17 => ?_)
        · have hf := di_t c17 hf
          refine lv_iconst (v := (0 : Int32)) hx hb d_A_goesAhead_106 (by decide) ?_
          refine lv_goto (tgt := 121) hx hb d_A_goesAhead_107 (by decide) ?_
          cases hf
          exact hret 121 ls H locs z_0 hP hS d_A_goesAhead_121
        · have hf := di_f c17 hf
          refine lv_iconst (v := (1 : Int32)) hx hb d_A_goesAhead_102 (by decide) ?_
          refine lv_goto (tgt := 121) hx hb d_A_goesAhead_103 (by decide) ?_
          cases hf
          exact hret 121 ls H locs z_1 hP hS d_A_goesAhead_121
    · have hf := di_f c14 hf
      refine lv_lload hx hb d_A_goesAhead_76 (lv_at hl 1 rfl) ?_
      refine lv_lload hx hb d_A_goesAhead_78 (lv_at hl 0 rfl) ?_
      refine lx_ge (tgt := 88) hx hb d_A_goesAhead_80 d_A_goesAhead_81 (by decide) (fun c18 => ?_) (fun c18 => ?_)
      · have hf := di_f c18 hf
        refine lv_iconst (v := (0 : Int32)) hx hb d_A_goesAhead_88 (by decide) ?_
        cases hf
        exact hret 89 ls H locs z_0 hP hS d_A_goesAhead_89
      · have hf := di_t c18 hf
        refine lv_iconst (v := (1 : Int32)) hx hb d_A_goesAhead_84 (by decide) ?_
        refine lv_goto (tgt := 89) hx hb d_A_goesAhead_85 (by decide) ?_
        cases hf
        exact hret 89 ls H locs z_1 hP hS d_A_goesAhead_89
  · have hf := di_f c9 hf
    refine lv_iload hx hb d_A_goesAhead_43 (lv_at hl 0 rfl) ?_
    obtain ⟨c19, hf⟩ := dk_e hf
    cases hf
    exact hret 45 ls H locs c19 hP hS d_A_goesAhead_45
set_option maxHeartbeats 4000000 in
set_option maxRecDepth 100000 in
theorem c_A_pick (l : Launch) (G : va_G × (Nat → ClassId)) (Y : (Nat → Nat) × (Nat → Nat)) (h0 : Nat) (a_p1 : Nat) (a_p1_sizes : Nat) (a_p1_capped : Nat) (a_p1_connected : Nat) (a_p1_leftIn : Nat) (a_p1_rightIn : Nat) (a_p1_pairs : Nat) (a_split : Nat) (a_part : Nat) (f_p1_known : Int32) (f_p1_paired : Int32) (f_p1_cappedInAll : Int32) (f_p1_connectedInAll : Int32) (f_p1_pairsInAll : Int32) (f_p1_end : Int32) (f_many : Int32) (f_pickedFirst : Int32) (f_pickedSecond : Int32) (g_p1_leftIn : Nat → Int32) (g_p1_rightIn : Nat → Int32) (g_p1_sizes : Nat → Int64) (g_part : Nat → Int32) (N : Nat) (res : Int32 × Int32) (hf : A_pick N f_many f_pickedFirst f_pickedSecond g_p1_leftIn g_p1_rightIn g_p1_sizes g_part = some res) : Cv l classes y_A_pick b_A_pick 4 none (rmk 2) G.1 (tyL G) Y [.ref h0, .ref a_p1] [(a_p1, O_S f_p1_known f_p1_paired f_p1_cappedInAll f_p1_connectedInAll f_p1_pairsInAll a_p1_sizes a_p1_capped a_p1_connected f_p1_end a_p1_leftIn a_p1_rightIn a_p1_pairs), (h0, O_A a_split a_part f_many f_pickedFirst f_pickedSecond), (a_p1_leftIn, aI G 256 g_p1_leftIn), (a_p1_rightIn, aI G 256 g_p1_rightIn), (a_p1_sizes, aJ G 256 g_p1_sizes), (a_part, aI G 8 g_part)] [(a_p1, O_S f_p1_known f_p1_paired f_p1_cappedInAll f_p1_connectedInAll f_p1_pairsInAll a_p1_sizes a_p1_capped a_p1_connected f_p1_end a_p1_leftIn a_p1_rightIn a_p1_pairs), (h0, O_A a_split a_part f_many res.1 res.2), (a_p1_leftIn, aI G 256 g_p1_leftIn), (a_p1_rightIn, aI G 256 g_p1_rightIn), (a_p1_sizes, aJ G 256 g_p1_sizes), (a_part, aI G 8 g_part)] := by
  refine entV (by decide) (Nat.le_of_ble_eq_true rfl) ?_
  intro p e s m args below meth c ls A Q hx hb hml hown htl hK hsk wq hl hret
  obtain ⟨hP, hD, hS⟩ := wq
  have hl : lv_has ls 4 [(0, .ref h0), (1, .ref a_p1)] := hl
  have hS : va_S A s.heap s.heap [] := hS
  obtain ⟨H, hH⟩ : ∃ H : Heap, H = s.heap := ⟨_, rfl⟩
  obtain ⟨locs, hlocs⟩ : ∃ z : List Loc, z = [] := ⟨_, rfl⟩
  rw [← hH] at hP
  replace hS : va_S A s.heap H locs := by rw [hH, hlocs]; exact hS
  suffices hgo : W p l e (rmk 2) s m args below meth c H locs 0 0 Q (F0 m 0 ls []) by rw [hH, hlocs] at hgo; exact hgo
  have hJ74 : ∀ (f_pickedFirst : Int32) (f_pickedSecond : Int32) (H : Heap) (locs : List Loc) (ls : Array Slot), PDS G.1 classes A s [(a_p1, O_S f_p1_known f_p1_paired f_p1_cappedInAll f_p1_connectedInAll f_p1_pairsInAll a_p1_sizes a_p1_capped a_p1_connected f_p1_end a_p1_leftIn a_p1_rightIn a_p1_pairs), (h0, O_A a_split a_part f_many f_pickedFirst f_pickedSecond), (a_p1_leftIn, aI G 256 g_p1_leftIn), (a_p1_rightIn, aI G 256 g_p1_rightIn), (a_p1_sizes, aJ G 256 g_p1_sizes), (a_part, aI G 8 g_part)] H locs → lv_has ls 4 [] → A_pick_74 N f_many f_pickedFirst f_pickedSecond g_p1_leftIn g_p1_rightIn g_p1_sizes g_part = some res → W p l e (rmk 2) s m args below meth c H locs 0 0 Q (F0 m 74 ls []) := by
    intro f_pickedFirst f_pickedSecond H locs ls wq hl hf
    obtain ⟨hP, hD, hS⟩ := wq
    cases hf
    exact hret 74 ls H locs hP hS d_A_pick_74
  have hJ12 : ∀ (f_pickedFirst : Int32) (f_pickedSecond : Int32) (x2 : Int32) (H : Heap) (locs : List Loc) (ls : Array Slot), PDS G.1 classes A s [(a_p1, O_S f_p1_known f_p1_paired f_p1_cappedInAll f_p1_connectedInAll f_p1_pairsInAll a_p1_sizes a_p1_capped a_p1_connected f_p1_end a_p1_leftIn a_p1_rightIn a_p1_pairs), (h0, O_A a_split a_part f_many f_pickedFirst f_pickedSecond), (a_p1_leftIn, aI G 256 g_p1_leftIn), (a_p1_rightIn, aI G 256 g_p1_rightIn), (a_p1_sizes, aJ G 256 g_p1_sizes), (a_part, aI G 8 g_part)] H locs → lv_has ls 4 [(0, .ref h0), (1, .ref a_p1), (2, .int x2)] → A_pick_12 N f_many f_pickedFirst f_pickedSecond g_p1_leftIn g_p1_rightIn g_p1_sizes g_part x2 = some res → W p l e (rmk 2) s m args below meth c H locs 0 0 Q (F0 m 12 ls []) := by
    intro f_pickedFirst f_pickedSecond x2 H locs ls wq hl hf
    obtain ⟨hP, hD, hS⟩ := wq
    obtain ⟨y12, hy12, hfo12⟩ := db_e hf
    have hL12 : ∀ (n : Nat) (f_pickedFirst : Int32) (f_pickedSecond : Int32) (x2 : Int32) (H : Heap) (locs : List Loc) (ls : Array Slot), lp (fun x => A_pick_b12 N f_many x.1 x.2.1 g_p1_leftIn g_p1_rightIn g_p1_sizes g_part x.2.2) n (f_pickedFirst, f_pickedSecond, x2) = some y12 → PDS G.1 classes A s [(a_p1, O_S f_p1_known f_p1_paired f_p1_cappedInAll f_p1_connectedInAll f_p1_pairsInAll a_p1_sizes a_p1_capped a_p1_connected f_p1_end a_p1_leftIn a_p1_rightIn a_p1_pairs), (h0, O_A a_split a_part f_many f_pickedFirst f_pickedSecond), (a_p1_leftIn, aI G 256 g_p1_leftIn), (a_p1_rightIn, aI G 256 g_p1_rightIn), (a_p1_sizes, aJ G 256 g_p1_sizes), (a_part, aI G 8 g_part)] H locs → lv_has ls 4 [(0, .ref h0), (1, .ref a_p1), (2, .int x2)] → W p l e (rmk 2) s m args below meth c H locs 0 0 Q (F0 m 12 ls []) := by
      intro n
      induction n with
      | zero =>
        intro f_pickedFirst f_pickedSecond x2 H locs ls hf
        exact lp_0 hf
      | succ n ih12 =>
        intro f_pickedFirst f_pickedSecond x2 H locs ls hf wq hl
        obtain ⟨hP, hD, hS⟩ := wq
        obtain ⟨r12, hf, hk12⟩ := lp_s hf
        have hf : A_pick_b12 N f_many f_pickedFirst f_pickedSecond g_p1_leftIn g_p1_rightIn g_p1_sizes g_part x2 = some r12 := hf
        have hJ68 : ∀ (f_pickedFirst : Int32) (f_pickedSecond : Int32) (x2 : Int32) (H : Heap) (locs : List Loc) (ls : Array Slot), PDS G.1 classes A s [(a_p1, O_S f_p1_known f_p1_paired f_p1_cappedInAll f_p1_connectedInAll f_p1_pairsInAll a_p1_sizes a_p1_capped a_p1_connected f_p1_end a_p1_leftIn a_p1_rightIn a_p1_pairs), (h0, O_A a_split a_part f_many f_pickedFirst f_pickedSecond), (a_p1_leftIn, aI G 256 g_p1_leftIn), (a_p1_rightIn, aI G 256 g_p1_rightIn), (a_p1_sizes, aJ G 256 g_p1_sizes), (a_part, aI G 8 g_part)] H locs → lv_has ls 4 [(0, .ref h0), (1, .ref a_p1), (2, .int x2)] → A_pick_68 N f_many f_pickedFirst f_pickedSecond g_p1_leftIn g_p1_rightIn g_p1_sizes g_part x2 = some r12 → W p l e (rmk 2) s m args below meth c H locs 0 0 Q (F0 m 68 ls []) := by
          intro f_pickedFirst f_pickedSecond x2 H locs ls wq hl hf
          obtain ⟨hP, hD, hS⟩ := wq
          obtain ⟨v11, ev11⟩ : ∃ z : Int32, z = x2 + (1 : Int32) := ⟨_, rfl⟩
          have hf := dn_e ev11 hf
          refine lv_iinc (v := v11) (lv' := [(2, .int v11), (0, .ref h0), (1, .ref a_p1)]) hx hb d_A_pick_68 hl (k := 2) rfl (by rw [ev11]; rfl) (by decide) rfl (fun ls hl => ?_)
          refine lv_goto (tgt := 12) hx hb d_A_pick_71 (by decide) ?_
          exact ih12 f_pickedFirst f_pickedSecond v11 H locs ls (lpk_i hf hk12) ⟨hP, hD, hS⟩ (lv_sub hl [1, 2, 0] rfl)
        have hJ24 : ∀ (f_pickedFirst : Int32) (f_pickedSecond : Int32) (x2 : Int32) (x3 : Int32) (H : Heap) (locs : List Loc) (ls : Array Slot), PDS G.1 classes A s [(a_p1, O_S f_p1_known f_p1_paired f_p1_cappedInAll f_p1_connectedInAll f_p1_pairsInAll a_p1_sizes a_p1_capped a_p1_connected f_p1_end a_p1_leftIn a_p1_rightIn a_p1_pairs), (h0, O_A a_split a_part f_many f_pickedFirst f_pickedSecond), (a_p1_leftIn, aI G 256 g_p1_leftIn), (a_p1_rightIn, aI G 256 g_p1_rightIn), (a_p1_sizes, aJ G 256 g_p1_sizes), (a_part, aI G 8 g_part)] H locs → lv_has ls 4 [(0, .ref h0), (1, .ref a_p1), (2, .int x2), (3, .int x3)] → A_pick_24 N f_many f_pickedFirst f_pickedSecond g_p1_leftIn g_p1_rightIn g_p1_sizes g_part x2 x3 = some r12 → W p l e (rmk 2) s m args below meth c H locs 0 0 Q (F0 m 24 ls []) := by
          intro f_pickedFirst f_pickedSecond x2 x3 H locs ls wq hl hf
          obtain ⟨hP, hD, hS⟩ := wq
          obtain ⟨y24, hy24, hfo24⟩ := db_e hf
          have hL24 : ∀ (n : Nat) (f_pickedFirst : Int32) (f_pickedSecond : Int32) (x3 : Int32) (H : Heap) (locs : List Loc) (ls : Array Slot), lp (fun x => A_pick_b24 N f_many x.1 x.2.1 g_p1_leftIn g_p1_rightIn g_p1_sizes g_part x2 x.2.2) n (f_pickedFirst, f_pickedSecond, x3) = some y24 → PDS G.1 classes A s [(a_p1, O_S f_p1_known f_p1_paired f_p1_cappedInAll f_p1_connectedInAll f_p1_pairsInAll a_p1_sizes a_p1_capped a_p1_connected f_p1_end a_p1_leftIn a_p1_rightIn a_p1_pairs), (h0, O_A a_split a_part f_many f_pickedFirst f_pickedSecond), (a_p1_leftIn, aI G 256 g_p1_leftIn), (a_p1_rightIn, aI G 256 g_p1_rightIn), (a_p1_sizes, aJ G 256 g_p1_sizes), (a_part, aI G 8 g_part)] H locs → lv_has ls 4 [(0, .ref h0), (1, .ref a_p1), (2, .int x2), (3, .int x3)] → W p l e (rmk 2) s m args below meth c H locs 0 0 Q (F0 m 24 ls []) := by
            intro n
            induction n with
            | zero =>
              intro f_pickedFirst f_pickedSecond x3 H locs ls hf
              exact lp_0 hf
            | succ n ih24 =>
              intro f_pickedFirst f_pickedSecond x3 H locs ls hf wq hl
              obtain ⟨hP, hD, hS⟩ := wq
              obtain ⟨r24, hf, hk24⟩ := lp_s hf
              have hf : A_pick_b24 N f_many f_pickedFirst f_pickedSecond g_p1_leftIn g_p1_rightIn g_p1_sizes g_part x2 x3 = some r24 := hf
              refine lv_iload_n hx hb d_A_pick_24 rfl (lv_at hl 3 rfl) ?_
              refine lv_aload_n hx hb d_A_pick_25 rfl (lv_at hl 0 rfl) ?_
              refine va_get (D := G.1) (ci := 3) (v := .int f_many) (C := n_A) (T := T_A) (N := 5) hx hb htl iw_A hown hK hP 1 rfl rfl 2 (by decide) (htl _ k_424) (fun _ h9 => h9) rfl d_A_pick_26 ?_
              refine lv_icmp_ge (tgt := 68) hx hb d_A_pick_29 (by decide) (fun c3 => ?_) (fun c3 => ?_)
              · have hf := di_t c3 hf
                have hq24 := lpk_x hf hk24
                have hf := ex_y (f := fun y => A_pick_a24 N f_many g_p1_leftIn g_p1_rightIn g_p1_sizes g_part x2 y) hq24 hfo24
                have hf : A_pick_68 N f_many f_pickedFirst f_pickedSecond g_p1_leftIn g_p1_rightIn g_p1_sizes g_part x2 = some r12 := hf
                exact hJ68 f_pickedFirst f_pickedSecond x2 H locs ls ⟨hP, hD, hS⟩ (lv_sub hl [0, 1, 2] rfl) hf
              · have hf := di_f c3 hf
                refine lv_aload_n hx hb d_A_pick_32 rfl (lv_at hl 0 rfl) ?_
                refine lv_aload_n hx hb d_A_pick_33 rfl (lv_at hl 0 rfl) ?_
                refine va_get (D := G.1) (ci := 3) (v := .ref a_part) (C := n_A) (T := T_A) (N := 5) hx hb htl iw_A hown hK hP 1 rfl rfl 1 (by decide) (htl _ k_423) (fun _ h9 => h9) rfl d_A_pick_34 ?_
                refine lv_iload_n hx hb d_A_pick_37 rfl (lv_at hl 2 rfl) ?_
                obtain ⟨c4, hf⟩ := dk_e hf
                refine va_iald hx hb hK hP 5 1 rfl rfl c4 d_A_pick_38 ?_
                refine lv_aload_n hx hb d_A_pick_39 rfl (lv_at hl 0 rfl) ?_
                refine va_get (D := G.1) (ci := 3) (v := .ref a_part) (C := n_A) (T := T_A) (N := 5) hx hb htl iw_A hown hK hP 1 rfl rfl 1 (by decide) (htl _ k_423) (fun _ h9 => h9) rfl d_A_pick_40 ?_
                refine lv_iload_n hx hb d_A_pick_43 rfl (lv_at hl 3 rfl) ?_
                obtain ⟨c5, hf⟩ := dk_e hf
                refine va_iald hx hb hK hP 5 1 rfl rfl c5 d_A_pick_44 ?_
                refine lv_aload_n hx hb d_A_pick_45 rfl (lv_at hl 1 rfl) ?_
                obtain ⟨t6, hv7, hf⟩ := db_e hf
                refine call_i (isC := [0, 1, 2, 3, 4, 5]) (run_V (As := [.int (g_part x2.toNatClampNeg), .int (g_part x3.toNatClampNeg), .ref a_p1]) (rest := []) (ci := 3) (q0 := 1) hx hb hml hown htl (c_A_goesAhead l G Y  h0 a_p1 a_p1_sizes a_p1_capped a_p1_connected a_p1_leftIn a_p1_rightIn a_p1_pairs a_split a_part f_p1_known f_p1_paired f_p1_cappedInAll f_p1_connectedInAll f_p1_pairsInAll f_p1_end f_many f_pickedFirst f_pickedSecond g_p1_leftIn g_p1_rightIn g_p1_sizes g_part (g_part x2.toNatClampNeg) (g_part x3.toNatClampNeg) t6 hv7) mv_A_goesAhead k_934 (hRk (by decide) (by decide)) hK hsk hS hP hD (isC := [0, 1, 2, 3, 4, 5]) rfl (by decide) rfl rfl rfl hl.1 rfl (lv_room (Nat.le_of_ble_eq_true rfl)) d_A_pick_46) hP hD hS rfl rfl (fun H locs hP hD hS => ?_)
                have hP : va_P G.1 classes [(a_p1, O_S f_p1_known f_p1_paired f_p1_cappedInAll f_p1_connectedInAll f_p1_pairsInAll a_p1_sizes a_p1_capped a_p1_connected f_p1_end a_p1_leftIn a_p1_rightIn a_p1_pairs), (h0, O_A a_split a_part f_many f_pickedFirst f_pickedSecond), (a_p1_leftIn, aI G 256 g_p1_leftIn), (a_p1_rightIn, aI G 256 g_p1_rightIn), (a_p1_sizes, aJ G 256 g_p1_sizes), (a_part, aI G 8 g_part)] H := hP
                have hD : va_D A [(a_p1, O_S f_p1_known f_p1_paired f_p1_cappedInAll f_p1_connectedInAll f_p1_pairsInAll a_p1_sizes a_p1_capped a_p1_connected f_p1_end a_p1_leftIn a_p1_rightIn a_p1_pairs), (h0, O_A a_split a_part f_many f_pickedFirst f_pickedSecond), (a_p1_leftIn, aI G 256 g_p1_leftIn), (a_p1_rightIn, aI G 256 g_p1_rightIn), (a_p1_sizes, aJ G 256 g_p1_sizes), (a_part, aI G 8 g_part)] := hD
                refine lv_if_eq (tgt := 62) hx hb d_A_pick_49 (by decide) (fun c8 => ?_) (fun c8 => ?_)
                · have hf := di_t c8 hf
                  obtain ⟨v9, ev9⟩ : ∃ z : Int32, z = x3 + (1 : Int32) := ⟨_, rfl⟩
                  have hf := dn_e ev9 hf
                  refine lv_iinc (v := v9) (lv' := [(3, .int v9), (0, .ref h0), (1, .ref a_p1), (2, .int x2)]) hx hb d_A_pick_62 hl (k := 3) rfl (by rw [ev9]; rfl) (by decide) rfl (fun ls hl => ?_)
                  refine lv_goto (tgt := 24) hx hb d_A_pick_65 (by decide) ?_
                  exact ih24 f_pickedFirst f_pickedSecond v9 H locs ls (lpk_i hf hk24) ⟨hP, hD, hS⟩ (lv_sub hl [1, 2, 3, 0] rfl)
                · have hf := di_f c8 hf
                  refine lv_aload_n hx hb d_A_pick_52 rfl (lv_at hl 0 rfl) ?_
                  refine lv_iload_n hx hb d_A_pick_53 rfl (lv_at hl 2 rfl) ?_
                  refine va_put (D := G.1) (ci := 3) (v := .int x2) (ty := .int) (C := n_A) (T := T_A) (N := 5) hx hb htl iw_A ty_A ty_A_ok nm_A hown hK hP hD hS 1 rfl rfl 3 (by decide) (htl _ k_425) (fun _ h9 => h9) rfl (by decide +kernel) rfl rfl (Nat.le_of_ble_eq_true rfl) d_A_pick_54 (fun H locs hP hD hS => ?_)
                  have hP : va_P G.1 classes [(a_p1, O_S f_p1_known f_p1_paired f_p1_cappedInAll f_p1_connectedInAll f_p1_pairsInAll a_p1_sizes a_p1_capped a_p1_connected f_p1_end a_p1_leftIn a_p1_rightIn a_p1_pairs), (h0, O_A a_split a_part f_many x2 f_pickedSecond), (a_p1_leftIn, aI G 256 g_p1_leftIn), (a_p1_rightIn, aI G 256 g_p1_rightIn), (a_p1_sizes, aJ G 256 g_p1_sizes), (a_part, aI G 8 g_part)] H := hP
                  have hD : va_D A [(a_p1, O_S f_p1_known f_p1_paired f_p1_cappedInAll f_p1_connectedInAll f_p1_pairsInAll a_p1_sizes a_p1_capped a_p1_connected f_p1_end a_p1_leftIn a_p1_rightIn a_p1_pairs), (h0, O_A a_split a_part f_many x2 f_pickedSecond), (a_p1_leftIn, aI G 256 g_p1_leftIn), (a_p1_rightIn, aI G 256 g_p1_rightIn), (a_p1_sizes, aJ G 256 g_p1_sizes), (a_part, aI G 8 g_part)] := hD
                  refine lv_aload_n hx hb d_A_pick_57 rfl (lv_at hl 0 rfl) ?_
                  refine lv_iload_n hx hb d_A_pick_58 rfl (lv_at hl 3 rfl) ?_
                  refine va_put (D := G.1) (ci := 3) (v := .int x3) (ty := .int) (C := n_A) (T := T_A) (N := 5) hx hb htl iw_A ty_A ty_A_ok nm_A hown hK hP hD hS 1 rfl rfl 4 (by decide) (htl _ k_426) (fun _ h9 => h9) rfl (by decide +kernel) rfl rfl (Nat.le_of_ble_eq_true rfl) d_A_pick_59 (fun H locs hP hD hS => ?_)
                  have hP : va_P G.1 classes [(a_p1, O_S f_p1_known f_p1_paired f_p1_cappedInAll f_p1_connectedInAll f_p1_pairsInAll a_p1_sizes a_p1_capped a_p1_connected f_p1_end a_p1_leftIn a_p1_rightIn a_p1_pairs), (h0, O_A a_split a_part f_many x2 x3), (a_p1_leftIn, aI G 256 g_p1_leftIn), (a_p1_rightIn, aI G 256 g_p1_rightIn), (a_p1_sizes, aJ G 256 g_p1_sizes), (a_part, aI G 8 g_part)] H := hP
                  have hD : va_D A [(a_p1, O_S f_p1_known f_p1_paired f_p1_cappedInAll f_p1_connectedInAll f_p1_pairsInAll a_p1_sizes a_p1_capped a_p1_connected f_p1_end a_p1_leftIn a_p1_rightIn a_p1_pairs), (h0, O_A a_split a_part f_many x2 x3), (a_p1_leftIn, aI G 256 g_p1_leftIn), (a_p1_rightIn, aI G 256 g_p1_rightIn), (a_p1_sizes, aJ G 256 g_p1_sizes), (a_part, aI G 8 g_part)] := hD
                  obtain ⟨v10, ev10⟩ : ∃ z : Int32, z = x3 + (1 : Int32) := ⟨_, rfl⟩
                  have hf := dn_e ev10 hf
                  refine lv_iinc (v := v10) (lv' := [(3, .int v10), (0, .ref h0), (1, .ref a_p1), (2, .int x2)]) hx hb d_A_pick_62 hl (k := 3) rfl (by rw [ev10]; rfl) (by decide) rfl (fun ls hl => ?_)
                  refine lv_goto (tgt := 24) hx hb d_A_pick_65 (by decide) ?_
                  exact ih24 x2 x3 v10 H locs ls (lpk_i hf hk24) ⟨hP, hD, hS⟩ (lv_sub hl [1, 2, 3, 0] rfl)
          exact hL24 N f_pickedFirst f_pickedSecond x3 H locs ls hy24 ⟨hP, hD, hS⟩ hl
        refine lv_iload_n hx hb d_A_pick_12 rfl (lv_at hl 2 rfl) ?_
        refine lv_aload_n hx hb d_A_pick_13 rfl (lv_at hl 0 rfl) ?_
        refine va_get (D := G.1) (ci := 3) (v := .int f_many) (C := n_A) (T := T_A) (N := 5) hx hb htl iw_A hown hK hP 1 rfl rfl 2 (by decide) (htl _ k_424) (fun _ h9 => h9) rfl d_A_pick_14 ?_
        refine lv_icmp_ge (tgt := 74) hx hb d_A_pick_17 (by decide) (fun c1 => ?_) (fun c1 => ?_)
        · have hf := di_t c1 hf
          have hq12 := lpk_x hf hk12
          have hf := ex_y (f := fun y => A_pick_a12 N f_many g_p1_leftIn g_p1_rightIn g_p1_sizes g_part y) hq12 hfo12
          have hf : A_pick_74 N f_many f_pickedFirst f_pickedSecond g_p1_leftIn g_p1_rightIn g_p1_sizes g_part = some res := hf
          exact hJ74 f_pickedFirst f_pickedSecond H locs ls ⟨hP, hD, hS⟩ (lv_sub hl [] rfl) hf
        · have hf := di_f c1 hf
          refine lv_iload_n hx hb d_A_pick_20 rfl (lv_at hl 2 rfl) ?_
          refine lv_iconst (v := (1 : Int32)) hx hb d_A_pick_21 (by decide) ?_
          refine lv_iadd hx hb d_A_pick_22 ?_
          refine lv_topi (fun v2 ev2 => ?_)
          have hf := dn_e ev2 hf
          refine lv_istore_n (lv' := [(3, .int v2), (0, .ref h0), (1, .ref a_p1), (2, .int x2)]) hx hb d_A_pick_23 rfl hl (by decide) rfl (fun ls hl => ?_)
          exact hJ24 f_pickedFirst f_pickedSecond x2 v2 H locs ls ⟨hP, hD, hS⟩ (lv_sub hl [1, 2, 3, 0] rfl) hf
    exact hL12 N f_pickedFirst f_pickedSecond x2 H locs ls hy12 ⟨hP, hD, hS⟩ hl
  refine lv_aload_n hx hb d_A_pick_0 rfl (lv_at hl 0 rfl) ?_
  refine lv_iconst (v := (0 : Int32)) hx hb d_A_pick_1 (by decide) ?_
  refine va_put (D := G.1) (ci := 3) (v := .int (0 : Int32)) (ty := .int) (C := n_A) (T := T_A) (N := 5) hx hb htl iw_A ty_A ty_A_ok nm_A hown hK hP hD hS 1 rfl rfl 3 (by decide) (htl _ k_425) (fun _ h9 => h9) rfl (by decide +kernel) rfl rfl (Nat.le_of_ble_eq_true rfl) d_A_pick_2 (fun H locs hP hD hS => ?_)
  have hP : va_P G.1 classes [(a_p1, O_S f_p1_known f_p1_paired f_p1_cappedInAll f_p1_connectedInAll f_p1_pairsInAll a_p1_sizes a_p1_capped a_p1_connected f_p1_end a_p1_leftIn a_p1_rightIn a_p1_pairs), (h0, O_A a_split a_part f_many (0 : Int32) f_pickedSecond), (a_p1_leftIn, aI G 256 g_p1_leftIn), (a_p1_rightIn, aI G 256 g_p1_rightIn), (a_p1_sizes, aJ G 256 g_p1_sizes), (a_part, aI G 8 g_part)] H := hP
  have hD : va_D A [(a_p1, O_S f_p1_known f_p1_paired f_p1_cappedInAll f_p1_connectedInAll f_p1_pairsInAll a_p1_sizes a_p1_capped a_p1_connected f_p1_end a_p1_leftIn a_p1_rightIn a_p1_pairs), (h0, O_A a_split a_part f_many (0 : Int32) f_pickedSecond), (a_p1_leftIn, aI G 256 g_p1_leftIn), (a_p1_rightIn, aI G 256 g_p1_rightIn), (a_p1_sizes, aJ G 256 g_p1_sizes), (a_part, aI G 8 g_part)] := hD
  refine lv_aload_n hx hb d_A_pick_5 rfl (lv_at hl 0 rfl) ?_
  refine lv_iconst (v := (1 : Int32)) hx hb d_A_pick_6 (by decide) ?_
  refine va_put (D := G.1) (ci := 3) (v := .int (1 : Int32)) (ty := .int) (C := n_A) (T := T_A) (N := 5) hx hb htl iw_A ty_A ty_A_ok nm_A hown hK hP hD hS 1 rfl rfl 4 (by decide) (htl _ k_426) (fun _ h9 => h9) rfl (by decide +kernel) rfl rfl (Nat.le_of_ble_eq_true rfl) d_A_pick_7 (fun H locs hP hD hS => ?_)
  have hP : va_P G.1 classes [(a_p1, O_S f_p1_known f_p1_paired f_p1_cappedInAll f_p1_connectedInAll f_p1_pairsInAll a_p1_sizes a_p1_capped a_p1_connected f_p1_end a_p1_leftIn a_p1_rightIn a_p1_pairs), (h0, O_A a_split a_part f_many (0 : Int32) (1 : Int32)), (a_p1_leftIn, aI G 256 g_p1_leftIn), (a_p1_rightIn, aI G 256 g_p1_rightIn), (a_p1_sizes, aJ G 256 g_p1_sizes), (a_part, aI G 8 g_part)] H := hP
  have hD : va_D A [(a_p1, O_S f_p1_known f_p1_paired f_p1_cappedInAll f_p1_connectedInAll f_p1_pairsInAll a_p1_sizes a_p1_capped a_p1_connected f_p1_end a_p1_leftIn a_p1_rightIn a_p1_pairs), (h0, O_A a_split a_part f_many (0 : Int32) (1 : Int32)), (a_p1_leftIn, aI G 256 g_p1_leftIn), (a_p1_rightIn, aI G 256 g_p1_rightIn), (a_p1_sizes, aJ G 256 g_p1_sizes), (a_part, aI G 8 g_part)] := hD
  refine lv_iconst (v := (0 : Int32)) hx hb d_A_pick_10 (by decide) ?_
  refine lv_istore_n (lv' := [(2, .int (0 : Int32)), (0, .ref h0), (1, .ref a_p1)]) hx hb d_A_pick_11 rfl hl (by decide) rfl (fun ls hl => ?_)
  exact hJ12 (0 : Int32) (1 : Int32) (0 : Int32) H locs ls ⟨hP, hD, hS⟩ (lv_sub hl [1, 2, 0] rfl) hf
set_option maxHeartbeats 4000000 in
set_option maxRecDepth 100000 in
theorem c_A_mergePicked (l : Launch) (G : va_G × (Nat → ClassId)) (Y : (Nat → Nat) × (Nat → Nat)) (h0 : Nat) (a_split : Nat) (a_part : Nat) (f_many : Int32) (f_pickedFirst : Int32) (f_pickedSecond : Int32) (g_part : Nat → Int32) (g_split : Nat → Int32) (res : Int32 × (Nat → Int32) × (Nat → Int32)) (hf : A_mergePicked f_many f_pickedFirst f_pickedSecond g_part g_split = some res) : Cv l classes y_A_mergePicked b_A_mergePicked 2 none (rmk 1) G.1 (tyL G) Y [.ref h0] [(h0, O_A a_split a_part f_many f_pickedFirst f_pickedSecond), (a_part, aI G 8 g_part), (a_split, aI G 256 g_split)] [(h0, O_A a_split a_part res.1 f_pickedFirst f_pickedSecond), (a_part, aI G 8 res.2.1), (a_split, aI G 256 res.2.2)] := by
  refine entV (by decide) (Nat.le_of_ble_eq_true rfl) ?_
  intro p e s m args below meth c ls A Q hx hb hml hown htl hK hsk wq hl hret
  obtain ⟨hP, hD, hS⟩ := wq
  have hl : lv_has ls 2 [(0, .ref h0)] := hl
  have hS : va_S A s.heap s.heap [] := hS
  obtain ⟨H, hH⟩ : ∃ H : Heap, H = s.heap := ⟨_, rfl⟩
  obtain ⟨locs, hlocs⟩ : ∃ z : List Loc, z = [] := ⟨_, rfl⟩
  rw [← hH] at hP
  replace hS : va_S A s.heap H locs := by rw [hH, hlocs]; exact hS
  suffices hgo : W p l e (rmk 1) s m args below meth c H locs 0 0 Q (F0 m 0 ls []) by rw [hH, hlocs] at hgo; exact hgo
  refine lv_aload_n hx hb d_A_mergePicked_0 rfl (lv_at hl 0 rfl) ?_
  refine va_get (D := G.1) (ci := 3) (v := .ref a_part) (C := n_A) (T := T_A) (N := 5) hx hb htl iw_A hown hK hP 0 rfl rfl 1 (by decide) (htl _ k_423) (fun _ h9 => h9) rfl d_A_mergePicked_1 ?_
  refine lv_aload_n hx hb d_A_mergePicked_4 rfl (lv_at hl 0 rfl) ?_
  refine va_get (D := G.1) (ci := 3) (v := .int f_pickedFirst) (C := n_A) (T := T_A) (N := 5) hx hb htl iw_A hown hK hP 0 rfl rfl 3 (by decide) (htl _ k_425) (fun _ h9 => h9) rfl d_A_mergePicked_5 ?_
  obtain ⟨c1, hf⟩ := dk_e hf
  refine va_iald hx hb hK hP 1 1 rfl rfl c1 d_A_mergePicked_8 ?_
  refine lv_aload_n hx hb d_A_mergePicked_9 rfl (lv_at hl 0 rfl) ?_
  refine va_get (D := G.1) (ci := 3) (v := .ref a_part) (C := n_A) (T := T_A) (N := 5) hx hb htl iw_A hown hK hP 0 rfl rfl 1 (by decide) (htl _ k_423) (fun _ h9 => h9) rfl d_A_mergePicked_10 ?_
  refine lv_aload_n hx hb d_A_mergePicked_13 rfl (lv_at hl 0 rfl) ?_
  refine va_get (D := G.1) (ci := 3) (v := .int f_pickedSecond) (C := n_A) (T := T_A) (N := 5) hx hb htl iw_A hown hK hP 0 rfl rfl 4 (by decide) (htl _ k_426) (fun _ h9 => h9) rfl d_A_mergePicked_14 ?_
  obtain ⟨c2, hf⟩ := dk_e hf
  refine va_iald hx hb hK hP 1 1 rfl rfl c2 d_A_mergePicked_17 ?_
  refine lv_ior hx hb d_A_mergePicked_18 ?_
  refine lv_topi (fun v3 ev3 => ?_)
  have hf := dn_e ev3 hf
  refine lv_istore_n (lv' := [(1, .int v3), (0, .ref h0)]) hx hb d_A_mergePicked_19 rfl hl (by decide) rfl (fun ls hl => ?_)
  refine lv_aload_n hx hb d_A_mergePicked_20 rfl (lv_at hl 1 rfl) ?_
  refine va_get (D := G.1) (ci := 3) (v := .ref a_split) (C := n_A) (T := T_A) (N := 5) hx hb htl iw_A hown hK hP 0 rfl rfl 0 (by decide) (htl _ k_421) (fun _ h9 => h9) rfl d_A_mergePicked_21 ?_
  refine lv_iload_n hx hb d_A_mergePicked_24 rfl (lv_at hl 0 rfl) ?_
  refine lv_aload_n hx hb d_A_mergePicked_25 rfl (lv_at hl 1 rfl) ?_
  refine va_get (D := G.1) (ci := 3) (v := .ref a_part) (C := n_A) (T := T_A) (N := 5) hx hb htl iw_A hown hK hP 0 rfl rfl 1 (by decide) (htl _ k_423) (fun _ h9 => h9) rfl d_A_mergePicked_26 ?_
  refine lv_aload_n hx hb d_A_mergePicked_29 rfl (lv_at hl 1 rfl) ?_
  refine va_get (D := G.1) (ci := 3) (v := .int f_pickedFirst) (C := n_A) (T := T_A) (N := 5) hx hb htl iw_A hown hK hP 0 rfl rfl 3 (by decide) (htl _ k_425) (fun _ h9 => h9) rfl d_A_mergePicked_30 ?_
  refine va_iald hx hb hK hP 1 1 rfl rfl c1 d_A_mergePicked_33 ?_
  obtain ⟨c4, hf⟩ := dk_e hf
  refine nx_iast hx hb hK hP hD hS 2 1 rfl rfl c4 d_A_mergePicked_34 (fun v5 ev5 H locs hP hD hS => ?_)
  have hf := dn_e ev5 hf
  have hP : va_P G.1 classes [(h0, O_A a_split a_part f_many f_pickedFirst f_pickedSecond), (a_part, aI G 8 g_part), (a_split, aI G 256 v5)] H := hP
  have hD : va_D A [(h0, O_A a_split a_part f_many f_pickedFirst f_pickedSecond), (a_part, aI G 8 g_part), (a_split, aI G 256 v5)] := hD
  refine lv_aload_n hx hb d_A_mergePicked_35 rfl (lv_at hl 1 rfl) ?_
  refine va_get (D := G.1) (ci := 3) (v := .ref a_part) (C := n_A) (T := T_A) (N := 5) hx hb htl iw_A hown hK hP 0 rfl rfl 1 (by decide) (htl _ k_423) (fun _ h9 => h9) rfl d_A_mergePicked_36 ?_
  refine lv_aload_n hx hb d_A_mergePicked_39 rfl (lv_at hl 1 rfl) ?_
  refine va_get (D := G.1) (ci := 3) (v := .int f_pickedFirst) (C := n_A) (T := T_A) (N := 5) hx hb htl iw_A hown hK hP 0 rfl rfl 3 (by decide) (htl _ k_425) (fun _ h9 => h9) rfl d_A_mergePicked_40 ?_
  refine lv_iload_n hx hb d_A_mergePicked_43 rfl (lv_at hl 0 rfl) ?_
  refine nx_iast hx hb hK hP hD hS 1 1 rfl rfl c1 d_A_mergePicked_44 (fun v6 ev6 H locs hP hD hS => ?_)
  have hf := dn_e ev6 hf
  have hP : va_P G.1 classes [(h0, O_A a_split a_part f_many f_pickedFirst f_pickedSecond), (a_part, aI G 8 v6), (a_split, aI G 256 v5)] H := hP
  have hD : va_D A [(h0, O_A a_split a_part f_many f_pickedFirst f_pickedSecond), (a_part, aI G 8 v6), (a_split, aI G 256 v5)] := hD
  refine lv_aload_n hx hb d_A_mergePicked_45 rfl (lv_at hl 1 rfl) ?_
  refine lv_dup hx hb d_A_mergePicked_46 rfl ?_
  refine va_get (D := G.1) (ci := 3) (v := .int f_many) (C := n_A) (T := T_A) (N := 5) hx hb htl iw_A hown hK hP 0 rfl rfl 2 (by decide) (htl _ k_424) (fun _ h9 => h9) rfl d_A_mergePicked_47 ?_
  refine lv_iconst (v := (1 : Int32)) hx hb d_A_mergePicked_50 (by decide) ?_
  refine lv_isub hx hb d_A_mergePicked_51 ?_
  refine lv_topi (fun v7 ev7 => ?_)
  have hf := dn_e ev7 hf
  refine va_put (D := G.1) (ci := 3) (v := .int v7) (ty := .int) (C := n_A) (T := T_A) (N := 5) hx hb htl iw_A ty_A ty_A_ok nm_A hown hK hP hD hS 0 rfl rfl 2 (by decide) (htl _ k_424) (fun _ h9 => h9) rfl (by decide +kernel) rfl rfl (Nat.le_of_ble_eq_true rfl) d_A_mergePicked_52 (fun H locs hP hD hS => ?_)
  have hP : va_P G.1 classes [(h0, O_A a_split a_part v7 f_pickedFirst f_pickedSecond), (a_part, aI G 8 v6), (a_split, aI G 256 v5)] H := hP
  have hD : va_D A [(h0, O_A a_split a_part v7 f_pickedFirst f_pickedSecond), (a_part, aI G 8 v6), (a_split, aI G 256 v5)] := hD
  refine lv_aload_n hx hb d_A_mergePicked_55 rfl (lv_at hl 1 rfl) ?_
  refine va_get (D := G.1) (ci := 3) (v := .ref a_part) (C := n_A) (T := T_A) (N := 5) hx hb htl iw_A hown hK hP 0 rfl rfl 1 (by decide) (htl _ k_423) (fun _ h9 => h9) rfl d_A_mergePicked_56 ?_
  refine lv_aload_n hx hb d_A_mergePicked_59 rfl (lv_at hl 1 rfl) ?_
  refine va_get (D := G.1) (ci := 3) (v := .int f_pickedSecond) (C := n_A) (T := T_A) (N := 5) hx hb htl iw_A hown hK hP 0 rfl rfl 4 (by decide) (htl _ k_426) (fun _ h9 => h9) rfl d_A_mergePicked_60 ?_
  refine lv_iconst (v := (1 : Int32)) hx hb d_A_mergePicked_63 (by decide) ?_
  refine lv_iadd hx hb d_A_mergePicked_64 ?_
  refine lv_aload_n hx hb d_A_mergePicked_65 rfl (lv_at hl 1 rfl) ?_
  refine va_get (D := G.1) (ci := 3) (v := .ref a_part) (C := n_A) (T := T_A) (N := 5) hx hb htl iw_A hown hK hP 0 rfl rfl 1 (by decide) (htl _ k_423) (fun _ h9 => h9) rfl d_A_mergePicked_66 ?_
  refine lv_aload_n hx hb d_A_mergePicked_69 rfl (lv_at hl 1 rfl) ?_
  refine va_get (D := G.1) (ci := 3) (v := .int f_pickedSecond) (C := n_A) (T := T_A) (N := 5) hx hb htl iw_A hown hK hP 0 rfl rfl 4 (by decide) (htl _ k_426) (fun _ h9 => h9) rfl d_A_mergePicked_70 ?_
  refine lv_aload_n hx hb d_A_mergePicked_73 rfl (lv_at hl 1 rfl) ?_
  refine va_get (D := G.1) (ci := 3) (v := .int v7) (C := n_A) (T := T_A) (N := 5) hx hb htl iw_A hown hK hP 0 rfl rfl 2 (by decide) (htl _ k_424) (fun _ h9 => h9) rfl d_A_mergePicked_74 ?_
  refine lv_aload_n hx hb d_A_mergePicked_77 rfl (lv_at hl 1 rfl) ?_
  refine va_get (D := G.1) (ci := 3) (v := .int f_pickedSecond) (C := n_A) (T := T_A) (N := 5) hx hb htl iw_A hown hK hP 0 rfl rfl 4 (by decide) (htl _ k_426) (fun _ h9 => h9) rfl d_A_mergePicked_78 ?_
  refine lv_isub hx hb d_A_mergePicked_81 ?_
  obtain ⟨c8, hf⟩ := dk_e hf
  refine nx_copy hx hb (hml.trans hl.1.symm) hown (htl _ k_943) (htl _ k_725) (htl _ k_724) (htl _ k_110) hK hP hD hS 1 1 1 1 rfl rfl rfl rfl rfl c8.1 c8.2.1 c8.2.2.1 c8.2.2.2.1 c8.2.2.2.2 (fun _ _ => rfl) (Nat.le_of_ble_eq_true rfl) (Nat.le_of_ble_eq_true rfl) d_A_mergePicked_82 (fun v9 ev9 H locs hP hD hS => ?_)
  have hf := dn_e ev9 hf
  have hP : va_P G.1 classes [(h0, O_A a_split a_part v7 f_pickedFirst f_pickedSecond), (a_part, aI G 8 v9), (a_split, aI G 256 v5)] H := hP
  have hD : va_D A [(h0, O_A a_split a_part v7 f_pickedFirst f_pickedSecond), (a_part, aI G 8 v9), (a_split, aI G 256 v5)] := hD
  cases hf
  exact hret 85 ls H locs hP hS d_A_mergePicked_85
set_option maxHeartbeats 4000000 in
set_option maxRecDepth 100000 in
theorem c_A_mergeAll (l : Launch) (G : va_G × (Nat → ClassId)) (Y : (Nat → Nat) × (Nat → Nat)) (h0 : Nat) (a_p1 : Nat) (a_p2 : Nat) (a_p1_rows : Nat) (a_p1_left : Nat) (a_p1_right : Nat) (a_p1_by : Nat) (a_p2_sizes : Nat) (a_p2_capped : Nat) (a_p2_connected : Nat) (a_p2_leftIn : Nat) (a_p2_rightIn : Nat) (a_p2_pairs : Nat) (a_split : Nat) (a_part : Nat) (f_p1_relations : Int32) (f_p1_edges : Int32) (f_p1_limit : Int32) (f_p2_known : Int32) (f_p2_paired : Int32) (f_p2_cappedInAll : Int32) (f_p2_connectedInAll : Int32) (f_p2_pairsInAll : Int32) (f_p2_end : Int32) (f_many : Int32) (f_pickedFirst : Int32) (f_pickedSecond : Int32) (g_p2_leftIn : Nat → Int32) (g_p2_rightIn : Nat → Int32) (g_p2_sizes : Nat → Int64) (g_part : Nat → Int32) (g_split : Nat → Int32) (N : Nat) (res : Int32 × Int32 × Int32 × (Nat → Int32) × (Nat → Int32)) (hf : A_mergeAll N f_p1_relations f_many f_pickedFirst f_pickedSecond g_p2_leftIn g_p2_rightIn g_p2_sizes g_part g_split = some res) : Cv l classes y_A_mergeAll b_A_mergeAll 4 none (rmk 3) G.1 (tyL G) Y [.ref h0, .ref a_p1, .ref a_p2] [(a_p1, O_G f_p1_relations f_p1_edges f_p1_limit a_p1_rows a_p1_left a_p1_right a_p1_by), (a_p2, O_S f_p2_known f_p2_paired f_p2_cappedInAll f_p2_connectedInAll f_p2_pairsInAll a_p2_sizes a_p2_capped a_p2_connected f_p2_end a_p2_leftIn a_p2_rightIn a_p2_pairs), (h0, O_A a_split a_part f_many f_pickedFirst f_pickedSecond), (a_p2_leftIn, aI G 256 g_p2_leftIn), (a_p2_rightIn, aI G 256 g_p2_rightIn), (a_p2_sizes, aJ G 256 g_p2_sizes), (a_part, aI G 8 g_part), (a_split, aI G 256 g_split)] [(a_p1, O_G f_p1_relations f_p1_edges f_p1_limit a_p1_rows a_p1_left a_p1_right a_p1_by), (a_p2, O_S f_p2_known f_p2_paired f_p2_cappedInAll f_p2_connectedInAll f_p2_pairsInAll a_p2_sizes a_p2_capped a_p2_connected f_p2_end a_p2_leftIn a_p2_rightIn a_p2_pairs), (h0, O_A a_split a_part res.1 res.2.1 res.2.2.1), (a_p2_leftIn, aI G 256 g_p2_leftIn), (a_p2_rightIn, aI G 256 g_p2_rightIn), (a_p2_sizes, aJ G 256 g_p2_sizes), (a_part, aI G 8 res.2.2.2.1), (a_split, aI G 256 res.2.2.2.2)] := by
  refine entV (by decide) (Nat.le_of_ble_eq_true rfl) ?_
  intro p e s m args below meth c ls A Q hx hb hml hown htl hK hsk wq hl hret
  obtain ⟨hP, hD, hS⟩ := wq
  have hl : lv_has ls 4 [(0, .ref h0), (1, .ref a_p1), (2, .ref a_p2)] := hl
  have hS : va_S A s.heap s.heap [] := hS
  obtain ⟨H, hH⟩ : ∃ H : Heap, H = s.heap := ⟨_, rfl⟩
  obtain ⟨locs, hlocs⟩ : ∃ z : List Loc, z = [] := ⟨_, rfl⟩
  rw [← hH] at hP
  replace hS : va_S A s.heap H locs := by rw [hH, hlocs]; exact hS
  suffices hgo : W p l e (rmk 3) s m args below meth c H locs 0 0 Q (F0 m 0 ls []) by rw [hH, hlocs] at hgo; exact hgo
  have hJ30 : ∀ (f_many : Int32) (f_pickedFirst : Int32) (f_pickedSecond : Int32) (g_part : Nat → Int32) (g_split : Nat → Int32) (H : Heap) (locs : List Loc) (ls : Array Slot), PDS G.1 classes A s [(a_p1, O_G f_p1_relations f_p1_edges f_p1_limit a_p1_rows a_p1_left a_p1_right a_p1_by), (a_p2, O_S f_p2_known f_p2_paired f_p2_cappedInAll f_p2_connectedInAll f_p2_pairsInAll a_p2_sizes a_p2_capped a_p2_connected f_p2_end a_p2_leftIn a_p2_rightIn a_p2_pairs), (h0, O_A a_split a_part f_many f_pickedFirst f_pickedSecond), (a_p2_leftIn, aI G 256 g_p2_leftIn), (a_p2_rightIn, aI G 256 g_p2_rightIn), (a_p2_sizes, aJ G 256 g_p2_sizes), (a_part, aI G 8 g_part), (a_split, aI G 256 g_split)] H locs → lv_has ls 4 [] → A_mergeAll_30 N f_p1_relations f_many f_pickedFirst f_pickedSecond g_p2_leftIn g_p2_rightIn g_p2_sizes g_part g_split = some res → W p l e (rmk 3) s m args below meth c H locs 0 0 Q (F0 m 30 ls []) := by
    intro f_many f_pickedFirst f_pickedSecond g_part g_split H locs ls wq hl hf
    obtain ⟨hP, hD, hS⟩ := wq
    cases hf
    exact hret 30 ls H locs hP hS d_A_mergeAll_30
  have hJ10 : ∀ (f_many : Int32) (f_pickedFirst : Int32) (f_pickedSecond : Int32) (g_part : Nat → Int32) (g_split : Nat → Int32) (x3 : Int32) (H : Heap) (locs : List Loc) (ls : Array Slot), PDS G.1 classes A s [(a_p1, O_G f_p1_relations f_p1_edges f_p1_limit a_p1_rows a_p1_left a_p1_right a_p1_by), (a_p2, O_S f_p2_known f_p2_paired f_p2_cappedInAll f_p2_connectedInAll f_p2_pairsInAll a_p2_sizes a_p2_capped a_p2_connected f_p2_end a_p2_leftIn a_p2_rightIn a_p2_pairs), (h0, O_A a_split a_part f_many f_pickedFirst f_pickedSecond), (a_p2_leftIn, aI G 256 g_p2_leftIn), (a_p2_rightIn, aI G 256 g_p2_rightIn), (a_p2_sizes, aJ G 256 g_p2_sizes), (a_part, aI G 8 g_part), (a_split, aI G 256 g_split)] H locs → lv_has ls 4 [(0, .ref h0), (2, .ref a_p2), (3, .int x3)] → A_mergeAll_10 N f_p1_relations f_many f_pickedFirst f_pickedSecond g_p2_leftIn g_p2_rightIn g_p2_sizes g_part g_split x3 = some res → W p l e (rmk 3) s m args below meth c H locs 0 0 Q (F0 m 10 ls []) := by
    intro f_many f_pickedFirst f_pickedSecond g_part g_split x3 H locs ls wq hl hf
    obtain ⟨hP, hD, hS⟩ := wq
    obtain ⟨y10, hy10, hfo10⟩ := db_e hf
    have hL10 : ∀ (n : Nat) (f_many : Int32) (f_pickedFirst : Int32) (f_pickedSecond : Int32) (g_part : Nat → Int32) (g_split : Nat → Int32) (x3 : Int32) (H : Heap) (locs : List Loc) (ls : Array Slot), lp (fun x => A_mergeAll_b10 N f_p1_relations x.1 x.2.1 x.2.2.1 g_p2_leftIn g_p2_rightIn g_p2_sizes x.2.2.2.1 x.2.2.2.2.1 x.2.2.2.2.2) n (f_many, f_pickedFirst, f_pickedSecond, g_part, g_split, x3) = some y10 → PDS G.1 classes A s [(a_p1, O_G f_p1_relations f_p1_edges f_p1_limit a_p1_rows a_p1_left a_p1_right a_p1_by), (a_p2, O_S f_p2_known f_p2_paired f_p2_cappedInAll f_p2_connectedInAll f_p2_pairsInAll a_p2_sizes a_p2_capped a_p2_connected f_p2_end a_p2_leftIn a_p2_rightIn a_p2_pairs), (h0, O_A a_split a_part f_many f_pickedFirst f_pickedSecond), (a_p2_leftIn, aI G 256 g_p2_leftIn), (a_p2_rightIn, aI G 256 g_p2_rightIn), (a_p2_sizes, aJ G 256 g_p2_sizes), (a_part, aI G 8 g_part), (a_split, aI G 256 g_split)] H locs → lv_has ls 4 [(0, .ref h0), (2, .ref a_p2), (3, .int x3)] → W p l e (rmk 3) s m args below meth c H locs 0 0 Q (F0 m 10 ls []) := by
      intro n
      induction n with
      | zero =>
        intro f_many f_pickedFirst f_pickedSecond g_part g_split x3 H locs ls hf
        exact lp_0 hf
      | succ n ih10 =>
        intro f_many f_pickedFirst f_pickedSecond g_part g_split x3 H locs ls hf wq hl
        obtain ⟨hP, hD, hS⟩ := wq
        obtain ⟨r10, hf, hk10⟩ := lp_s hf
        have hf : A_mergeAll_b10 N f_p1_relations f_many f_pickedFirst f_pickedSecond g_p2_leftIn g_p2_rightIn g_p2_sizes g_part g_split x3 = some r10 := hf
        refine lv_iload_n hx hb d_A_mergeAll_10 rfl (lv_at hl 2 rfl) ?_
        refine lv_iconst (v := (1 : Int32)) hx hb d_A_mergeAll_11 (by decide) ?_
        refine lv_icmp_le (tgt := 30) hx hb d_A_mergeAll_12 (by decide) (fun c3 => ?_) (fun c3 => ?_)
        · have hf := di_t c3 hf
          have hq10 := lpk_x hf hk10
          have hf := ex_y (f := fun y => A_mergeAll_a10 N f_p1_relations g_p2_leftIn g_p2_rightIn g_p2_sizes y) hq10 hfo10
          have hf : A_mergeAll_30 N f_p1_relations f_many f_pickedFirst f_pickedSecond g_p2_leftIn g_p2_rightIn g_p2_sizes g_part g_split = some res := hf
          exact hJ30 f_many f_pickedFirst f_pickedSecond g_part g_split H locs ls ⟨hP, hD, hS⟩ (lv_sub hl [] rfl) hf
        · have hf := di_f c3 hf
          refine lv_aload_n hx hb d_A_mergeAll_15 rfl (lv_at hl 0 rfl) ?_
          refine lv_aload_n hx hb d_A_mergeAll_16 rfl (lv_at hl 1 rfl) ?_
          obtain ⟨t4, hv5, hf⟩ := db_e hf
          refine call_v (isC := [1, 2, 3, 4, 5, 6]) (run_V (As := [.ref a_p2]) (rest := []) (ci := 3) (q0 := 2) hx hb hml hown htl (c_A_pick l G Y  h0 a_p2 a_p2_sizes a_p2_capped a_p2_connected a_p2_leftIn a_p2_rightIn a_p2_pairs a_split a_part f_p2_known f_p2_paired f_p2_cappedInAll f_p2_connectedInAll f_p2_pairsInAll f_p2_end f_many f_pickedFirst f_pickedSecond g_p2_leftIn g_p2_rightIn g_p2_sizes g_part N t4 hv5) mv_A_pick k_930 (hRk (by decide) (by decide)) hK hsk hS hP hD (isC := [1, 2, 3, 4, 5, 6]) rfl (by decide) rfl rfl rfl hl.1 rfl (lv_room (Nat.le_of_ble_eq_true rfl)) d_A_mergeAll_17) hP hD hS rfl rfl (fun H locs hP hD hS => ?_)
          have hP : va_P G.1 classes [(a_p1, O_G f_p1_relations f_p1_edges f_p1_limit a_p1_rows a_p1_left a_p1_right a_p1_by), (a_p2, O_S f_p2_known f_p2_paired f_p2_cappedInAll f_p2_connectedInAll f_p2_pairsInAll a_p2_sizes a_p2_capped a_p2_connected f_p2_end a_p2_leftIn a_p2_rightIn a_p2_pairs), (h0, O_A a_split a_part f_many t4.1 t4.2), (a_p2_leftIn, aI G 256 g_p2_leftIn), (a_p2_rightIn, aI G 256 g_p2_rightIn), (a_p2_sizes, aJ G 256 g_p2_sizes), (a_part, aI G 8 g_part), (a_split, aI G 256 g_split)] H := hP
          have hD : va_D A [(a_p1, O_G f_p1_relations f_p1_edges f_p1_limit a_p1_rows a_p1_left a_p1_right a_p1_by), (a_p2, O_S f_p2_known f_p2_paired f_p2_cappedInAll f_p2_connectedInAll f_p2_pairsInAll a_p2_sizes a_p2_capped a_p2_connected f_p2_end a_p2_leftIn a_p2_rightIn a_p2_pairs), (h0, O_A a_split a_part f_many t4.1 t4.2), (a_p2_leftIn, aI G 256 g_p2_leftIn), (a_p2_rightIn, aI G 256 g_p2_rightIn), (a_p2_sizes, aJ G 256 g_p2_sizes), (a_part, aI G 8 g_part), (a_split, aI G 256 g_split)] := hD
          refine lv_aload_n hx hb d_A_mergeAll_20 rfl (lv_at hl 0 rfl) ?_
          obtain ⟨t6, hv7, hf⟩ := db_e hf
          refine call_v (isC := [2, 6, 7]) (run_V (As := []) (rest := []) (ci := 3) (q0 := 2) hx hb hml hown htl (c_A_mergePicked l G Y  h0 a_split a_part f_many t4.1 t4.2 g_part g_split t6 hv7) mv_A_mergePicked k_939 (hRk (by decide) (by decide)) hK hsk hS hP hD (isC := [2, 6, 7]) rfl (by decide) rfl rfl rfl hl.1 rfl (lv_room (Nat.le_of_ble_eq_true rfl)) d_A_mergeAll_21) hP hD hS rfl rfl (fun H locs hP hD hS => ?_)
          have hP : va_P G.1 classes [(a_p1, O_G f_p1_relations f_p1_edges f_p1_limit a_p1_rows a_p1_left a_p1_right a_p1_by), (a_p2, O_S f_p2_known f_p2_paired f_p2_cappedInAll f_p2_connectedInAll f_p2_pairsInAll a_p2_sizes a_p2_capped a_p2_connected f_p2_end a_p2_leftIn a_p2_rightIn a_p2_pairs), (h0, O_A a_split a_part t6.1 t4.1 t4.2), (a_p2_leftIn, aI G 256 g_p2_leftIn), (a_p2_rightIn, aI G 256 g_p2_rightIn), (a_p2_sizes, aJ G 256 g_p2_sizes), (a_part, aI G 8 t6.2.1), (a_split, aI G 256 t6.2.2)] H := hP
          have hD : va_D A [(a_p1, O_G f_p1_relations f_p1_edges f_p1_limit a_p1_rows a_p1_left a_p1_right a_p1_by), (a_p2, O_S f_p2_known f_p2_paired f_p2_cappedInAll f_p2_connectedInAll f_p2_pairsInAll a_p2_sizes a_p2_capped a_p2_connected f_p2_end a_p2_leftIn a_p2_rightIn a_p2_pairs), (h0, O_A a_split a_part t6.1 t4.1 t4.2), (a_p2_leftIn, aI G 256 g_p2_leftIn), (a_p2_rightIn, aI G 256 g_p2_rightIn), (a_p2_sizes, aJ G 256 g_p2_sizes), (a_part, aI G 8 t6.2.1), (a_split, aI G 256 t6.2.2)] := hD
          obtain ⟨v8, ev8⟩ : ∃ z : Int32, z = x3 + (-1 : Int32) := ⟨_, rfl⟩
          have hf := dn_e ev8 hf
          refine lv_iinc (v := v8) (lv' := [(3, .int v8), (0, .ref h0), (2, .ref a_p2)]) hx hb d_A_mergeAll_24 hl (k := 2) rfl (by rw [ev8]; rfl) (by decide) rfl (fun ls hl => ?_)
          refine lv_goto (tgt := 10) hx hb d_A_mergeAll_27 (by decide) ?_
          exact ih10 t6.1 t4.1 t4.2 t6.2.1 t6.2.2 v8 H locs ls (lpk_i hf hk10) ⟨hP, hD, hS⟩ (lv_sub hl [1, 2, 0] rfl)
    exact hL10 N f_many f_pickedFirst f_pickedSecond g_part g_split x3 H locs ls hy10 ⟨hP, hD, hS⟩ hl
  refine lv_aload_n hx hb d_A_mergeAll_0 rfl (lv_at hl 0 rfl) ?_
  refine lv_aload_n hx hb d_A_mergeAll_1 rfl (lv_at hl 1 rfl) ?_
  obtain ⟨t1, hv2, hf⟩ := db_e hf
  refine call_v (isC := [0, 2, 6]) (run_V (As := [.ref a_p1]) (rest := []) (ci := 3) (q0 := 2) hx hb hml hown htl (c_A_begin l G Y  h0 a_p1 a_p1_rows a_p1_left a_p1_right a_p1_by a_split a_part f_p1_relations f_p1_edges f_p1_limit f_many f_pickedFirst f_pickedSecond g_part N t1 hv2) mv_A_begin k_926 (hRk (by decide) (by decide)) hK hsk hS hP hD (isC := [0, 2, 6]) rfl (by decide) rfl rfl rfl hl.1 rfl (lv_room (Nat.le_of_ble_eq_true rfl)) d_A_mergeAll_2) hP hD hS rfl rfl (fun H locs hP hD hS => ?_)
  have hP : va_P G.1 classes [(a_p1, O_G f_p1_relations f_p1_edges f_p1_limit a_p1_rows a_p1_left a_p1_right a_p1_by), (a_p2, O_S f_p2_known f_p2_paired f_p2_cappedInAll f_p2_connectedInAll f_p2_pairsInAll a_p2_sizes a_p2_capped a_p2_connected f_p2_end a_p2_leftIn a_p2_rightIn a_p2_pairs), (h0, O_A a_split a_part t1.1 f_pickedFirst f_pickedSecond), (a_p2_leftIn, aI G 256 g_p2_leftIn), (a_p2_rightIn, aI G 256 g_p2_rightIn), (a_p2_sizes, aJ G 256 g_p2_sizes), (a_part, aI G 8 t1.2), (a_split, aI G 256 g_split)] H := hP
  have hD : va_D A [(a_p1, O_G f_p1_relations f_p1_edges f_p1_limit a_p1_rows a_p1_left a_p1_right a_p1_by), (a_p2, O_S f_p2_known f_p2_paired f_p2_cappedInAll f_p2_connectedInAll f_p2_pairsInAll a_p2_sizes a_p2_capped a_p2_connected f_p2_end a_p2_leftIn a_p2_rightIn a_p2_pairs), (h0, O_A a_split a_part t1.1 f_pickedFirst f_pickedSecond), (a_p2_leftIn, aI G 256 g_p2_leftIn), (a_p2_rightIn, aI G 256 g_p2_rightIn), (a_p2_sizes, aJ G 256 g_p2_sizes), (a_part, aI G 8 t1.2), (a_split, aI G 256 g_split)] := hD
  refine lv_aload_n hx hb d_A_mergeAll_5 rfl (lv_at hl 0 rfl) ?_
  refine va_get (D := G.1) (ci := 3) (v := .int t1.1) (C := n_A) (T := T_A) (N := 5) hx hb htl iw_A hown hK hP 2 rfl rfl 2 (by decide) (htl _ k_424) (fun _ h9 => h9) rfl d_A_mergeAll_6 ?_
  refine lv_istore_n (lv' := [(3, .int t1.1), (0, .ref h0), (1, .ref a_p1), (2, .ref a_p2)]) hx hb d_A_mergeAll_9 rfl hl (by decide) rfl (fun ls hl => ?_)
  exact hJ10 t1.1 f_pickedFirst f_pickedSecond t1.2 g_split t1.1 H locs ls ⟨hP, hD, hS⟩ (lv_sub hl [1, 3, 0] rfl) hf
set_option maxHeartbeats 4000000 in
set_option maxRecDepth 100000 in
theorem c_A_mergeJoined (l : Launch) (G : va_G × (Nat → ClassId)) (Y : (Nat → Nat) × (Nat → Nat)) (h0 : Nat) (a_p1 : Nat) (a_p2 : Nat) (a_p1_rows : Nat) (a_p1_left : Nat) (a_p1_right : Nat) (a_p1_by : Nat) (a_p2_sizes : Nat) (a_p2_capped : Nat) (a_p2_connected : Nat) (a_p2_leftIn : Nat) (a_p2_rightIn : Nat) (a_p2_pairs : Nat) (a_split : Nat) (a_part : Nat) (f_p1_relations : Int32) (f_p1_edges : Int32) (f_p1_limit : Int32) (f_p2_known : Int32) (f_p2_paired : Int32) (f_p2_cappedInAll : Int32) (f_p2_connectedInAll : Int32) (f_p2_pairsInAll : Int32) (f_p2_end : Int32) (f_many : Int32) (f_pickedFirst : Int32) (f_pickedSecond : Int32) (g_p2_leftIn : Nat → Int32) (g_p2_rightIn : Nat → Int32) (g_p2_sizes : Nat → Int64) (g_part : Nat → Int32) (g_split : Nat → Int32) (N : Nat) (res : Int32 × Int32 × Int32 × Int32 × (Nat → Int32) × (Nat → Int32)) (hf : A_mergeJoined N f_p1_relations f_many f_pickedFirst f_pickedSecond g_p2_leftIn g_p2_rightIn g_p2_sizes g_part g_split = some res) : Ci l classes y_A_mergeJoined b_A_mergeJoined 4 (some .int) (rmk 3) G.1 (tyL G) Y [.ref h0, .ref a_p1, .ref a_p2] [(a_p1, O_G f_p1_relations f_p1_edges f_p1_limit a_p1_rows a_p1_left a_p1_right a_p1_by), (a_p2, O_S f_p2_known f_p2_paired f_p2_cappedInAll f_p2_connectedInAll f_p2_pairsInAll a_p2_sizes a_p2_capped a_p2_connected f_p2_end a_p2_leftIn a_p2_rightIn a_p2_pairs), (h0, O_A a_split a_part f_many f_pickedFirst f_pickedSecond), (a_p2_leftIn, aI G 256 g_p2_leftIn), (a_p2_rightIn, aI G 256 g_p2_rightIn), (a_p2_sizes, aJ G 256 g_p2_sizes), (a_part, aI G 8 g_part), (a_split, aI G 256 g_split)] [(a_p1, O_G f_p1_relations f_p1_edges f_p1_limit a_p1_rows a_p1_left a_p1_right a_p1_by), (a_p2, O_S f_p2_known f_p2_paired f_p2_cappedInAll f_p2_connectedInAll f_p2_pairsInAll a_p2_sizes a_p2_capped a_p2_connected f_p2_end a_p2_leftIn a_p2_rightIn a_p2_pairs), (h0, O_A a_split a_part res.2.1 res.2.2.1 res.2.2.2.1), (a_p2_leftIn, aI G 256 g_p2_leftIn), (a_p2_rightIn, aI G 256 g_p2_rightIn), (a_p2_sizes, aJ G 256 g_p2_sizes), (a_part, aI G 8 res.2.2.2.2.1), (a_split, aI G 256 res.2.2.2.2.2)] res.1 := by
  refine entI (by decide) (Nat.le_of_ble_eq_true rfl) ?_
  intro p e s m args below meth c ls A Q hx hb hml hown htl hK hsk wq hl hret
  obtain ⟨hP, hD, hS⟩ := wq
  have hl : lv_has ls 4 [(0, .ref h0), (1, .ref a_p1), (2, .ref a_p2)] := hl
  have hS : va_S A s.heap s.heap [] := hS
  obtain ⟨H, hH⟩ : ∃ H : Heap, H = s.heap := ⟨_, rfl⟩
  obtain ⟨locs, hlocs⟩ : ∃ z : List Loc, z = [] := ⟨_, rfl⟩
  rw [← hH] at hP
  replace hS : va_S A s.heap H locs := by rw [hH, hlocs]; exact hS
  suffices hgo : W p l e (rmk 3) s m args below meth c H locs 0 0 Q (F0 m 0 ls []) by rw [hH, hlocs] at hgo; exact hgo
  have hJ60 : ∀ (f_many : Int32) (f_pickedFirst : Int32) (f_pickedSecond : Int32) (g_part : Nat → Int32) (g_split : Nat → Int32) (H : Heap) (locs : List Loc) (ls : Array Slot), PDS G.1 classes A s [(a_p1, O_G f_p1_relations f_p1_edges f_p1_limit a_p1_rows a_p1_left a_p1_right a_p1_by), (a_p2, O_S f_p2_known f_p2_paired f_p2_cappedInAll f_p2_connectedInAll f_p2_pairsInAll a_p2_sizes a_p2_capped a_p2_connected f_p2_end a_p2_leftIn a_p2_rightIn a_p2_pairs), (h0, O_A a_split a_part f_many f_pickedFirst f_pickedSecond), (a_p2_leftIn, aI G 256 g_p2_leftIn), (a_p2_rightIn, aI G 256 g_p2_rightIn), (a_p2_sizes, aJ G 256 g_p2_sizes), (a_part, aI G 8 g_part), (a_split, aI G 256 g_split)] H locs → lv_has ls 4 [(0, .ref h0)] → A_mergeJoined_60 N f_p1_relations f_many f_pickedFirst f_pickedSecond g_p2_leftIn g_p2_rightIn g_p2_sizes g_part g_split = some res → W p l e (rmk 3) s m args below meth c H locs 0 0 Q (F0 m 60 ls []) := by
    intro f_many f_pickedFirst f_pickedSecond g_part g_split H locs ls wq hl hf
    obtain ⟨hP, hD, hS⟩ := wq
    refine lv_aload_n hx hb d_A_mergeJoined_60 rfl (lv_at hl 0 rfl) ?_
    refine va_get (D := G.1) (ci := 3) (v := .int f_many) (C := n_A) (T := T_A) (N := 5) hx hb htl iw_A hown hK hP 2 rfl rfl 2 (by decide) (htl _ k_424) (fun _ h9 => h9) rfl d_A_mergeJoined_61 ?_
    cases hf
    exact hret 64 ls H locs hP hS d_A_mergeJoined_64
  have hJ45 : ∀ (f_many : Int32) (f_pickedFirst : Int32) (f_pickedSecond : Int32) (g_part : Nat → Int32) (g_split : Nat → Int32) (H : Heap) (locs : List Loc) (ls : Array Slot), PDS G.1 classes A s [(a_p1, O_G f_p1_relations f_p1_edges f_p1_limit a_p1_rows a_p1_left a_p1_right a_p1_by), (a_p2, O_S f_p2_known f_p2_paired f_p2_cappedInAll f_p2_connectedInAll f_p2_pairsInAll a_p2_sizes a_p2_capped a_p2_connected f_p2_end a_p2_leftIn a_p2_rightIn a_p2_pairs), (h0, O_A a_split a_part f_many f_pickedFirst f_pickedSecond), (a_p2_leftIn, aI G 256 g_p2_leftIn), (a_p2_rightIn, aI G 256 g_p2_rightIn), (a_p2_sizes, aJ G 256 g_p2_sizes), (a_part, aI G 8 g_part), (a_split, aI G 256 g_split)] H locs → lv_has ls 4 [(0, .ref h0)] → A_mergeJoined_45 N f_p1_relations f_many f_pickedFirst f_pickedSecond g_p2_leftIn g_p2_rightIn g_p2_sizes g_part g_split = some res → W p l e (rmk 3) s m args below meth c H locs 0 0 Q (F0 m 45 ls []) := by
    intro f_many f_pickedFirst f_pickedSecond g_part g_split H locs ls wq hl hf
    obtain ⟨hP, hD, hS⟩ := wq
    refine lv_aload_n hx hb d_A_mergeJoined_45 rfl (lv_at hl 0 rfl) ?_
    refine va_get (D := G.1) (ci := 3) (v := .int f_many) (C := n_A) (T := T_A) (N := 5) hx hb htl iw_A hown hK hP 2 rfl rfl 2 (by decide) (htl _ k_424) (fun _ h9 => h9) rfl d_A_mergeJoined_46 ?_
    cases hf
    exact hret 49 ls H locs hP hS d_A_mergeJoined_49
  have hJ10 : ∀ (f_many : Int32) (f_pickedFirst : Int32) (f_pickedSecond : Int32) (g_part : Nat → Int32) (g_split : Nat → Int32) (x3 : Int32) (H : Heap) (locs : List Loc) (ls : Array Slot), PDS G.1 classes A s [(a_p1, O_G f_p1_relations f_p1_edges f_p1_limit a_p1_rows a_p1_left a_p1_right a_p1_by), (a_p2, O_S f_p2_known f_p2_paired f_p2_cappedInAll f_p2_connectedInAll f_p2_pairsInAll a_p2_sizes a_p2_capped a_p2_connected f_p2_end a_p2_leftIn a_p2_rightIn a_p2_pairs), (h0, O_A a_split a_part f_many f_pickedFirst f_pickedSecond), (a_p2_leftIn, aI G 256 g_p2_leftIn), (a_p2_rightIn, aI G 256 g_p2_rightIn), (a_p2_sizes, aJ G 256 g_p2_sizes), (a_part, aI G 8 g_part), (a_split, aI G 256 g_split)] H locs → lv_has ls 4 [(0, .ref h0), (2, .ref a_p2), (3, .int x3)] → A_mergeJoined_10 N f_p1_relations f_many f_pickedFirst f_pickedSecond g_p2_leftIn g_p2_rightIn g_p2_sizes g_part g_split x3 = some res → W p l e (rmk 3) s m args below meth c H locs 0 0 Q (F0 m 10 ls []) := by
    intro f_many f_pickedFirst f_pickedSecond g_part g_split x3 H locs ls wq hl hf
    obtain ⟨hP, hD, hS⟩ := wq
    obtain ⟨y10, hy10, hfo10⟩ := db_e hf
    have hL10 : ∀ (n : Nat) (f_many : Int32) (f_pickedFirst : Int32) (f_pickedSecond : Int32) (g_part : Nat → Int32) (g_split : Nat → Int32) (x3 : Int32) (H : Heap) (locs : List Loc) (ls : Array Slot), lp (fun x => A_mergeJoined_b10 N f_p1_relations x.1 x.2.1 x.2.2.1 g_p2_leftIn g_p2_rightIn g_p2_sizes x.2.2.2.1 x.2.2.2.2.1 x.2.2.2.2.2) n (f_many, f_pickedFirst, f_pickedSecond, g_part, g_split, x3) = some y10 → PDS G.1 classes A s [(a_p1, O_G f_p1_relations f_p1_edges f_p1_limit a_p1_rows a_p1_left a_p1_right a_p1_by), (a_p2, O_S f_p2_known f_p2_paired f_p2_cappedInAll f_p2_connectedInAll f_p2_pairsInAll a_p2_sizes a_p2_capped a_p2_connected f_p2_end a_p2_leftIn a_p2_rightIn a_p2_pairs), (h0, O_A a_split a_part f_many f_pickedFirst f_pickedSecond), (a_p2_leftIn, aI G 256 g_p2_leftIn), (a_p2_rightIn, aI G 256 g_p2_rightIn), (a_p2_sizes, aJ G 256 g_p2_sizes), (a_part, aI G 8 g_part), (a_split, aI G 256 g_split)] H locs → lv_has ls 4 [(0, .ref h0), (2, .ref a_p2), (3, .int x3)] → W p l e (rmk 3) s m args below meth c H locs 0 0 Q (F0 m 10 ls []) := by
      intro n
      induction n with
      | zero =>
        intro f_many f_pickedFirst f_pickedSecond g_part g_split x3 H locs ls hf
        exact lp_0 hf
      | succ n ih10 =>
        intro f_many f_pickedFirst f_pickedSecond g_part g_split x3 H locs ls hf wq hl
        obtain ⟨hP, hD, hS⟩ := wq
        obtain ⟨r10, hf, hk10⟩ := lp_s hf
        have hf : A_mergeJoined_b10 N f_p1_relations f_many f_pickedFirst f_pickedSecond g_p2_leftIn g_p2_rightIn g_p2_sizes g_part g_split x3 = some r10 := hf
        refine lv_iload_n hx hb d_A_mergeJoined_10 rfl (lv_at hl 2 rfl) ?_
        refine lv_iconst (v := (1 : Int32)) hx hb d_A_mergeJoined_11 (by decide) ?_
        refine lv_icmp_le (tgt := 60) hx hb d_A_mergeJoined_12 (by decide) (fun c3 => ?_) (fun c3 => ?_)
        · have hf := di_t c3 hf
          have hq10 := lpk_x hf hk10
          have hf := ex_y (f := fun y => A_mergeJoined_a10 N f_p1_relations g_p2_leftIn g_p2_rightIn g_p2_sizes y) hq10 hfo10
          have hf : A_mergeJoined_60 N f_p1_relations f_many f_pickedFirst f_pickedSecond g_p2_leftIn g_p2_rightIn g_p2_sizes g_part g_split = some res := hf
          exact hJ60 f_many f_pickedFirst f_pickedSecond g_part g_split H locs ls ⟨hP, hD, hS⟩ (lv_sub hl [0] rfl) hf
        · have hf := di_f c3 hf
          refine lv_aload_n hx hb d_A_mergeJoined_15 rfl (lv_at hl 0 rfl) ?_
          refine lv_aload_n hx hb d_A_mergeJoined_16 rfl (lv_at hl 1 rfl) ?_
          obtain ⟨t4, hv5, hf⟩ := db_e hf
          refine call_v (isC := [1, 2, 3, 4, 5, 6]) (run_V (As := [.ref a_p2]) (rest := []) (ci := 3) (q0 := 2) hx hb hml hown htl (c_A_pick l G Y  h0 a_p2 a_p2_sizes a_p2_capped a_p2_connected a_p2_leftIn a_p2_rightIn a_p2_pairs a_split a_part f_p2_known f_p2_paired f_p2_cappedInAll f_p2_connectedInAll f_p2_pairsInAll f_p2_end f_many f_pickedFirst f_pickedSecond g_p2_leftIn g_p2_rightIn g_p2_sizes g_part N t4 hv5) mv_A_pick k_930 (hRk (by decide) (by decide)) hK hsk hS hP hD (isC := [1, 2, 3, 4, 5, 6]) rfl (by decide) rfl rfl rfl hl.1 rfl (lv_room (Nat.le_of_ble_eq_true rfl)) d_A_mergeJoined_17) hP hD hS rfl rfl (fun H locs hP hD hS => ?_)
          have hP : va_P G.1 classes [(a_p1, O_G f_p1_relations f_p1_edges f_p1_limit a_p1_rows a_p1_left a_p1_right a_p1_by), (a_p2, O_S f_p2_known f_p2_paired f_p2_cappedInAll f_p2_connectedInAll f_p2_pairsInAll a_p2_sizes a_p2_capped a_p2_connected f_p2_end a_p2_leftIn a_p2_rightIn a_p2_pairs), (h0, O_A a_split a_part f_many t4.1 t4.2), (a_p2_leftIn, aI G 256 g_p2_leftIn), (a_p2_rightIn, aI G 256 g_p2_rightIn), (a_p2_sizes, aJ G 256 g_p2_sizes), (a_part, aI G 8 g_part), (a_split, aI G 256 g_split)] H := hP
          have hD : va_D A [(a_p1, O_G f_p1_relations f_p1_edges f_p1_limit a_p1_rows a_p1_left a_p1_right a_p1_by), (a_p2, O_S f_p2_known f_p2_paired f_p2_cappedInAll f_p2_connectedInAll f_p2_pairsInAll a_p2_sizes a_p2_capped a_p2_connected f_p2_end a_p2_leftIn a_p2_rightIn a_p2_pairs), (h0, O_A a_split a_part f_many t4.1 t4.2), (a_p2_leftIn, aI G 256 g_p2_leftIn), (a_p2_rightIn, aI G 256 g_p2_rightIn), (a_p2_sizes, aJ G 256 g_p2_sizes), (a_part, aI G 8 g_part), (a_split, aI G 256 g_split)] := hD
          refine lv_aload_n hx hb d_A_mergeJoined_20 rfl (lv_at hl 1 rfl) ?_
          refine lv_aload_n hx hb d_A_mergeJoined_21 rfl (lv_at hl 0 rfl) ?_
          refine va_get (D := G.1) (ci := 3) (v := .ref a_part) (C := n_A) (T := T_A) (N := 5) hx hb htl iw_A hown hK hP 2 rfl rfl 1 (by decide) (htl _ k_423) (fun _ h9 => h9) rfl d_A_mergeJoined_22 ?_
          refine lv_aload_n hx hb d_A_mergeJoined_25 rfl (lv_at hl 0 rfl) ?_
          refine va_get (D := G.1) (ci := 3) (v := .int t4.1) (C := n_A) (T := T_A) (N := 5) hx hb htl iw_A hown hK hP 2 rfl rfl 3 (by decide) (htl _ k_425) (fun _ h9 => h9) rfl d_A_mergeJoined_26 ?_
          obtain ⟨c6, hf⟩ := dk_e hf
          refine va_iald hx hb hK hP 6 1 rfl rfl c6 d_A_mergeJoined_29 ?_
          refine lv_aload_n hx hb d_A_mergeJoined_30 rfl (lv_at hl 0 rfl) ?_
          refine va_get (D := G.1) (ci := 3) (v := .ref a_part) (C := n_A) (T := T_A) (N := 5) hx hb htl iw_A hown hK hP 2 rfl rfl 1 (by decide) (htl _ k_423) (fun _ h9 => h9) rfl d_A_mergeJoined_31 ?_
          refine lv_aload_n hx hb d_A_mergeJoined_34 rfl (lv_at hl 0 rfl) ?_
          refine va_get (D := G.1) (ci := 3) (v := .int t4.2) (C := n_A) (T := T_A) (N := 5) hx hb htl iw_A hown hK hP 2 rfl rfl 4 (by decide) (htl _ k_426) (fun _ h9 => h9) rfl d_A_mergeJoined_35 ?_
          obtain ⟨c7, hf⟩ := dk_e hf
          refine va_iald hx hb hK hP 6 1 rfl rfl c7 d_A_mergeJoined_38 ?_
          obtain ⟨t8, hv9, hf⟩ := db_e hf
          refine call_i (isC := [1, 3, 4]) (run_V (As := [.int (g_part t4.1.toNatClampNeg), .int (g_part t4.2.toNatClampNeg)]) (rest := []) (ci := 8) (q0 := 1) hx hb hml hown htl (c_S_areJoined l G Y  a_p2 a_p2_sizes a_p2_capped a_p2_connected a_p2_leftIn a_p2_rightIn a_p2_pairs f_p2_known f_p2_paired f_p2_cappedInAll f_p2_connectedInAll f_p2_pairsInAll f_p2_end g_p2_leftIn g_p2_rightIn (g_part t4.1.toNatClampNeg) (g_part t4.2.toNatClampNeg) t8 hv9) mv_S_areJoined k_938 (hRk (by decide) (by decide)) hK hsk hS hP hD (isC := [1, 3, 4]) rfl (by decide) rfl rfl rfl hl.1 rfl (lv_room (Nat.le_of_ble_eq_true rfl)) d_A_mergeJoined_39) hP hD hS rfl rfl (fun H locs hP hD hS => ?_)
          have hP : va_P G.1 classes [(a_p1, O_G f_p1_relations f_p1_edges f_p1_limit a_p1_rows a_p1_left a_p1_right a_p1_by), (a_p2, O_S f_p2_known f_p2_paired f_p2_cappedInAll f_p2_connectedInAll f_p2_pairsInAll a_p2_sizes a_p2_capped a_p2_connected f_p2_end a_p2_leftIn a_p2_rightIn a_p2_pairs), (h0, O_A a_split a_part f_many t4.1 t4.2), (a_p2_leftIn, aI G 256 g_p2_leftIn), (a_p2_rightIn, aI G 256 g_p2_rightIn), (a_p2_sizes, aJ G 256 g_p2_sizes), (a_part, aI G 8 g_part), (a_split, aI G 256 g_split)] H := hP
          have hD : va_D A [(a_p1, O_G f_p1_relations f_p1_edges f_p1_limit a_p1_rows a_p1_left a_p1_right a_p1_by), (a_p2, O_S f_p2_known f_p2_paired f_p2_cappedInAll f_p2_connectedInAll f_p2_pairsInAll a_p2_sizes a_p2_capped a_p2_connected f_p2_end a_p2_leftIn a_p2_rightIn a_p2_pairs), (h0, O_A a_split a_part f_many t4.1 t4.2), (a_p2_leftIn, aI G 256 g_p2_leftIn), (a_p2_rightIn, aI G 256 g_p2_rightIn), (a_p2_sizes, aJ G 256 g_p2_sizes), (a_part, aI G 8 g_part), (a_split, aI G 256 g_split)] := hD
          refine lv_if_ne (tgt := 50) hx hb d_A_mergeJoined_42 (by decide) (fun c10 => ?_) (fun c10 => ?_)
          · have hf := di_f c10 hf
            refine lv_aload_n hx hb d_A_mergeJoined_50 rfl (lv_at hl 0 rfl) ?_
            obtain ⟨t11, hv12, hf⟩ := db_e hf
            refine call_v (isC := [2, 6, 7]) (run_V (As := []) (rest := []) (ci := 3) (q0 := 2) hx hb hml hown htl (c_A_mergePicked l G Y  h0 a_split a_part f_many t4.1 t4.2 g_part g_split t11 hv12) mv_A_mergePicked k_939 (hRk (by decide) (by decide)) hK hsk hS hP hD (isC := [2, 6, 7]) rfl (by decide) rfl rfl rfl hl.1 rfl (lv_room (Nat.le_of_ble_eq_true rfl)) d_A_mergeJoined_51) hP hD hS rfl rfl (fun H locs hP hD hS => ?_)
            have hP : va_P G.1 classes [(a_p1, O_G f_p1_relations f_p1_edges f_p1_limit a_p1_rows a_p1_left a_p1_right a_p1_by), (a_p2, O_S f_p2_known f_p2_paired f_p2_cappedInAll f_p2_connectedInAll f_p2_pairsInAll a_p2_sizes a_p2_capped a_p2_connected f_p2_end a_p2_leftIn a_p2_rightIn a_p2_pairs), (h0, O_A a_split a_part t11.1 t4.1 t4.2), (a_p2_leftIn, aI G 256 g_p2_leftIn), (a_p2_rightIn, aI G 256 g_p2_rightIn), (a_p2_sizes, aJ G 256 g_p2_sizes), (a_part, aI G 8 t11.2.1), (a_split, aI G 256 t11.2.2)] H := hP
            have hD : va_D A [(a_p1, O_G f_p1_relations f_p1_edges f_p1_limit a_p1_rows a_p1_left a_p1_right a_p1_by), (a_p2, O_S f_p2_known f_p2_paired f_p2_cappedInAll f_p2_connectedInAll f_p2_pairsInAll a_p2_sizes a_p2_capped a_p2_connected f_p2_end a_p2_leftIn a_p2_rightIn a_p2_pairs), (h0, O_A a_split a_part t11.1 t4.1 t4.2), (a_p2_leftIn, aI G 256 g_p2_leftIn), (a_p2_rightIn, aI G 256 g_p2_rightIn), (a_p2_sizes, aJ G 256 g_p2_sizes), (a_part, aI G 8 t11.2.1), (a_split, aI G 256 t11.2.2)] := hD
            obtain ⟨v13, ev13⟩ : ∃ z : Int32, z = x3 + (-1 : Int32) := ⟨_, rfl⟩
            have hf := dn_e ev13 hf
            refine lv_iinc (v := v13) (lv' := [(3, .int v13), (0, .ref h0), (2, .ref a_p2)]) hx hb d_A_mergeJoined_54 hl (k := 2) rfl (by rw [ev13]; rfl) (by decide) rfl (fun ls hl => ?_)
            refine lv_goto (tgt := 10) hx hb d_A_mergeJoined_57 (by decide) ?_
            exact ih10 t11.1 t4.1 t4.2 t11.2.1 t11.2.2 v13 H locs ls (lpk_i hf hk10) ⟨hP, hD, hS⟩ (lv_sub hl [1, 2, 0] rfl)
          · have hf := di_t c10 hf
            have hq10 := lpk_x hf hk10
            have hf := ex_y (f := fun y => A_mergeJoined_a10 N f_p1_relations g_p2_leftIn g_p2_rightIn g_p2_sizes y) hq10 hfo10
            have hf : A_mergeJoined_45 N f_p1_relations f_many t4.1 t4.2 g_p2_leftIn g_p2_rightIn g_p2_sizes g_part g_split = some res := hf
            exact hJ45 f_many t4.1 t4.2 g_part g_split H locs ls ⟨hP, hD, hS⟩ (lv_sub hl [0] rfl) hf
    exact hL10 N f_many f_pickedFirst f_pickedSecond g_part g_split x3 H locs ls hy10 ⟨hP, hD, hS⟩ hl
  refine lv_aload_n hx hb d_A_mergeJoined_0 rfl (lv_at hl 0 rfl) ?_
  refine lv_aload_n hx hb d_A_mergeJoined_1 rfl (lv_at hl 1 rfl) ?_
  obtain ⟨t1, hv2, hf⟩ := db_e hf
  refine call_v (isC := [0, 2, 6]) (run_V (As := [.ref a_p1]) (rest := []) (ci := 3) (q0 := 2) hx hb hml hown htl (c_A_begin l G Y  h0 a_p1 a_p1_rows a_p1_left a_p1_right a_p1_by a_split a_part f_p1_relations f_p1_edges f_p1_limit f_many f_pickedFirst f_pickedSecond g_part N t1 hv2) mv_A_begin k_926 (hRk (by decide) (by decide)) hK hsk hS hP hD (isC := [0, 2, 6]) rfl (by decide) rfl rfl rfl hl.1 rfl (lv_room (Nat.le_of_ble_eq_true rfl)) d_A_mergeJoined_2) hP hD hS rfl rfl (fun H locs hP hD hS => ?_)
  have hP : va_P G.1 classes [(a_p1, O_G f_p1_relations f_p1_edges f_p1_limit a_p1_rows a_p1_left a_p1_right a_p1_by), (a_p2, O_S f_p2_known f_p2_paired f_p2_cappedInAll f_p2_connectedInAll f_p2_pairsInAll a_p2_sizes a_p2_capped a_p2_connected f_p2_end a_p2_leftIn a_p2_rightIn a_p2_pairs), (h0, O_A a_split a_part t1.1 f_pickedFirst f_pickedSecond), (a_p2_leftIn, aI G 256 g_p2_leftIn), (a_p2_rightIn, aI G 256 g_p2_rightIn), (a_p2_sizes, aJ G 256 g_p2_sizes), (a_part, aI G 8 t1.2), (a_split, aI G 256 g_split)] H := hP
  have hD : va_D A [(a_p1, O_G f_p1_relations f_p1_edges f_p1_limit a_p1_rows a_p1_left a_p1_right a_p1_by), (a_p2, O_S f_p2_known f_p2_paired f_p2_cappedInAll f_p2_connectedInAll f_p2_pairsInAll a_p2_sizes a_p2_capped a_p2_connected f_p2_end a_p2_leftIn a_p2_rightIn a_p2_pairs), (h0, O_A a_split a_part t1.1 f_pickedFirst f_pickedSecond), (a_p2_leftIn, aI G 256 g_p2_leftIn), (a_p2_rightIn, aI G 256 g_p2_rightIn), (a_p2_sizes, aJ G 256 g_p2_sizes), (a_part, aI G 8 t1.2), (a_split, aI G 256 g_split)] := hD
  refine lv_aload_n hx hb d_A_mergeJoined_5 rfl (lv_at hl 0 rfl) ?_
  refine va_get (D := G.1) (ci := 3) (v := .int t1.1) (C := n_A) (T := T_A) (N := 5) hx hb htl iw_A hown hK hP 2 rfl rfl 2 (by decide) (htl _ k_424) (fun _ h9 => h9) rfl d_A_mergeJoined_6 ?_
  refine lv_istore_n (lv' := [(3, .int t1.1), (0, .ref h0), (1, .ref a_p1), (2, .ref a_p2)]) hx hb d_A_mergeJoined_9 rfl hl (by decide) rfl (fun ls hl => ?_)
  exact hJ10 t1.1 f_pickedFirst f_pickedSecond t1.2 g_split t1.1 H locs ls ⟨hP, hD, hS⟩ (lv_sub hl [1, 3, 0] rfl) hf
set_option maxHeartbeats 4000000 in
set_option maxRecDepth 100000 in
theorem c_P_isNone (l : Launch) (G : va_G × (Nat → ClassId)) (Y : (Nat → Nat) × (Nat → Nat)) (h0 : Nat) (a_set : Nat) (a_part : Nat) (f_root : Int32) (f_joins : Int32) (res : Int32) (hf : P_isNone f_root = res) : Ci l classes y_P_isNone b_P_isNone 1 (some .boolean) (rmk 0) G.1 (tyL G) Y [.ref h0] [(h0, O_P f_root f_joins a_set a_part)] [(h0, O_P f_root f_joins a_set a_part)] res := by
  refine entZ (by decide) (Nat.le_of_ble_eq_true rfl) ?_
  intro p e s m args below meth c ls A Q hx hb hml hown htl hK hsk wq hl hret
  obtain ⟨hP, hD, hS⟩ := wq
  have hl : lv_has ls 1 [(0, .ref h0)] := hl
  have hS : va_S A s.heap s.heap [] := hS
  obtain ⟨H, hH⟩ : ∃ H : Heap, H = s.heap := ⟨_, rfl⟩
  obtain ⟨locs, hlocs⟩ : ∃ z : List Loc, z = [] := ⟨_, rfl⟩
  rw [← hH] at hP
  replace hS : va_S A s.heap H locs := by rw [hH, hlocs]; exact hS
  suffices hgo : W p l e (rmk 0) s m args below meth c H locs 0 0 Q (F0 m 0 ls []) by rw [hH, hlocs] at hgo; exact hgo
  refine lv_aload_n hx hb d_P_isNone_0 rfl (lv_at hl 0 rfl) ?_
  refine va_get (D := G.1) (ci := 4) (v := .int f_root) (C := n_P) (T := T_P) (N := 4) hx hb htl iw_P hown hK hP 0 rfl rfl 0 (by decide) (htl _ k_184) (fun _ h9 => h9) rfl d_P_isNone_1 ?_
  refine lv_if_ne (tgt := 11) hx hb d_P_isNone_4 (by decide) (fun c1 => ?_) (fun c1 => ?_)
  · have hf := di_f c1 hf
    refine lv_iconst (v := (0 : Int32)) hx hb d_P_isNone_11 (by decide) ?_
    cases hf
    exact hret 12 ls H locs z_0 hP hS d_P_isNone_12
  · have hf := di_t c1 hf
    refine lv_iconst (v := (1 : Int32)) hx hb d_P_isNone_7 (by decide) ?_
    refine lv_goto (tgt := 12) hx hb d_P_isNone_8 (by decide) ?_
    cases hf
    exact hret 12 ls H locs z_1 hP hS d_P_isNone_12
set_option maxHeartbeats 4000000 in
set_option maxRecDepth 100000 in
theorem c_P_clear (l : Launch) (G : va_G × (Nat → ClassId)) (Y : (Nat → Nat) × (Nat → Nat)) (h0 : Nat) (a_set : Nat) (a_part : Nat) (f_root : Int32) (f_joins : Int32) (res : Int32 × Int32) (hf : P_clear f_root f_joins = some res) : Cv l classes y_P_clear b_P_clear 1 none (rmk 0) G.1 (tyL G) Y [.ref h0] [(h0, O_P f_root f_joins a_set a_part)] [(h0, O_P res.1 res.2 a_set a_part)] := by
  refine entV (by decide) (Nat.le_of_ble_eq_true rfl) ?_
  intro p e s m args below meth c ls A Q hx hb hml hown htl hK hsk wq hl hret
  obtain ⟨hP, hD, hS⟩ := wq
  have hl : lv_has ls 1 [(0, .ref h0)] := hl
  have hS : va_S A s.heap s.heap [] := hS
  obtain ⟨H, hH⟩ : ∃ H : Heap, H = s.heap := ⟨_, rfl⟩
  obtain ⟨locs, hlocs⟩ : ∃ z : List Loc, z = [] := ⟨_, rfl⟩
  rw [← hH] at hP
  replace hS : va_S A s.heap H locs := by rw [hH, hlocs]; exact hS
  suffices hgo : W p l e (rmk 0) s m args below meth c H locs 0 0 Q (F0 m 0 ls []) by rw [hH, hlocs] at hgo; exact hgo
  refine lv_aload_n hx hb d_P_clear_0 rfl (lv_at hl 0 rfl) ?_
  refine lv_iconst (v := (0 : Int32)) hx hb d_P_clear_1 (by decide) ?_
  refine va_put (D := G.1) (ci := 4) (v := .int (0 : Int32)) (ty := .int) (C := n_P) (T := T_P) (N := 4) hx hb htl iw_P ty_P ty_P_ok nm_P hown hK hP hD hS 0 rfl rfl 0 (by decide) (htl _ k_184) (fun _ h9 => h9) rfl (by decide +kernel) rfl rfl (Nat.le_of_ble_eq_true rfl) d_P_clear_2 (fun H locs hP hD hS => ?_)
  have hP : va_P G.1 classes [(h0, O_P (0 : Int32) f_joins a_set a_part)] H := hP
  have hD : va_D A [(h0, O_P (0 : Int32) f_joins a_set a_part)] := hD
  refine lv_aload_n hx hb d_P_clear_5 rfl (lv_at hl 0 rfl) ?_
  refine lv_iconst (v := (0 : Int32)) hx hb d_P_clear_6 (by decide) ?_
  refine va_put (D := G.1) (ci := 4) (v := .int (0 : Int32)) (ty := .int) (C := n_P) (T := T_P) (N := 4) hx hb htl iw_P ty_P ty_P_ok nm_P hown hK hP hD hS 0 rfl rfl 1 (by decide) (htl _ k_188) (fun _ h9 => h9) rfl (by decide +kernel) rfl rfl (Nat.le_of_ble_eq_true rfl) d_P_clear_7 (fun H locs hP hD hS => ?_)
  have hP : va_P G.1 classes [(h0, O_P (0 : Int32) (0 : Int32) a_set a_part)] H := hP
  have hD : va_D A [(h0, O_P (0 : Int32) (0 : Int32) a_set a_part)] := hD
  cases hf
  exact hret 10 ls H locs hP hS d_P_clear_10
set_option maxHeartbeats 4000000 in
set_option maxRecDepth 100000 in
theorem c_P_copy (l : Launch) (G : va_G × (Nat → ClassId)) (Y : (Nat → Nat) × (Nat → Nat)) (h0 : Nat) (a_p1 : Nat) (a_p1_set : Nat) (a_p1_part : Nat) (a_set : Nat) (a_part : Nat) (f_p1_root : Int32) (f_p1_joins : Int32) (f_root : Int32) (f_joins : Int32) (g_p1_part : Nat → Int32) (g_p1_set : Nat → Int32) (g_part : Nat → Int32) (g_set : Nat → Int32) (res : Int32 × Int32 × (Nat → Int32) × (Nat → Int32)) (hf : P_copy f_p1_root f_p1_joins f_root f_joins g_p1_part g_p1_set g_part g_set = some res) : Cv l classes y_P_copy b_P_copy 2 none (rmk 1) G.1 (tyL G) Y [.ref h0, .ref a_p1] [(a_p1, O_P f_p1_root f_p1_joins a_p1_set a_p1_part), (h0, O_P f_root f_joins a_set a_part), (a_p1_part, aI G 7 g_p1_part), (a_p1_set, aI G 7 g_p1_set), (a_part, aI G 7 g_part), (a_set, aI G 7 g_set)] [(a_p1, O_P f_p1_root f_p1_joins a_p1_set a_p1_part), (h0, O_P res.1 res.2.1 a_set a_part), (a_p1_part, aI G 7 g_p1_part), (a_p1_set, aI G 7 g_p1_set), (a_part, aI G 7 res.2.2.1), (a_set, aI G 7 res.2.2.2)] := by
  refine entV (by decide) (Nat.le_of_ble_eq_true rfl) ?_
  intro p e s m args below meth c ls A Q hx hb hml hown htl hK hsk wq hl hret
  obtain ⟨hP, hD, hS⟩ := wq
  have hl : lv_has ls 2 [(0, .ref h0), (1, .ref a_p1)] := hl
  have hS : va_S A s.heap s.heap [] := hS
  obtain ⟨H, hH⟩ : ∃ H : Heap, H = s.heap := ⟨_, rfl⟩
  obtain ⟨locs, hlocs⟩ : ∃ z : List Loc, z = [] := ⟨_, rfl⟩
  rw [← hH] at hP
  replace hS : va_S A s.heap H locs := by rw [hH, hlocs]; exact hS
  suffices hgo : W p l e (rmk 1) s m args below meth c H locs 0 0 Q (F0 m 0 ls []) by rw [hH, hlocs] at hgo; exact hgo
  refine lv_aload_n hx hb d_P_copy_0 rfl (lv_at hl 0 rfl) ?_
  refine lv_aload_n hx hb d_P_copy_1 rfl (lv_at hl 1 rfl) ?_
  refine va_get (D := G.1) (ci := 4) (v := .int f_p1_root) (C := n_P) (T := T_P) (N := 4) hx hb htl iw_P hown hK hP 0 rfl rfl 0 (by decide) (htl _ k_184) (fun _ h9 => h9) rfl d_P_copy_2 ?_
  refine va_put (D := G.1) (ci := 4) (v := .int f_p1_root) (ty := .int) (C := n_P) (T := T_P) (N := 4) hx hb htl iw_P ty_P ty_P_ok nm_P hown hK hP hD hS 1 rfl rfl 0 (by decide) (htl _ k_184) (fun _ h9 => h9) rfl (by decide +kernel) rfl rfl (Nat.le_of_ble_eq_true rfl) d_P_copy_5 (fun H locs hP hD hS => ?_)
  have hP : va_P G.1 classes [(a_p1, O_P f_p1_root f_p1_joins a_p1_set a_p1_part), (h0, O_P f_p1_root f_joins a_set a_part), (a_p1_part, aI G 7 g_p1_part), (a_p1_set, aI G 7 g_p1_set), (a_part, aI G 7 g_part), (a_set, aI G 7 g_set)] H := hP
  have hD : va_D A [(a_p1, O_P f_p1_root f_p1_joins a_p1_set a_p1_part), (h0, O_P f_p1_root f_joins a_set a_part), (a_p1_part, aI G 7 g_p1_part), (a_p1_set, aI G 7 g_p1_set), (a_part, aI G 7 g_part), (a_set, aI G 7 g_set)] := hD
  refine lv_aload_n hx hb d_P_copy_8 rfl (lv_at hl 0 rfl) ?_
  refine lv_aload_n hx hb d_P_copy_9 rfl (lv_at hl 1 rfl) ?_
  refine va_get (D := G.1) (ci := 4) (v := .int f_p1_joins) (C := n_P) (T := T_P) (N := 4) hx hb htl iw_P hown hK hP 0 rfl rfl 1 (by decide) (htl _ k_188) (fun _ h9 => h9) rfl d_P_copy_10 ?_
  refine va_put (D := G.1) (ci := 4) (v := .int f_p1_joins) (ty := .int) (C := n_P) (T := T_P) (N := 4) hx hb htl iw_P ty_P ty_P_ok nm_P hown hK hP hD hS 1 rfl rfl 1 (by decide) (htl _ k_188) (fun _ h9 => h9) rfl (by decide +kernel) rfl rfl (Nat.le_of_ble_eq_true rfl) d_P_copy_13 (fun H locs hP hD hS => ?_)
  have hP : va_P G.1 classes [(a_p1, O_P f_p1_root f_p1_joins a_p1_set a_p1_part), (h0, O_P f_p1_root f_p1_joins a_set a_part), (a_p1_part, aI G 7 g_p1_part), (a_p1_set, aI G 7 g_p1_set), (a_part, aI G 7 g_part), (a_set, aI G 7 g_set)] H := hP
  have hD : va_D A [(a_p1, O_P f_p1_root f_p1_joins a_p1_set a_p1_part), (h0, O_P f_p1_root f_p1_joins a_set a_part), (a_p1_part, aI G 7 g_p1_part), (a_p1_set, aI G 7 g_p1_set), (a_part, aI G 7 g_part), (a_set, aI G 7 g_set)] := hD
  refine lv_aload_n hx hb d_P_copy_16 rfl (lv_at hl 1 rfl) ?_
  refine va_get (D := G.1) (ci := 4) (v := .ref a_p1_set) (C := n_P) (T := T_P) (N := 4) hx hb htl iw_P hown hK hP 0 rfl rfl 2 (by decide) (htl _ k_191) (fun _ h9 => h9) rfl d_P_copy_17 ?_
  refine lv_iconst (v := (0 : Int32)) hx hb d_P_copy_20 (by decide) ?_
  refine lv_aload_n hx hb d_P_copy_21 rfl (lv_at hl 0 rfl) ?_
  refine va_get (D := G.1) (ci := 4) (v := .ref a_set) (C := n_P) (T := T_P) (N := 4) hx hb htl iw_P hown hK hP 1 rfl rfl 2 (by decide) (htl _ k_191) (fun _ h9 => h9) rfl d_P_copy_22 ?_
  refine lv_iconst (v := (0 : Int32)) hx hb d_P_copy_25 (by decide) ?_
  refine lv_bipush (v := (7 : Int32)) hx hb d_P_copy_26 (by decide) ?_
  refine nx_copy hx hb (hml.trans hl.1.symm) hown (htl _ k_747) (htl _ k_725) (htl _ k_724) (htl _ k_110) hK hP hD hS 3 5 1 1 rfl rfl rfl rfl rfl (by decide) (by decide) (by decide) (by decide) (by decide) (fun _ _ => rfl) (Nat.le_of_ble_eq_true rfl) (Nat.le_of_ble_eq_true rfl) d_P_copy_28 (fun v1 ev1 H locs hP hD hS => ?_)
  have hf := dn_e ev1 hf
  have hP : va_P G.1 classes [(a_p1, O_P f_p1_root f_p1_joins a_p1_set a_p1_part), (h0, O_P f_p1_root f_p1_joins a_set a_part), (a_p1_part, aI G 7 g_p1_part), (a_p1_set, aI G 7 g_p1_set), (a_part, aI G 7 g_part), (a_set, aI G 7 v1)] H := hP
  have hD : va_D A [(a_p1, O_P f_p1_root f_p1_joins a_p1_set a_p1_part), (h0, O_P f_p1_root f_p1_joins a_set a_part), (a_p1_part, aI G 7 g_p1_part), (a_p1_set, aI G 7 g_p1_set), (a_part, aI G 7 g_part), (a_set, aI G 7 v1)] := hD
  refine lv_aload_n hx hb d_P_copy_31 rfl (lv_at hl 1 rfl) ?_
  refine va_get (D := G.1) (ci := 4) (v := .ref a_p1_part) (C := n_P) (T := T_P) (N := 4) hx hb htl iw_P hown hK hP 0 rfl rfl 3 (by decide) (htl _ k_195) (fun _ h9 => h9) rfl d_P_copy_32 ?_
  refine lv_iconst (v := (0 : Int32)) hx hb d_P_copy_35 (by decide) ?_
  refine lv_aload_n hx hb d_P_copy_36 rfl (lv_at hl 0 rfl) ?_
  refine va_get (D := G.1) (ci := 4) (v := .ref a_part) (C := n_P) (T := T_P) (N := 4) hx hb htl iw_P hown hK hP 1 rfl rfl 3 (by decide) (htl _ k_195) (fun _ h9 => h9) rfl d_P_copy_37 ?_
  refine lv_iconst (v := (0 : Int32)) hx hb d_P_copy_40 (by decide) ?_
  refine lv_bipush (v := (7 : Int32)) hx hb d_P_copy_41 (by decide) ?_
  refine nx_copy hx hb (hml.trans hl.1.symm) hown (htl _ k_747) (htl _ k_725) (htl _ k_724) (htl _ k_110) hK hP hD hS 2 4 1 1 rfl rfl rfl rfl rfl (by decide) (by decide) (by decide) (by decide) (by decide) (fun _ _ => rfl) (Nat.le_of_ble_eq_true rfl) (Nat.le_of_ble_eq_true rfl) d_P_copy_43 (fun v2 ev2 H locs hP hD hS => ?_)
  have hf := dn_e ev2 hf
  have hP : va_P G.1 classes [(a_p1, O_P f_p1_root f_p1_joins a_p1_set a_p1_part), (h0, O_P f_p1_root f_p1_joins a_set a_part), (a_p1_part, aI G 7 g_p1_part), (a_p1_set, aI G 7 g_p1_set), (a_part, aI G 7 v2), (a_set, aI G 7 v1)] H := hP
  have hD : va_D A [(a_p1, O_P f_p1_root f_p1_joins a_p1_set a_p1_part), (h0, O_P f_p1_root f_p1_joins a_set a_part), (a_p1_part, aI G 7 g_p1_part), (a_p1_set, aI G 7 g_p1_set), (a_part, aI G 7 v2), (a_set, aI G 7 v1)] := hD
  cases hf
  exact hret 46 ls H locs hP hS d_P_copy_46
set_option maxHeartbeats 4000000 in
set_option maxRecDepth 100000 in
theorem c_P_partOf (l : Launch) (G : va_G × (Nat → ClassId)) (Y : (Nat → Nat) × (Nat → Nat)) (h0 : Nat) (a_set : Nat) (a_part : Nat) (f_root : Int32) (f_joins : Int32) (g_part : Nat → Int32) (g_set : Nat → Int32) (x1 : Int32) (N : Nat) (res : Int32) (hf : P_partOf N f_joins g_part g_set x1 = some res) : Ci l classes y_P_partOf b_P_partOf 3 (some .int) (rmk 0) G.1 (tyL G) Y [.ref h0, .int x1] [(h0, O_P f_root f_joins a_set a_part), (a_part, aI G 7 g_part), (a_set, aI G 7 g_set)] [(h0, O_P f_root f_joins a_set a_part), (a_part, aI G 7 g_part), (a_set, aI G 7 g_set)] res := by
  refine entI (by decide) (Nat.le_of_ble_eq_true rfl) ?_
  intro p e s m args below meth c ls A Q hx hb hml hown htl hK hsk wq hl hret
  obtain ⟨hP, hD, hS⟩ := wq
  have hl : lv_has ls 3 [(0, .ref h0), (1, .int x1)] := hl
  have hS : va_S A s.heap s.heap [] := hS
  obtain ⟨H, hH⟩ : ∃ H : Heap, H = s.heap := ⟨_, rfl⟩
  obtain ⟨locs, hlocs⟩ : ∃ z : List Loc, z = [] := ⟨_, rfl⟩
  rw [← hH] at hP
  replace hS : va_S A s.heap H locs := by rw [hH, hlocs]; exact hS
  suffices hgo : W p l e (rmk 0) s m args below meth c H locs 0 0 Q (F0 m 0 ls []) by rw [hH, hlocs] at hgo; exact hgo
  have hJ33 : ∀ (H : Heap) (locs : List Loc) (ls : Array Slot), PDS G.1 classes A s [(h0, O_P f_root f_joins a_set a_part), (a_part, aI G 7 g_part), (a_set, aI G 7 g_set)] H locs → lv_has ls 3 [] → P_partOf_33 N f_joins g_part g_set = some res → W p l e (rmk 0) s m args below meth c H locs 0 0 Q (F0 m 33 ls []) := by
    intro H locs ls wq hl hf
    obtain ⟨hP, hD, hS⟩ := wq
    refine lv_iconst (v := (0 : Int32)) hx hb d_P_partOf_33 (by decide) ?_
    cases hf
    exact hret 34 ls H locs hP hS d_P_partOf_34
  have hJ20 : ∀ (x2 : Int32) (H : Heap) (locs : List Loc) (ls : Array Slot), PDS G.1 classes A s [(h0, O_P f_root f_joins a_set a_part), (a_part, aI G 7 g_part), (a_set, aI G 7 g_set)] H locs → lv_has ls 3 [(0, .ref h0), (2, .int x2)] → P_partOf_20 N f_joins g_part g_set x2 = some res → W p l e (rmk 0) s m args below meth c H locs 0 0 Q (F0 m 20 ls []) := by
    intro x2 H locs ls wq hl hf
    obtain ⟨hP, hD, hS⟩ := wq
    refine lv_aload_n hx hb d_P_partOf_20 rfl (lv_at hl 0 rfl) ?_
    refine va_get (D := G.1) (ci := 4) (v := .ref a_part) (C := n_P) (T := T_P) (N := 4) hx hb htl iw_P hown hK hP 0 rfl rfl 3 (by decide) (htl _ k_195) (fun _ h9 => h9) rfl d_P_partOf_21 ?_
    refine lv_iload_n hx hb d_P_partOf_24 rfl (lv_at hl 1 rfl) ?_
    obtain ⟨c5, hf⟩ := dk_e hf
    refine va_iald hx hb hK hP 1 1 rfl rfl c5 d_P_partOf_25 ?_
    cases hf
    exact hret 26 ls H locs hP hS d_P_partOf_26
  have hJ2 : ∀ (x2 : Int32) (H : Heap) (locs : List Loc) (ls : Array Slot), PDS G.1 classes A s [(h0, O_P f_root f_joins a_set a_part), (a_part, aI G 7 g_part), (a_set, aI G 7 g_set)] H locs → lv_has ls 3 [(0, .ref h0), (1, .int x1), (2, .int x2)] → P_partOf_2 N f_joins g_part g_set x1 x2 = some res → W p l e (rmk 0) s m args below meth c H locs 0 0 Q (F0 m 2 ls []) := by
    intro x2 H locs ls wq hl hf
    obtain ⟨hP, hD, hS⟩ := wq
    obtain ⟨y2, hy2, hfo2⟩ := db_e hf
    have hL2 : ∀ (n : Nat) (x2 : Int32) (H : Heap) (locs : List Loc) (ls : Array Slot), lp (fun x => P_partOf_b2 N f_joins g_part g_set x1 x) n x2 = some y2 → PDS G.1 classes A s [(h0, O_P f_root f_joins a_set a_part), (a_part, aI G 7 g_part), (a_set, aI G 7 g_set)] H locs → lv_has ls 3 [(0, .ref h0), (1, .int x1), (2, .int x2)] → W p l e (rmk 0) s m args below meth c H locs 0 0 Q (F0 m 2 ls []) := by
      intro n
      induction n with
      | zero =>
        intro x2 H locs ls hf
        exact lp_0 hf
      | succ n ih2 =>
        intro x2 H locs ls hf wq hl
        obtain ⟨hP, hD, hS⟩ := wq
        obtain ⟨r2, hf, hk2⟩ := lp_s hf
        have hf : P_partOf_b2 N f_joins g_part g_set x1 x2 = some r2 := hf
        refine lv_iload_n hx hb d_P_partOf_2 rfl (lv_at hl 2 rfl) ?_
        refine lv_aload_n hx hb d_P_partOf_3 rfl (lv_at hl 0 rfl) ?_
        refine va_get (D := G.1) (ci := 4) (v := .int f_joins) (C := n_P) (T := T_P) (N := 4) hx hb htl iw_P hown hK hP 0 rfl rfl 1 (by decide) (htl _ k_188) (fun _ h9 => h9) rfl d_P_partOf_4 ?_
        refine lv_icmp_ge (tgt := 33) hx hb d_P_partOf_7 (by decide) (fun c1 => ?_) (fun c1 => ?_)
        · have hf := di_t c1 hf
          have hq2 := lpk_x hf hk2
          have hf := ex_y (f := fun y => P_partOf_a2 N f_joins g_part g_set x1 y) hq2 hfo2
          have hf : P_partOf_33 N f_joins g_part g_set = some res := hf
          exact hJ33  H locs ls ⟨hP, hD, hS⟩ (lv_sub hl [] rfl) hf
        · have hf := di_f c1 hf
          refine lv_aload_n hx hb d_P_partOf_10 rfl (lv_at hl 0 rfl) ?_
          refine va_get (D := G.1) (ci := 4) (v := .ref a_set) (C := n_P) (T := T_P) (N := 4) hx hb htl iw_P hown hK hP 0 rfl rfl 2 (by decide) (htl _ k_191) (fun _ h9 => h9) rfl d_P_partOf_11 ?_
          refine lv_iload_n hx hb d_P_partOf_14 rfl (lv_at hl 2 rfl) ?_
          obtain ⟨c2, hf⟩ := dk_e hf
          refine va_iald hx hb hK hP 2 1 rfl rfl c2 d_P_partOf_15 ?_
          refine lv_iload_n hx hb d_P_partOf_16 rfl (lv_at hl 1 rfl) ?_
          refine lv_icmp_ne (tgt := 27) hx hb d_P_partOf_17 (by decide) (fun c3 => ?_) (fun c3 => ?_)
          · have hf := di_f c3 hf
            obtain ⟨v4, ev4⟩ : ∃ z : Int32, z = x2 + (1 : Int32) := ⟨_, rfl⟩
            have hf := dn_e ev4 hf
            refine lv_iinc (v := v4) (lv' := [(2, .int v4), (0, .ref h0), (1, .int x1)]) hx hb d_P_partOf_27 hl (k := 2) rfl (by rw [ev4]; rfl) (by decide) rfl (fun ls hl => ?_)
            refine lv_goto (tgt := 2) hx hb d_P_partOf_30 (by decide) ?_
            exact ih2 v4 H locs ls (lpk_i hf hk2) ⟨hP, hD, hS⟩ (lv_sub hl [1, 2, 0] rfl)
          · have hf := di_t c3 hf
            have hq2 := lpk_x hf hk2
            have hf := ex_y (f := fun y => P_partOf_a2 N f_joins g_part g_set x1 y) hq2 hfo2
            have hf : P_partOf_20 N f_joins g_part g_set x2 = some res := hf
            exact hJ20 x2 H locs ls ⟨hP, hD, hS⟩ (lv_sub hl [0, 2] rfl) hf
    exact hL2 N x2 H locs ls hy2 ⟨hP, hD, hS⟩ hl
  refine lv_iconst (v := (0 : Int32)) hx hb d_P_partOf_0 (by decide) ?_
  refine lv_istore_n (lv' := [(2, .int (0 : Int32)), (0, .ref h0), (1, .int x1)]) hx hb d_P_partOf_1 rfl hl (by decide) rfl (fun ls hl => ?_)
  exact hJ2 (0 : Int32) H locs ls ⟨hP, hD, hS⟩ (lv_sub hl [1, 2, 0] rfl) hf
set_option maxHeartbeats 4000000 in
set_option maxRecDepth 100000 in
theorem c_P_put (l : Launch) (G : va_G × (Nat → ClassId)) (Y : (Nat → Nat) × (Nat → Nat)) (a_p2 : Nat) (g_p2 : Nat → Int32) (x0 : Int32) (x2 : Int32) (res : Int32 × (Nat → Int32)) (hf : P_put g_p2 x0 x2 = some res) : Ci l classes y_P_put b_P_put 3 (some .int) (rmk 0) G.1 (tyL G) Y [.int x0, .ref a_p2, .int x2] [(a_p2, aI G 29 g_p2)] [(a_p2, aI G 29 res.2)] res.1 := by
  refine entI (by decide) (Nat.le_of_ble_eq_true rfl) ?_
  intro p e s m args below meth c ls A Q hx hb hml hown htl hK hsk wq hl hret
  obtain ⟨hP, hD, hS⟩ := wq
  have hl : lv_has ls 3 [(0, .int x0), (1, .ref a_p2), (2, .int x2)] := hl
  have hS : va_S A s.heap s.heap [] := hS
  obtain ⟨H, hH⟩ : ∃ H : Heap, H = s.heap := ⟨_, rfl⟩
  obtain ⟨locs, hlocs⟩ : ∃ z : List Loc, z = [] := ⟨_, rfl⟩
  rw [← hH] at hP
  replace hS : va_S A s.heap H locs := by rw [hH, hlocs]; exact hS
  suffices hgo : W p l e (rmk 0) s m args below meth c H locs 0 0 Q (F0 m 0 ls []) by rw [hH, hlocs] at hgo; exact hgo
  refine lv_iload_n hx hb d_P_put_0 rfl (lv_at hl 2 rfl) ?_
  refine lv_if_lt (tgt := 10) hx hb d_P_put_1 (by decide) (fun c1 => ?_) (fun c1 => ?_)
  · have hf := di_t c1 hf
    refine lv_iload_n hx hb d_P_put_10 rfl (lv_at hl 2 rfl) ?_
    cases hf
    exact hret 11 ls H locs hP hS d_P_put_11
  · have hf := di_f c1 hf
    refine lv_iload_n hx hb d_P_put_4 rfl (lv_at hl 2 rfl) ?_
    refine lv_aload_n hx hb d_P_put_5 rfl (lv_at hl 1 rfl) ?_
    refine va_alen hx hb hK hP 0 1 rfl (ty := .int) rfl (v := (29 : Int32)) rfl d_P_put_6 ?_
    refine lv_icmp_lt (tgt := 12) hx hb d_P_put_7 (by decide) (fun c2 => ?_) (fun c2 => ?_)
    · have hf := di_t c2 hf
      refine lv_aload_n hx hb d_P_put_12 rfl (lv_at hl 1 rfl) ?_
      refine lv_iload_n hx hb d_P_put_13 rfl (lv_at hl 2 rfl) ?_
      refine lv_iload_n hx hb d_P_put_14 rfl (lv_at hl 0 rfl) ?_
      obtain ⟨c3, hf⟩ := dk_e hf
      refine nx_iast hx hb hK hP hD hS 0 1 rfl rfl c3 d_P_put_15 (fun v4 ev4 H locs hP hD hS => ?_)
      have hf := dn_e ev4 hf
      have hP : va_P G.1 classes [(a_p2, aI G 29 v4)] H := hP
      have hD : va_D A [(a_p2, aI G 29 v4)] := hD
      refine lv_iload_n hx hb d_P_put_16 rfl (lv_at hl 2 rfl) ?_
      refine lv_iconst (v := (1 : Int32)) hx hb d_P_put_17 (by decide) ?_
      refine lv_iadd hx hb d_P_put_18 ?_
      cases hf
      exact hret 19 ls H locs hP hS d_P_put_19
    · have hf := di_f c2 hf
      refine lv_iload_n hx hb d_P_put_10 rfl (lv_at hl 2 rfl) ?_
      cases hf
      exact hret 11 ls H locs hP hS d_P_put_11
set_option maxHeartbeats 4000000 in
set_option maxRecDepth 100000 in
theorem c_L_whole (l : Launch) (G : va_G × (Nat → ClassId)) (Y : (Nat → Nat) × (Nat → Nat)) (h0 : Nat) (a_split : Nat) (a_within : Nat) (a_waiting : Nat) (f_fault : Int32) (f_place : Int32) (f_relations : Int32) (f_depth : Int32) (f_waitingMany : Int32) (f_taken : Int32) (g_waiting : Nat → Int32) (res : Int32) (hf : L_whole g_waiting = res) : Ci l classes y_L_whole b_L_whole 1 (some .int) (rmk 0) G.1 (tyL G) Y [.ref h0] [(h0, O_L f_fault f_place f_relations a_split a_within f_depth a_waiting f_waitingMany f_taken), (a_waiting, aI G 8 g_waiting)] [(h0, O_L f_fault f_place f_relations a_split a_within f_depth a_waiting f_waitingMany f_taken), (a_waiting, aI G 8 g_waiting)] res := by
  refine entI (by decide) (Nat.le_of_ble_eq_true rfl) ?_
  intro p e s m args below meth c ls A Q hx hb hml hown htl hK hsk wq hl hret
  obtain ⟨hP, hD, hS⟩ := wq
  have hl : lv_has ls 1 [(0, .ref h0)] := hl
  have hS : va_S A s.heap s.heap [] := hS
  obtain ⟨H, hH⟩ : ∃ H : Heap, H = s.heap := ⟨_, rfl⟩
  obtain ⟨locs, hlocs⟩ : ∃ z : List Loc, z = [] := ⟨_, rfl⟩
  rw [← hH] at hP
  replace hS : va_S A s.heap H locs := by rw [hH, hlocs]; exact hS
  suffices hgo : W p l e (rmk 0) s m args below meth c H locs 0 0 Q (F0 m 0 ls []) by rw [hH, hlocs] at hgo; exact hgo
  refine lv_aload_n hx hb d_L_whole_0 rfl (lv_at hl 0 rfl) ?_
  refine va_get (D := G.1) (ci := 5) (v := .ref a_waiting) (C := n_L) (T := T_L) (N := 9) hx hb htl iw_L hown hK hP 0 rfl rfl 6 (by decide) (htl _ k_316) (fun _ h9 => h9) rfl d_L_whole_1 ?_
  refine lv_iconst (v := (0 : Int32)) hx hb d_L_whole_4 (by decide) ?_
  refine va_iald hx hb hK hP 1 1 rfl rfl (vp_lit (by decide)) d_L_whole_5 ?_
  cases hf
  exact hret 6 ls H locs hP hS d_L_whole_6
set_option maxHeartbeats 4000000 in
set_option maxRecDepth 100000 in
theorem c_L_begin (l : Launch) (G : va_G × (Nat → ClassId)) (Y : (Nat → Nat) × (Nat → Nat)) (h0 : Nat) (a_split : Nat) (a_within : Nat) (a_waiting : Nat) (f_fault : Int32) (f_place : Int32) (f_relations : Int32) (f_depth : Int32) (f_waitingMany : Int32) (f_taken : Int32) (g_within : Nat → Int32) (res : Int32 × Int32 × Int32 × (Nat → Int32)) (hf : L_begin f_depth f_waitingMany f_taken g_within = some res) : Cv l classes y_L_begin b_L_begin 1 none (rmk 0) G.1 (tyL G) Y [.ref h0] [(h0, O_L f_fault f_place f_relations a_split a_within f_depth a_waiting f_waitingMany f_taken), (a_within, aI G 501 g_within)] [(h0, O_L f_fault f_place f_relations a_split a_within res.1 a_waiting res.2.1 res.2.2.1), (a_within, aI G 501 res.2.2.2)] := by
  refine entV (by decide) (Nat.le_of_ble_eq_true rfl) ?_
  intro p e s m args below meth c ls A Q hx hb hml hown htl hK hsk wq hl hret
  obtain ⟨hP, hD, hS⟩ := wq
  have hl : lv_has ls 1 [(0, .ref h0)] := hl
  have hS : va_S A s.heap s.heap [] := hS
  obtain ⟨H, hH⟩ : ∃ H : Heap, H = s.heap := ⟨_, rfl⟩
  obtain ⟨locs, hlocs⟩ : ∃ z : List Loc, z = [] := ⟨_, rfl⟩
  rw [← hH] at hP
  replace hS : va_S A s.heap H locs := by rw [hH, hlocs]; exact hS
  suffices hgo : W p l e (rmk 0) s m args below meth c H locs 0 0 Q (F0 m 0 ls []) by rw [hH, hlocs] at hgo; exact hgo
  refine lv_aload_n hx hb d_L_begin_0 rfl (lv_at hl 0 rfl) ?_
  refine lv_iconst (v := (0 : Int32)) hx hb d_L_begin_1 (by decide) ?_
  refine va_put (D := G.1) (ci := 5) (v := .int (0 : Int32)) (ty := .int) (C := n_L) (T := T_L) (N := 9) hx hb htl iw_L ty_L ty_L_ok nm_L hown hK hP hD hS 0 rfl rfl 5 (by decide) (htl _ k_315) (fun _ h9 => h9) rfl (by decide +kernel) rfl rfl (Nat.le_of_ble_eq_true rfl) d_L_begin_2 (fun H locs hP hD hS => ?_)
  have hP : va_P G.1 classes [(h0, O_L f_fault f_place f_relations a_split a_within (0 : Int32) a_waiting f_waitingMany f_taken), (a_within, aI G 501 g_within)] H := hP
  have hD : va_D A [(h0, O_L f_fault f_place f_relations a_split a_within (0 : Int32) a_waiting f_waitingMany f_taken), (a_within, aI G 501 g_within)] := hD
  refine lv_aload_n hx hb d_L_begin_5 rfl (lv_at hl 0 rfl) ?_
  refine va_get (D := G.1) (ci := 5) (v := .ref a_within) (C := n_L) (T := T_L) (N := 9) hx hb htl iw_L hown hK hP 0 rfl rfl 4 (by decide) (htl _ k_314) (fun _ h9 => h9) rfl d_L_begin_6 ?_
  refine lv_iconst (v := (0 : Int32)) hx hb d_L_begin_9 (by decide) ?_
  refine lv_iconst (v := (0 : Int32)) hx hb d_L_begin_10 (by decide) ?_
  refine nx_iast hx hb hK hP hD hS 1 1 rfl rfl (vp_lit (by decide)) d_L_begin_11 (fun v1 ev1 H locs hP hD hS => ?_)
  have hf := dn_e ev1 hf
  have hP : va_P G.1 classes [(h0, O_L f_fault f_place f_relations a_split a_within (0 : Int32) a_waiting f_waitingMany f_taken), (a_within, aI G 501 v1)] H := hP
  have hD : va_D A [(h0, O_L f_fault f_place f_relations a_split a_within (0 : Int32) a_waiting f_waitingMany f_taken), (a_within, aI G 501 v1)] := hD
  refine lv_aload_n hx hb d_L_begin_12 rfl (lv_at hl 0 rfl) ?_
  refine lv_iconst (v := (0 : Int32)) hx hb d_L_begin_13 (by decide) ?_
  refine va_put (D := G.1) (ci := 5) (v := .int (0 : Int32)) (ty := .int) (C := n_L) (T := T_L) (N := 9) hx hb htl iw_L ty_L ty_L_ok nm_L hown hK hP hD hS 0 rfl rfl 7 (by decide) (htl _ k_317) (fun _ h9 => h9) rfl (by decide +kernel) rfl rfl (Nat.le_of_ble_eq_true rfl) d_L_begin_14 (fun H locs hP hD hS => ?_)
  have hP : va_P G.1 classes [(h0, O_L f_fault f_place f_relations a_split a_within (0 : Int32) a_waiting (0 : Int32) f_taken), (a_within, aI G 501 v1)] H := hP
  have hD : va_D A [(h0, O_L f_fault f_place f_relations a_split a_within (0 : Int32) a_waiting (0 : Int32) f_taken), (a_within, aI G 501 v1)] := hD
  refine lv_aload_n hx hb d_L_begin_17 rfl (lv_at hl 0 rfl) ?_
  refine lv_iconst (v := (0 : Int32)) hx hb d_L_begin_18 (by decide) ?_
  refine va_put (D := G.1) (ci := 5) (v := .int (0 : Int32)) (ty := .int) (C := n_L) (T := T_L) (N := 9) hx hb htl iw_L ty_L ty_L_ok nm_L hown hK hP hD hS 0 rfl rfl 8 (by decide) (htl _ k_318) (fun _ h9 => h9) rfl (by decide +kernel) rfl rfl (Nat.le_of_ble_eq_true rfl) d_L_begin_19 (fun H locs hP hD hS => ?_)
  have hP : va_P G.1 classes [(h0, O_L f_fault f_place f_relations a_split a_within (0 : Int32) a_waiting (0 : Int32) (0 : Int32)), (a_within, aI G 501 v1)] H := hP
  have hD : va_D A [(h0, O_L f_fault f_place f_relations a_split a_within (0 : Int32) a_waiting (0 : Int32) (0 : Int32)), (a_within, aI G 501 v1)] := hD
  cases hf
  exact hret 22 ls H locs hP hS d_L_begin_22
set_option maxHeartbeats 4000000 in
set_option maxRecDepth 100000 in
theorem c_L_canStand (l : Launch) (G : va_G × (Nat → ClassId)) (Y : (Nat → Nat) × (Nat → Nat)) (h0 : Nat) (a_split : Nat) (a_within : Nat) (a_waiting : Nat) (f_fault : Int32) (f_place : Int32) (f_relations : Int32) (f_depth : Int32) (f_waitingMany : Int32) (f_taken : Int32) (g_within : Nat → Int32) (x1 : Int32) (res : Int32) (hf : L_canStand f_depth g_within x1 = some res) : Ci l classes y_L_canStand b_L_canStand 4 (some .boolean) (rmk 0) G.1 (tyL G) Y [.ref h0, .int x1] [(h0, O_L f_fault f_place f_relations a_split a_within f_depth a_waiting f_waitingMany f_taken), (a_within, aI G 501 g_within)] [(h0, O_L f_fault f_place f_relations a_split a_within f_depth a_waiting f_waitingMany f_taken), (a_within, aI G 501 g_within)] res := by
  refine entZ (by decide) (Nat.le_of_ble_eq_true rfl) ?_
  intro p e s m args below meth c ls A Q hx hb hml hown htl hK hsk wq hl hret
  obtain ⟨hP, hD, hS⟩ := wq
  have hl : lv_has ls 4 [(0, .ref h0), (1, .int x1)] := hl
  have hS : va_S A s.heap s.heap [] := hS
  obtain ⟨H, hH⟩ : ∃ H : Heap, H = s.heap := ⟨_, rfl⟩
  obtain ⟨locs, hlocs⟩ : ∃ z : List Loc, z = [] := ⟨_, rfl⟩
  rw [← hH] at hP
  replace hS : va_S A s.heap H locs := by rw [hH, hlocs]; exact hS
  suffices hgo : W p l e (rmk 0) s m args below meth c H locs 0 0 Q (F0 m 0 ls []) by rw [hH, hlocs] at hgo; exact hgo
  have hJ31 : ∀ (z0 : Int32) (H : Heap) (locs : List Loc) (ls : Array Slot), PDS G.1 classes A s [(h0, O_L f_fault f_place f_relations a_split a_within f_depth a_waiting f_waitingMany f_taken), (a_within, aI G 501 g_within)] H locs → lv_has ls 4 [(0, .ref h0), (1, .int x1)] → L_canStand_31 f_depth g_within x1 z0 = some res → W p l e (rmk 0) s m args below meth c H locs 0 0 Q (F0 m 31 ls [.int z0]) := by
    intro z0 H locs ls wq hl hf
    obtain ⟨hP, hD, hS⟩ := wq
    refine lv_istore_n (lv' := [(3, .int z0), (0, .ref h0), (1, .int x1)]) hx hb d_L_canStand_31 rfl hl (by decide) rfl (fun ls hl => ?_)
    refine lv_iload_n hx hb d_L_canStand_32 rfl (lv_at hl 2 rfl) ?_
    by_cases c4 : x1 = (0 : Int32)
    · have hf := di_t c4 hf
      refine lv_tableIn (tgt := 109) hx hb d_L_canStand_33 (by rw [c4]; decide) (by rw [c4]; decide) (by rw [c4]; rfl) (by decide) ?_
      refine lv_iload_n hx hb d_L_canStand_109 rfl (lv_at hl 0 rfl) ?_
      refine lv_if_eq (tgt := 124) hx hb d_L_canStand_110 (by decide) (fun c5 => ?_) (fun c5 => ?_)
      · have hf := di_t c5 hf
        refine lv_iconst (v := (0 : Int32)) hx hb d_L_canStand_124 (by decide) ?_
        cases hf
        exact hret 125 ls H locs z_0 hP hS d_L_canStand_125
      · have hf := di_f c5 hf
        refine lv_aload_n hx hb d_L_canStand_113 rfl (lv_at hl 1 rfl) ?_
        refine va_get (D := G.1) (ci := 5) (v := .int f_depth) (C := n_L) (T := T_L) (N := 9) hx hb htl iw_L hown hK hP 0 rfl rfl 5 (by decide) (htl _ k_315) (fun _ h9 => h9) rfl d_L_canStand_114 ?_
        refine lv_if_ne (tgt := 124) hx hb d_L_canStand_117 (by decide) (fun c6 => ?_) (fun c6 => ?_)
        · have hf := di_f c6 hf
          refine lv_iconst (v := (0 : Int32)) hx hb d_L_canStand_124 (by decide) ?_
          cases hf
          exact hret 125 ls H locs z_0 hP hS d_L_canStand_125
        · have hf := di_t c6 hf
          refine lv_iconst (v := (1 : Int32)) hx hb d_L_canStand_120 (by decide) ?_
          refine lv_goto (tgt := 125) hx hb d_L_canStand_121 (by decide) ?_
          cases hf
          exact hret 125 ls H locs z_1 hP hS d_L_canStand_125
    have hf := di_f c4 hf
    by_cases c7 : x1 = (1 : Int32)
    · have hf := di_t c7 hf
      refine lv_tableIn (tgt := 72) hx hb d_L_canStand_33 (by rw [c7]; decide) (by rw [c7]; decide) (by rw [c7]; rfl) (by decide) ?_
      refine lv_iload_n hx hb d_L_canStand_72 rfl (lv_at hl 0 rfl) ?_
      refine lv_if_ne (tgt := 90) hx hb d_L_canStand_73 (by decide) (fun c8 => ?_) (fun c8 => ?_)
      · have hf := di_f c8 hf
        refine lv_iconst (v := (0 : Int32)) hx hb d_L_canStand_90 (by decide) ?_
        cases hf
        exact hret 91 ls H locs z_0 hP hS d_L_canStand_91
      · have hf := di_t c8 hf
        refine lv_aload_n hx hb d_L_canStand_76 rfl (lv_at hl 1 rfl) ?_
        refine va_get (D := G.1) (ci := 5) (v := .int f_depth) (C := n_L) (T := T_L) (N := 9) hx hb htl iw_L hown hK hP 0 rfl rfl 5 (by decide) (htl _ k_315) (fun _ h9 => h9) rfl d_L_canStand_77 ?_
        refine lv_sipush (v := (500 : Int32)) hx hb d_L_canStand_80 (by decide) ?_
        refine lv_icmp_ge (tgt := 90) hx hb d_L_canStand_83 (by decide) (fun c9 => ?_) (fun c9 => ?_)
        · have hf := di_t c9 hf
          refine lv_iconst (v := (0 : Int32)) hx hb d_L_canStand_90 (by decide) ?_
          cases hf
          exact hret 91 ls H locs z_0 hP hS d_L_canStand_91
        · have hf := di_f c9 hf
          refine lv_iconst (v := (1 : Int32)) hx hb d_L_canStand_86 (by decide) ?_
          refine lv_goto (tgt := 91) hx hb d_L_canStand_87 (by decide) ?_
          cases hf
          exact hret 91 ls H locs z_1 hP hS d_L_canStand_91
    have hf := di_f c7 hf
    by_cases c10 : x1 = (2 : Int32)
    · have hf := di_t c10 hf
      refine lv_tableIn (tgt := 126) hx hb d_L_canStand_33 (by rw [c10]; decide) (by rw [c10]; decide) (by rw [c10]; rfl) (by decide) ?_
      refine lv_iconst (v := (0 : Int32)) hx hb d_L_canStand_126 (by decide) ?_
      cases hf
      exact hret 127 ls H locs z_0 hP hS d_L_canStand_127
    have hf := di_f c10 hf
    by_cases c11 : x1 = (3 : Int32)
    · have hf := di_t c11 hf
      refine lv_tableIn (tgt := 126) hx hb d_L_canStand_33 (by rw [c11]; decide) (by rw [c11]; decide) (by rw [c11]; rfl) (by decide) ?_
      refine lv_iconst (v := (0 : Int32)) hx hb d_L_canStand_126 (by decide) ?_
      cases hf
      exact hret 127 ls H locs z_0 hP hS d_L_canStand_127
    have hf := di_f c11 hf
    by_cases c12 : x1 = (4 : Int32)
    · have hf := di_t c12 hf
      refine lv_tableIn (tgt := 72) hx hb d_L_canStand_33 (by rw [c12]; decide) (by rw [c12]; decide) (by rw [c12]; rfl) (by decide) ?_
      refine lv_iload_n hx hb d_L_canStand_72 rfl (lv_at hl 0 rfl) ?_
      refine lv_if_ne (tgt := 90) hx hb d_L_canStand_73 (by decide) (fun c13 => ?_) (fun c13 => ?_)
      · have hf := di_f c13 hf
        refine lv_iconst (v := (0 : Int32)) hx hb d_L_canStand_90 (by decide) ?_
        cases hf
        exact hret 91 ls H locs z_0 hP hS d_L_canStand_91
      · have hf := di_t c13 hf
        refine lv_aload_n hx hb d_L_canStand_76 rfl (lv_at hl 1 rfl) ?_
        refine va_get (D := G.1) (ci := 5) (v := .int f_depth) (C := n_L) (T := T_L) (N := 9) hx hb htl iw_L hown hK hP 0 rfl rfl 5 (by decide) (htl _ k_315) (fun _ h9 => h9) rfl d_L_canStand_77 ?_
        refine lv_sipush (v := (500 : Int32)) hx hb d_L_canStand_80 (by decide) ?_
        refine lv_icmp_ge (tgt := 90) hx hb d_L_canStand_83 (by decide) (fun c14 => ?_) (fun c14 => ?_)
        · have hf := di_t c14 hf
          refine lv_iconst (v := (0 : Int32)) hx hb d_L_canStand_90 (by decide) ?_
          cases hf
          exact hret 91 ls H locs z_0 hP hS d_L_canStand_91
        · have hf := di_f c14 hf
          refine lv_iconst (v := (1 : Int32)) hx hb d_L_canStand_86 (by decide) ?_
          refine lv_goto (tgt := 91) hx hb d_L_canStand_87 (by decide) ?_
          cases hf
          exact hret 91 ls H locs z_1 hP hS d_L_canStand_91
    have hf := di_f c12 hf
    by_cases c15 : x1 = (5 : Int32)
    · have hf := di_t c15 hf
      refine lv_tableIn (tgt := 92) hx hb d_L_canStand_33 (by rw [c15]; decide) (by rw [c15]; decide) (by rw [c15]; rfl) (by decide) ?_
      refine lv_iload_n hx hb d_L_canStand_92 rfl (lv_at hl 0 rfl) ?_
      refine lv_if_eq (tgt := 107) hx hb d_L_canStand_93 (by decide) (fun c16 => ?_) (fun c16 => ?_)
      · have hf := di_t c16 hf
        refine lv_iconst (v := (0 : Int32)) hx hb d_L_canStand_107 (by decide) ?_
        cases hf
        exact hret 108 ls H locs z_0 hP hS d_L_canStand_108
      · have hf := di_f c16 hf
        refine lv_aload_n hx hb d_L_canStand_96 rfl (lv_at hl 1 rfl) ?_
        refine va_get (D := G.1) (ci := 5) (v := .int f_depth) (C := n_L) (T := T_L) (N := 9) hx hb htl iw_L hown hK hP 0 rfl rfl 5 (by decide) (htl _ k_315) (fun _ h9 => h9) rfl d_L_canStand_97 ?_
        refine lv_if_le (tgt := 107) hx hb d_L_canStand_100 (by decide) (fun c17 => ?_) (fun c17 => ?_)
        · have hf := di_t c17 hf
          refine lv_iconst (v := (0 : Int32)) hx hb d_L_canStand_107 (by decide) ?_
          cases hf
          exact hret 108 ls H locs z_0 hP hS d_L_canStand_108
        · have hf := di_f c17 hf
          refine lv_iconst (v := (1 : Int32)) hx hb d_L_canStand_103 (by decide) ?_
          refine lv_goto (tgt := 108) hx hb d_L_canStand_104 (by decide) ?_
          cases hf
          exact hret 108 ls H locs z_1 hP hS d_L_canStand_108
    have hf := di_f c15 hf
    refine lv_tableOut (tgt := 126) hx hb d_L_canStand_33 (sw_out_0_5 c4 c7 c10 c11 c12 c15) (by decide) ?_
    refine lv_iconst (v := (0 : Int32)) hx hb d_L_canStand_126 (by decide) ?_
    cases hf
    exact hret 127 ls H locs z_0 hP hS d_L_canStand_127
  have hJ12 : ∀ (z0 : Int32) (H : Heap) (locs : List Loc) (ls : Array Slot), PDS G.1 classes A s [(h0, O_L f_fault f_place f_relations a_split a_within f_depth a_waiting f_waitingMany f_taken), (a_within, aI G 501 g_within)] H locs → lv_has ls 4 [(0, .ref h0), (1, .int x1)] → L_canStand_12 f_depth g_within x1 z0 = some res → W p l e (rmk 0) s m args below meth c H locs 0 0 Q (F0 m 12 ls [.int z0]) := by
    intro z0 H locs ls wq hl hf
    obtain ⟨hP, hD, hS⟩ := wq
    refine lv_istore_n (lv' := [(2, .int z0), (0, .ref h0), (1, .int x1)]) hx hb d_L_canStand_12 rfl hl (by decide) rfl (fun ls hl => ?_)
    refine lv_aload_n hx hb d_L_canStand_13 rfl (lv_at hl 1 rfl) ?_
    refine va_get (D := G.1) (ci := 5) (v := .ref a_within) (C := n_L) (T := T_L) (N := 9) hx hb htl iw_L hown hK hP 0 rfl rfl 4 (by decide) (htl _ k_314) (fun _ h9 => h9) rfl d_L_canStand_14 ?_
    refine lv_aload_n hx hb d_L_canStand_17 rfl (lv_at hl 1 rfl) ?_
    refine va_get (D := G.1) (ci := 5) (v := .int f_depth) (C := n_L) (T := T_L) (N := 9) hx hb htl iw_L hown hK hP 0 rfl rfl 5 (by decide) (htl _ k_315) (fun _ h9 => h9) rfl d_L_canStand_18 ?_
    obtain ⟨c2, hf⟩ := dk_e hf
    refine va_iald hx hb hK hP 1 1 rfl rfl c2 d_L_canStand_21 ?_
    refine lv_iload_n hx hb d_L_canStand_22 rfl (lv_at hl 0 rfl) ?_
    refine lv_icmp_ne (tgt := 30) hx hb d_L_canStand_23 (by decide) (fun c3 => ?_) (fun c3 => ?_)
    · have hf := di_f c3 hf
      refine lv_iconst (v := (0 : Int32)) hx hb d_L_canStand_30 (by decide) ?_
      exact hJ31 (0 : Int32) H locs ls ⟨hP, hD, hS⟩ (lv_sub hl [1, 2] rfl) hf
    · have hf := di_t c3 hf
      refine lv_iconst (v := (1 : Int32)) hx hb d_L_canStand_26 (by decide) ?_
      refine lv_goto (tgt := 31) hx hb d_L_canStand_27 (by decide) ?_
      exact hJ31 (1 : Int32) H locs ls ⟨hP, hD, hS⟩ (lv_sub hl [1, 2] rfl) hf
  refine lv_aload_n hx hb d_L_canStand_0 rfl (lv_at hl 0 rfl) ?_
  refine va_get (D := G.1) (ci := 5) (v := .int f_depth) (C := n_L) (T := T_L) (N := 9) hx hb htl iw_L hown hK hP 0 rfl rfl 5 (by decide) (htl _ k_315) (fun _ h9 => h9) rfl d_L_canStand_1 ?_
  refine lv_if_ne (tgt := 11) hx hb d_L_canStand_4 (by decide) (fun c1 => ?_) (fun c1 => ?_)
  · have hf := di_f c1 hf
    refine lv_iconst (v := (2 : Int32)) hx hb d_L_canStand_11 (by decide) ?_
    exact hJ12 (2 : Int32) H locs ls ⟨hP, hD, hS⟩ (lv_sub hl [0, 1] rfl) hf
  · have hf := di_t c1 hf
    refine lv_iconst (v := (1 : Int32)) hx hb d_L_canStand_7 (by decide) ?_
    refine lv_goto (tgt := 12) hx hb d_L_canStand_8 (by decide) ?_
    exact hJ12 (1 : Int32) H locs ls ⟨hP, hD, hS⟩ (lv_sub hl [0, 1] rfl) hf
set_option maxHeartbeats 4000000 in
set_option maxRecDepth 100000 in
theorem c_L_pass (l : Launch) (G : va_G × (Nat → ClassId)) (Y : (Nat → Nat) × (Nat → Nat)) (h0 : Nat) (a_split : Nat) (a_within : Nat) (a_waiting : Nat) (f_fault : Int32) (f_place : Int32) (f_relations : Int32) (f_depth : Int32) (f_waitingMany : Int32) (f_taken : Int32) (g_within : Nat → Int32) (x1 : Int32) (res : Int32 × (Nat → Int32)) (hf : L_pass f_depth g_within x1 = some res) : Cv l classes y_L_pass b_L_pass 2 none (rmk 0) G.1 (tyL G) Y [.ref h0, .int x1] [(h0, O_L f_fault f_place f_relations a_split a_within f_depth a_waiting f_waitingMany f_taken), (a_within, aI G 501 g_within)] [(h0, O_L f_fault f_place f_relations a_split a_within res.1 a_waiting f_waitingMany f_taken), (a_within, aI G 501 res.2)] := by
  refine entV (by decide) (Nat.le_of_ble_eq_true rfl) ?_
  intro p e s m args below meth c ls A Q hx hb hml hown htl hK hsk wq hl hret
  obtain ⟨hP, hD, hS⟩ := wq
  have hl : lv_has ls 2 [(0, .ref h0), (1, .int x1)] := hl
  have hS : va_S A s.heap s.heap [] := hS
  obtain ⟨H, hH⟩ : ∃ H : Heap, H = s.heap := ⟨_, rfl⟩
  obtain ⟨locs, hlocs⟩ : ∃ z : List Loc, z = [] := ⟨_, rfl⟩
  rw [← hH] at hP
  replace hS : va_S A s.heap H locs := by rw [hH, hlocs]; exact hS
  suffices hgo : W p l e (rmk 0) s m args below meth c H locs 0 0 Q (F0 m 0 ls []) by rw [hH, hlocs] at hgo; exact hgo
  refine lv_iload_n hx hb d_L_pass_0 rfl (lv_at hl 1 rfl) ?_
  refine lv_iconst (v := (4 : Int32)) hx hb d_L_pass_1 (by decide) ?_
  refine lv_icmp_ne (tgt := 28) hx hb d_L_pass_2 (by decide) (fun c1 => ?_) (fun c1 => ?_)
  · have hf := di_f c1 hf
    refine lv_iload_n hx hb d_L_pass_28 rfl (lv_at hl 1 rfl) ?_
    refine lv_iconst (v := (5 : Int32)) hx hb d_L_pass_29 (by decide) ?_
    refine lv_icmp_ne (tgt := 59) hx hb d_L_pass_30 (by decide) (fun c2 => ?_) (fun c2 => ?_)
    · have hf := di_f c2 hf
      refine lv_iload_n hx hb d_L_pass_59 rfl (lv_at hl 1 rfl) ?_
      refine lv_iconst (v := (1 : Int32)) hx hb d_L_pass_60 (by decide) ?_
      refine lv_icmp_ne (tgt := 77) hx hb d_L_pass_61 (by decide) (fun c3 => ?_) (fun c3 => ?_)
      · have hf := di_f c3 hf
        cases hf
        exact hret 77 ls H locs hP hS d_L_pass_77
      · have hf := di_t c3 hf
        refine lv_aload_n hx hb d_L_pass_64 rfl (lv_at hl 0 rfl) ?_
        refine va_get (D := G.1) (ci := 5) (v := .ref a_within) (C := n_L) (T := T_L) (N := 9) hx hb htl iw_L hown hK hP 0 rfl rfl 4 (by decide) (htl _ k_314) (fun _ h9 => h9) rfl d_L_pass_65 ?_
        refine lv_aload_n hx hb d_L_pass_68 rfl (lv_at hl 0 rfl) ?_
        refine va_get (D := G.1) (ci := 5) (v := .int f_depth) (C := n_L) (T := T_L) (N := 9) hx hb htl iw_L hown hK hP 0 rfl rfl 5 (by decide) (htl _ k_315) (fun _ h9 => h9) rfl d_L_pass_69 ?_
        refine lv_dup2_11 hx hb d_L_pass_72 rfl rfl ?_
        obtain ⟨c4, hf⟩ := dk_e hf
        refine va_iald hx hb hK hP 1 1 rfl rfl c4 d_L_pass_73 ?_
        refine lv_iconst (v := (1 : Int32)) hx hb d_L_pass_74 (by decide) ?_
        refine lv_iadd hx hb d_L_pass_75 ?_
        refine nx_iast hx hb hK hP hD hS 1 1 rfl rfl c4 d_L_pass_76 (fun v5 ev5 H locs hP hD hS => ?_)
        have hf := dn_e ev5 hf
        have hP : va_P G.1 classes [(h0, O_L f_fault f_place f_relations a_split a_within f_depth a_waiting f_waitingMany f_taken), (a_within, aI G 501 v5)] H := hP
        have hD : va_D A [(h0, O_L f_fault f_place f_relations a_split a_within f_depth a_waiting f_waitingMany f_taken), (a_within, aI G 501 v5)] := hD
        cases hf
        exact hret 77 ls H locs hP hS d_L_pass_77
    · have hf := di_t c2 hf
      refine lv_aload_n hx hb d_L_pass_33 rfl (lv_at hl 0 rfl) ?_
      refine lv_dup hx hb d_L_pass_34 rfl ?_
      refine va_get (D := G.1) (ci := 5) (v := .int f_depth) (C := n_L) (T := T_L) (N := 9) hx hb htl iw_L hown hK hP 0 rfl rfl 5 (by decide) (htl _ k_315) (fun _ h9 => h9) rfl d_L_pass_35 ?_
      refine lv_iconst (v := (1 : Int32)) hx hb d_L_pass_38 (by decide) ?_
      refine lv_isub hx hb d_L_pass_39 ?_
      refine lv_topi (fun v6 ev6 => ?_)
      have hf := dn_e ev6 hf
      refine va_put (D := G.1) (ci := 5) (v := .int v6) (ty := .int) (C := n_L) (T := T_L) (N := 9) hx hb htl iw_L ty_L ty_L_ok nm_L hown hK hP hD hS 0 rfl rfl 5 (by decide) (htl _ k_315) (fun _ h9 => h9) rfl (by decide +kernel) rfl rfl (Nat.le_of_ble_eq_true rfl) d_L_pass_40 (fun H locs hP hD hS => ?_)
      have hP : va_P G.1 classes [(h0, O_L f_fault f_place f_relations a_split a_within v6 a_waiting f_waitingMany f_taken), (a_within, aI G 501 g_within)] H := hP
      have hD : va_D A [(h0, O_L f_fault f_place f_relations a_split a_within v6 a_waiting f_waitingMany f_taken), (a_within, aI G 501 g_within)] := hD
      refine lv_aload_n hx hb d_L_pass_43 rfl (lv_at hl 0 rfl) ?_
      refine va_get (D := G.1) (ci := 5) (v := .ref a_within) (C := n_L) (T := T_L) (N := 9) hx hb htl iw_L hown hK hP 0 rfl rfl 4 (by decide) (htl _ k_314) (fun _ h9 => h9) rfl d_L_pass_44 ?_
      refine lv_aload_n hx hb d_L_pass_47 rfl (lv_at hl 0 rfl) ?_
      refine va_get (D := G.1) (ci := 5) (v := .int v6) (C := n_L) (T := T_L) (N := 9) hx hb htl iw_L hown hK hP 0 rfl rfl 5 (by decide) (htl _ k_315) (fun _ h9 => h9) rfl d_L_pass_48 ?_
      refine lv_dup2_11 hx hb d_L_pass_51 rfl rfl ?_
      obtain ⟨c7, hf⟩ := dk_e hf
      refine va_iald hx hb hK hP 1 1 rfl rfl c7 d_L_pass_52 ?_
      refine lv_iconst (v := (1 : Int32)) hx hb d_L_pass_53 (by decide) ?_
      refine lv_iadd hx hb d_L_pass_54 ?_
      refine nx_iast hx hb hK hP hD hS 1 1 rfl rfl c7 d_L_pass_55 (fun v8 ev8 H locs hP hD hS => ?_)
      have hf := dn_e ev8 hf
      have hP : va_P G.1 classes [(h0, O_L f_fault f_place f_relations a_split a_within v6 a_waiting f_waitingMany f_taken), (a_within, aI G 501 v8)] H := hP
      have hD : va_D A [(h0, O_L f_fault f_place f_relations a_split a_within v6 a_waiting f_waitingMany f_taken), (a_within, aI G 501 v8)] := hD
      refine lv_goto (tgt := 77) hx hb d_L_pass_56 (by decide) ?_
      cases hf
      exact hret 77 ls H locs hP hS d_L_pass_77
  · have hf := di_t c1 hf
    refine lv_aload_n hx hb d_L_pass_5 rfl (lv_at hl 0 rfl) ?_
    refine lv_dup hx hb d_L_pass_6 rfl ?_
    refine va_get (D := G.1) (ci := 5) (v := .int f_depth) (C := n_L) (T := T_L) (N := 9) hx hb htl iw_L hown hK hP 0 rfl rfl 5 (by decide) (htl _ k_315) (fun _ h9 => h9) rfl d_L_pass_7 ?_
    refine lv_iconst (v := (1 : Int32)) hx hb d_L_pass_10 (by decide) ?_
    refine lv_iadd hx hb d_L_pass_11 ?_
    refine lv_topi (fun v9 ev9 => ?_)
    have hf := dn_e ev9 hf
    refine va_put (D := G.1) (ci := 5) (v := .int v9) (ty := .int) (C := n_L) (T := T_L) (N := 9) hx hb htl iw_L ty_L ty_L_ok nm_L hown hK hP hD hS 0 rfl rfl 5 (by decide) (htl _ k_315) (fun _ h9 => h9) rfl (by decide +kernel) rfl rfl (Nat.le_of_ble_eq_true rfl) d_L_pass_12 (fun H locs hP hD hS => ?_)
    have hP : va_P G.1 classes [(h0, O_L f_fault f_place f_relations a_split a_within v9 a_waiting f_waitingMany f_taken), (a_within, aI G 501 g_within)] H := hP
    have hD : va_D A [(h0, O_L f_fault f_place f_relations a_split a_within v9 a_waiting f_waitingMany f_taken), (a_within, aI G 501 g_within)] := hD
    refine lv_aload_n hx hb d_L_pass_15 rfl (lv_at hl 0 rfl) ?_
    refine va_get (D := G.1) (ci := 5) (v := .ref a_within) (C := n_L) (T := T_L) (N := 9) hx hb htl iw_L hown hK hP 0 rfl rfl 4 (by decide) (htl _ k_314) (fun _ h9 => h9) rfl d_L_pass_16 ?_
    refine lv_aload_n hx hb d_L_pass_19 rfl (lv_at hl 0 rfl) ?_
    refine va_get (D := G.1) (ci := 5) (v := .int v9) (C := n_L) (T := T_L) (N := 9) hx hb htl iw_L hown hK hP 0 rfl rfl 5 (by decide) (htl _ k_315) (fun _ h9 => h9) rfl d_L_pass_20 ?_
    refine lv_iconst (v := (0 : Int32)) hx hb d_L_pass_23 (by decide) ?_
    obtain ⟨c10, hf⟩ := dk_e hf
    refine nx_iast hx hb hK hP hD hS 1 1 rfl rfl c10 d_L_pass_24 (fun v11 ev11 H locs hP hD hS => ?_)
    have hf := dn_e ev11 hf
    have hP : va_P G.1 classes [(h0, O_L f_fault f_place f_relations a_split a_within v9 a_waiting f_waitingMany f_taken), (a_within, aI G 501 v11)] H := hP
    have hD : va_D A [(h0, O_L f_fault f_place f_relations a_split a_within v9 a_waiting f_waitingMany f_taken), (a_within, aI G 501 v11)] := hD
    refine lv_goto (tgt := 77) hx hb d_L_pass_25 (by decide) ?_
    cases hf
    exact hret 77 ls H locs hP hS d_L_pass_77
set_option maxHeartbeats 4000000 in
set_option maxRecDepth 100000 in
theorem c_L_absorbRelation (l : Launch) (G : va_G × (Nat → ClassId)) (Y : (Nat → Nat) × (Nat → Nat)) (h0 : Nat) (a_split : Nat) (a_within : Nat) (a_waiting : Nat) (f_fault : Int32) (f_place : Int32) (f_relations : Int32) (f_depth : Int32) (f_waitingMany : Int32) (f_taken : Int32) (g_waiting : Nat → Int32) (x1 : Int32) (res : Int32 × Int32 × Int32 × (Nat → Int32)) (hf : L_absorbRelation f_relations f_waitingMany f_taken g_waiting x1 = some res) : Ci l classes y_L_absorbRelation b_L_absorbRelation 3 (some .int) (rmk 0) G.1 (tyL G) Y [.ref h0, .int x1] [(h0, O_L f_fault f_place f_relations a_split a_within f_depth a_waiting f_waitingMany f_taken), (a_waiting, aI G 8 g_waiting)] [(h0, O_L f_fault f_place f_relations a_split a_within f_depth a_waiting res.2.1 res.2.2.1), (a_waiting, aI G 8 res.2.2.2)] res.1 := by
  refine entI (by decide) (Nat.le_of_ble_eq_true rfl) ?_
  intro p e s m args below meth c ls A Q hx hb hml hown htl hK hsk wq hl hret
  obtain ⟨hP, hD, hS⟩ := wq
  have hl : lv_has ls 3 [(0, .ref h0), (1, .int x1)] := hl
  have hS : va_S A s.heap s.heap [] := hS
  obtain ⟨H, hH⟩ : ∃ H : Heap, H = s.heap := ⟨_, rfl⟩
  obtain ⟨locs, hlocs⟩ : ∃ z : List Loc, z = [] := ⟨_, rfl⟩
  rw [← hH] at hP
  replace hS : va_S A s.heap H locs := by rw [hH, hlocs]; exact hS
  suffices hgo : W p l e (rmk 0) s m args below meth c H locs 0 0 Q (F0 m 0 ls []) by rw [hH, hlocs] at hgo; exact hgo
  refine lv_iload_n hx hb d_L_absorbRelation_0 rfl (lv_at hl 1 rfl) ?_
  refine lv_if_lt (tgt := 12) hx hb d_L_absorbRelation_1 (by decide) (fun c1 => ?_) (fun c1 => ?_)
  · have hf := di_t c1 hf
    refine lv_iconst (v := (2 : Int32)) hx hb d_L_absorbRelation_12 (by decide) ?_
    cases hf
    exact hret 13 ls H locs hP hS d_L_absorbRelation_13
  · have hf := di_f c1 hf
    refine lv_iload_n hx hb d_L_absorbRelation_4 rfl (lv_at hl 1 rfl) ?_
    refine lv_aload_n hx hb d_L_absorbRelation_5 rfl (lv_at hl 0 rfl) ?_
    refine va_get (D := G.1) (ci := 5) (v := .int f_relations) (C := n_L) (T := T_L) (N := 9) hx hb htl iw_L hown hK hP 0 rfl rfl 2 (by decide) (htl _ k_311) (fun _ h9 => h9) rfl d_L_absorbRelation_6 ?_
    refine lv_icmp_lt (tgt := 14) hx hb d_L_absorbRelation_9 (by decide) (fun c2 => ?_) (fun c2 => ?_)
    · have hf := di_t c2 hf
      refine lv_iconst (v := (1 : Int32)) hx hb d_L_absorbRelation_14 (by decide) ?_
      refine lv_iload_n hx hb d_L_absorbRelation_15 rfl (lv_at hl 1 rfl) ?_
      refine lv_ishl hx hb d_L_absorbRelation_16 ?_
      refine lv_topi (fun v3 ev3 => ?_)
      have hf := dn_e ev3 hf
      refine lv_istore_n (lv' := [(2, .int v3), (0, .ref h0), (1, .int x1)]) hx hb d_L_absorbRelation_17 rfl hl (by decide) rfl (fun ls hl => ?_)
      refine lv_aload_n hx hb d_L_absorbRelation_18 rfl (lv_at hl 1 rfl) ?_
      refine va_get (D := G.1) (ci := 5) (v := .int f_taken) (C := n_L) (T := T_L) (N := 9) hx hb htl iw_L hown hK hP 0 rfl rfl 8 (by decide) (htl _ k_318) (fun _ h9 => h9) rfl d_L_absorbRelation_19 ?_
      refine lv_iload_n hx hb d_L_absorbRelation_22 rfl (lv_at hl 0 rfl) ?_
      refine lv_iand hx hb d_L_absorbRelation_23 ?_
      refine lv_if_ne (tgt := 36) hx hb d_L_absorbRelation_24 (by decide) (fun c4 => ?_) (fun c4 => ?_)
      · have hf := di_f c4 hf
        refine lv_iconst (v := (3 : Int32)) hx hb d_L_absorbRelation_36 (by decide) ?_
        cases hf
        exact hret 37 ls H locs hP hS d_L_absorbRelation_37
      · have hf := di_t c4 hf
        refine lv_aload_n hx hb d_L_absorbRelation_27 rfl (lv_at hl 1 rfl) ?_
        refine va_get (D := G.1) (ci := 5) (v := .int f_waitingMany) (C := n_L) (T := T_L) (N := 9) hx hb htl iw_L hown hK hP 0 rfl rfl 7 (by decide) (htl _ k_317) (fun _ h9 => h9) rfl d_L_absorbRelation_28 ?_
        refine lv_bipush (v := (8 : Int32)) hx hb d_L_absorbRelation_31 (by decide) ?_
        refine lv_icmp_lt (tgt := 38) hx hb d_L_absorbRelation_33 (by decide) (fun c5 => ?_) (fun c5 => ?_)
        · have hf := di_t c5 hf
          refine lv_aload_n hx hb d_L_absorbRelation_38 rfl (lv_at hl 1 rfl) ?_
          refine lv_dup hx hb d_L_absorbRelation_39 rfl ?_
          refine va_get (D := G.1) (ci := 5) (v := .int f_taken) (C := n_L) (T := T_L) (N := 9) hx hb htl iw_L hown hK hP 0 rfl rfl 8 (by decide) (htl _ k_318) (fun _ h9 => h9) rfl d_L_absorbRelation_40 ?_
          refine lv_iload_n hx hb d_L_absorbRelation_43 rfl (lv_at hl 0 rfl) ?_
          refine lv_ior hx hb d_L_absorbRelation_44 ?_
          refine lv_topi (fun v6 ev6 => ?_)
          have hf := dn_e ev6 hf
          refine va_put (D := G.1) (ci := 5) (v := .int v6) (ty := .int) (C := n_L) (T := T_L) (N := 9) hx hb htl iw_L ty_L ty_L_ok nm_L hown hK hP hD hS 0 rfl rfl 8 (by decide) (htl _ k_318) (fun _ h9 => h9) rfl (by decide +kernel) rfl rfl (Nat.le_of_ble_eq_true rfl) d_L_absorbRelation_45 (fun H locs hP hD hS => ?_)
          have hP : va_P G.1 classes [(h0, O_L f_fault f_place f_relations a_split a_within f_depth a_waiting f_waitingMany v6), (a_waiting, aI G 8 g_waiting)] H := hP
          have hD : va_D A [(h0, O_L f_fault f_place f_relations a_split a_within f_depth a_waiting f_waitingMany v6), (a_waiting, aI G 8 g_waiting)] := hD
          refine lv_aload_n hx hb d_L_absorbRelation_48 rfl (lv_at hl 1 rfl) ?_
          refine va_get (D := G.1) (ci := 5) (v := .ref a_waiting) (C := n_L) (T := T_L) (N := 9) hx hb htl iw_L hown hK hP 0 rfl rfl 6 (by decide) (htl _ k_316) (fun _ h9 => h9) rfl d_L_absorbRelation_49 ?_
          refine lv_aload_n hx hb d_L_absorbRelation_52 rfl (lv_at hl 1 rfl) ?_
          refine va_get (D := G.1) (ci := 5) (v := .int f_waitingMany) (C := n_L) (T := T_L) (N := 9) hx hb htl iw_L hown hK hP 0 rfl rfl 7 (by decide) (htl _ k_317) (fun _ h9 => h9) rfl d_L_absorbRelation_53 ?_
          refine lv_iload_n hx hb d_L_absorbRelation_56 rfl (lv_at hl 0 rfl) ?_
          obtain ⟨c7, hf⟩ := dk_e hf
          refine nx_iast hx hb hK hP hD hS 1 1 rfl rfl c7 d_L_absorbRelation_57 (fun v8 ev8 H locs hP hD hS => ?_)
          have hf := dn_e ev8 hf
          have hP : va_P G.1 classes [(h0, O_L f_fault f_place f_relations a_split a_within f_depth a_waiting f_waitingMany v6), (a_waiting, aI G 8 v8)] H := hP
          have hD : va_D A [(h0, O_L f_fault f_place f_relations a_split a_within f_depth a_waiting f_waitingMany v6), (a_waiting, aI G 8 v8)] := hD
          refine lv_aload_n hx hb d_L_absorbRelation_58 rfl (lv_at hl 1 rfl) ?_
          refine lv_dup hx hb d_L_absorbRelation_59 rfl ?_
          refine va_get (D := G.1) (ci := 5) (v := .int f_waitingMany) (C := n_L) (T := T_L) (N := 9) hx hb htl iw_L hown hK hP 0 rfl rfl 7 (by decide) (htl _ k_317) (fun _ h9 => h9) rfl d_L_absorbRelation_60 ?_
          refine lv_iconst (v := (1 : Int32)) hx hb d_L_absorbRelation_63 (by decide) ?_
          refine lv_iadd hx hb d_L_absorbRelation_64 ?_
          refine lv_topi (fun v9 ev9 => ?_)
          have hf := dn_e ev9 hf
          refine va_put (D := G.1) (ci := 5) (v := .int v9) (ty := .int) (C := n_L) (T := T_L) (N := 9) hx hb htl iw_L ty_L ty_L_ok nm_L hown hK hP hD hS 0 rfl rfl 7 (by decide) (htl _ k_317) (fun _ h9 => h9) rfl (by decide +kernel) rfl rfl (Nat.le_of_ble_eq_true rfl) d_L_absorbRelation_65 (fun H locs hP hD hS => ?_)
          have hP : va_P G.1 classes [(h0, O_L f_fault f_place f_relations a_split a_within f_depth a_waiting v9 v6), (a_waiting, aI G 8 v8)] H := hP
          have hD : va_D A [(h0, O_L f_fault f_place f_relations a_split a_within f_depth a_waiting v9 v6), (a_waiting, aI G 8 v8)] := hD
          refine lv_iconst (v := (0 : Int32)) hx hb d_L_absorbRelation_68 (by decide) ?_
          cases hf
          exact hret 69 ls H locs hP hS d_L_absorbRelation_69
        · have hf := di_f c5 hf
          refine lv_iconst (v := (3 : Int32)) hx hb d_L_absorbRelation_36 (by decide) ?_
          cases hf
          exact hret 37 ls H locs hP hS d_L_absorbRelation_37
    · have hf := di_f c2 hf
      refine lv_iconst (v := (2 : Int32)) hx hb d_L_absorbRelation_12 (by decide) ?_
      cases hf
      exact hret 13 ls H locs hP hS d_L_absorbRelation_13
set_option maxHeartbeats 4000000 in
set_option maxRecDepth 100000 in
theorem c_L_joinLastTwo (l : Launch) (G : va_G × (Nat → ClassId)) (Y : (Nat → Nat) × (Nat → Nat)) (h0 : Nat) (a_split : Nat) (a_within : Nat) (a_waiting : Nat) (f_fault : Int32) (f_place : Int32) (f_relations : Int32) (f_depth : Int32) (f_waitingMany : Int32) (f_taken : Int32) (g_split : Nat → Int32) (g_waiting : Nat → Int32) (res : Int32 × (Nat → Int32) × (Nat → Int32)) (hf : L_joinLastTwo f_waitingMany g_split g_waiting = some res) : Cv l classes y_L_joinLastTwo b_L_joinLastTwo 3 none (rmk 2) G.1 (tyL G) Y [.ref h0] [(h0, O_L f_fault f_place f_relations a_split a_within f_depth a_waiting f_waitingMany f_taken), (a_split, aI G 256 g_split), (a_waiting, aI G 8 g_waiting)] [(h0, O_L f_fault f_place f_relations a_split a_within f_depth a_waiting res.1 f_taken), (a_split, aI G 256 res.2.1), (a_waiting, aI G 8 res.2.2)] := by
  refine entV (by decide) (Nat.le_of_ble_eq_true rfl) ?_
  intro p e s m args below meth c ls A Q hx hb hml hown htl hK hsk wq hl hret
  obtain ⟨hP, hD, hS⟩ := wq
  have hl : lv_has ls 3 [(0, .ref h0)] := hl
  have hS : va_S A s.heap s.heap [] := hS
  obtain ⟨H, hH⟩ : ∃ H : Heap, H = s.heap := ⟨_, rfl⟩
  obtain ⟨locs, hlocs⟩ : ∃ z : List Loc, z = [] := ⟨_, rfl⟩
  rw [← hH] at hP
  replace hS : va_S A s.heap H locs := by rw [hH, hlocs]; exact hS
  suffices hgo : W p l e (rmk 2) s m args below meth c H locs 0 0 Q (F0 m 0 ls []) by rw [hH, hlocs] at hgo; exact hgo
  refine lv_aload_n hx hb d_L_joinLastTwo_0 rfl (lv_at hl 0 rfl) ?_
  refine va_get (D := G.1) (ci := 5) (v := .int f_waitingMany) (C := n_L) (T := T_L) (N := 9) hx hb htl iw_L hown hK hP 0 rfl rfl 7 (by decide) (htl _ k_317) (fun _ h9 => h9) rfl d_L_joinLastTwo_1 ?_
  refine lv_iconst (v := (2 : Int32)) hx hb d_L_joinLastTwo_4 (by decide) ?_
  refine lv_icmp_ge (tgt := 9) hx hb d_L_joinLastTwo_5 (by decide) (fun c1 => ?_) (fun c1 => ?_)
  · have hf := di_t c1 hf
    refine lv_aload_n hx hb d_L_joinLastTwo_9 rfl (lv_at hl 0 rfl) ?_
    refine va_get (D := G.1) (ci := 5) (v := .ref a_waiting) (C := n_L) (T := T_L) (N := 9) hx hb htl iw_L hown hK hP 0 rfl rfl 6 (by decide) (htl _ k_316) (fun _ h9 => h9) rfl d_L_joinLastTwo_10 ?_
    refine lv_aload_n hx hb d_L_joinLastTwo_13 rfl (lv_at hl 0 rfl) ?_
    refine va_get (D := G.1) (ci := 5) (v := .int f_waitingMany) (C := n_L) (T := T_L) (N := 9) hx hb htl iw_L hown hK hP 0 rfl rfl 7 (by decide) (htl _ k_317) (fun _ h9 => h9) rfl d_L_joinLastTwo_14 ?_
    refine lv_iconst (v := (1 : Int32)) hx hb d_L_joinLastTwo_17 (by decide) ?_
    refine lv_isub hx hb d_L_joinLastTwo_18 ?_
    obtain ⟨c2, hf⟩ := dk_e hf
    refine va_iald hx hb hK hP 2 1 rfl rfl c2 d_L_joinLastTwo_19 ?_
    refine lv_topi (fun v3 ev3 => ?_)
    have hf := dn_e ev3 hf
    refine lv_istore_n (lv' := [(1, .int v3), (0, .ref h0)]) hx hb d_L_joinLastTwo_20 rfl hl (by decide) rfl (fun ls hl => ?_)
    refine lv_aload_n hx hb d_L_joinLastTwo_21 rfl (lv_at hl 1 rfl) ?_
    refine va_get (D := G.1) (ci := 5) (v := .ref a_waiting) (C := n_L) (T := T_L) (N := 9) hx hb htl iw_L hown hK hP 0 rfl rfl 6 (by decide) (htl _ k_316) (fun _ h9 => h9) rfl d_L_joinLastTwo_22 ?_
    refine lv_aload_n hx hb d_L_joinLastTwo_25 rfl (lv_at hl 1 rfl) ?_
    refine va_get (D := G.1) (ci := 5) (v := .int f_waitingMany) (C := n_L) (T := T_L) (N := 9) hx hb htl iw_L hown hK hP 0 rfl rfl 7 (by decide) (htl _ k_317) (fun _ h9 => h9) rfl d_L_joinLastTwo_26 ?_
    refine lv_iconst (v := (2 : Int32)) hx hb d_L_joinLastTwo_29 (by decide) ?_
    refine lv_isub hx hb d_L_joinLastTwo_30 ?_
    obtain ⟨c4, hf⟩ := dk_e hf
    refine va_iald hx hb hK hP 2 1 rfl rfl c4 d_L_joinLastTwo_31 ?_
    refine lv_topi (fun v5 ev5 => ?_)
    have hf := dn_e ev5 hf
    refine lv_istore_n (lv' := [(2, .int v5), (1, .int v3), (0, .ref h0)]) hx hb d_L_joinLastTwo_32 rfl hl (by decide) rfl (fun ls hl => ?_)
    refine lv_aload_n hx hb d_L_joinLastTwo_33 rfl (lv_at hl 2 rfl) ?_
    refine va_get (D := G.1) (ci := 5) (v := .ref a_split) (C := n_L) (T := T_L) (N := 9) hx hb htl iw_L hown hK hP 0 rfl rfl 3 (by decide) (htl _ k_312) (fun _ h9 => h9) rfl d_L_joinLastTwo_34 ?_
    refine lv_iload_n hx hb d_L_joinLastTwo_37 rfl (lv_at hl 0 rfl) ?_
    refine lv_iload_n hx hb d_L_joinLastTwo_38 rfl (lv_at hl 1 rfl) ?_
    refine lv_ior hx hb d_L_joinLastTwo_39 ?_
    refine lv_iload_n hx hb d_L_joinLastTwo_40 rfl (lv_at hl 0 rfl) ?_
    refine lv_iload_n hx hb d_L_joinLastTwo_41 rfl (lv_at hl 1 rfl) ?_
    refine call_i (isC := []) (run_SN (As := [.int v5, .int v3]) (rest := [.int (v5 ||| v3), .ref a_split]) hx hb hml hown htl (c_J_firstOf l G Y  v5 v3 _ rfl) ms_J_firstOf k_658 (hRk (by decide) (by decide)) hK hsk hS hP hD (isC := []) rfl (by decide) rfl hl.1 rfl (lv_room (Nat.le_of_ble_eq_true rfl)) d_L_joinLastTwo_42) hP hD hS rfl rfl (fun H locs hP hD hS => ?_)
    have hP : va_P G.1 classes [(h0, O_L f_fault f_place f_relations a_split a_within f_depth a_waiting f_waitingMany f_taken), (a_split, aI G 256 g_split), (a_waiting, aI G 8 g_waiting)] H := hP
    have hD : va_D A [(h0, O_L f_fault f_place f_relations a_split a_within f_depth a_waiting f_waitingMany f_taken), (a_split, aI G 256 g_split), (a_waiting, aI G 8 g_waiting)] := hD
    obtain ⟨c6, hf⟩ := dk_e hf
    refine nx_iast hx hb hK hP hD hS 1 1 rfl rfl c6 d_L_joinLastTwo_45 (fun v7 ev7 H locs hP hD hS => ?_)
    have hf := dn_e ev7 hf
    have hP : va_P G.1 classes [(h0, O_L f_fault f_place f_relations a_split a_within f_depth a_waiting f_waitingMany f_taken), (a_split, aI G 256 v7), (a_waiting, aI G 8 g_waiting)] H := hP
    have hD : va_D A [(h0, O_L f_fault f_place f_relations a_split a_within f_depth a_waiting f_waitingMany f_taken), (a_split, aI G 256 v7), (a_waiting, aI G 8 g_waiting)] := hD
    refine lv_aload_n hx hb d_L_joinLastTwo_46 rfl (lv_at hl 2 rfl) ?_
    refine va_get (D := G.1) (ci := 5) (v := .ref a_waiting) (C := n_L) (T := T_L) (N := 9) hx hb htl iw_L hown hK hP 0 rfl rfl 6 (by decide) (htl _ k_316) (fun _ h9 => h9) rfl d_L_joinLastTwo_47 ?_
    refine lv_aload_n hx hb d_L_joinLastTwo_50 rfl (lv_at hl 2 rfl) ?_
    refine va_get (D := G.1) (ci := 5) (v := .int f_waitingMany) (C := n_L) (T := T_L) (N := 9) hx hb htl iw_L hown hK hP 0 rfl rfl 7 (by decide) (htl _ k_317) (fun _ h9 => h9) rfl d_L_joinLastTwo_51 ?_
    refine lv_iconst (v := (2 : Int32)) hx hb d_L_joinLastTwo_54 (by decide) ?_
    refine lv_isub hx hb d_L_joinLastTwo_55 ?_
    refine lv_iload_n hx hb d_L_joinLastTwo_56 rfl (lv_at hl 0 rfl) ?_
    refine lv_iload_n hx hb d_L_joinLastTwo_57 rfl (lv_at hl 1 rfl) ?_
    refine lv_ior hx hb d_L_joinLastTwo_58 ?_
    refine nx_iast hx hb hK hP hD hS 2 1 rfl rfl c4 d_L_joinLastTwo_59 (fun v8 ev8 H locs hP hD hS => ?_)
    have hf := dn_e ev8 hf
    have hP : va_P G.1 classes [(h0, O_L f_fault f_place f_relations a_split a_within f_depth a_waiting f_waitingMany f_taken), (a_split, aI G 256 v7), (a_waiting, aI G 8 v8)] H := hP
    have hD : va_D A [(h0, O_L f_fault f_place f_relations a_split a_within f_depth a_waiting f_waitingMany f_taken), (a_split, aI G 256 v7), (a_waiting, aI G 8 v8)] := hD
    refine lv_aload_n hx hb d_L_joinLastTwo_60 rfl (lv_at hl 2 rfl) ?_
    refine lv_dup hx hb d_L_joinLastTwo_61 rfl ?_
    refine va_get (D := G.1) (ci := 5) (v := .int f_waitingMany) (C := n_L) (T := T_L) (N := 9) hx hb htl iw_L hown hK hP 0 rfl rfl 7 (by decide) (htl _ k_317) (fun _ h9 => h9) rfl d_L_joinLastTwo_62 ?_
    refine lv_iconst (v := (1 : Int32)) hx hb d_L_joinLastTwo_65 (by decide) ?_
    refine lv_isub hx hb d_L_joinLastTwo_66 ?_
    refine lv_topi (fun v9 ev9 => ?_)
    have hf := dn_e ev9 hf
    refine va_put (D := G.1) (ci := 5) (v := .int v9) (ty := .int) (C := n_L) (T := T_L) (N := 9) hx hb htl iw_L ty_L ty_L_ok nm_L hown hK hP hD hS 0 rfl rfl 7 (by decide) (htl _ k_317) (fun _ h9 => h9) rfl (by decide +kernel) rfl rfl (Nat.le_of_ble_eq_true rfl) d_L_joinLastTwo_67 (fun H locs hP hD hS => ?_)
    have hP : va_P G.1 classes [(h0, O_L f_fault f_place f_relations a_split a_within f_depth a_waiting v9 f_taken), (a_split, aI G 256 v7), (a_waiting, aI G 8 v8)] H := hP
    have hD : va_D A [(h0, O_L f_fault f_place f_relations a_split a_within f_depth a_waiting v9 f_taken), (a_split, aI G 256 v7), (a_waiting, aI G 8 v8)] := hD
    cases hf
    exact hret 70 ls H locs hP hS d_L_joinLastTwo_70
  · have hf := di_f c1 hf
    cases hf
    exact hret 8 ls H locs hP hS d_L_joinLastTwo_8
set_option maxHeartbeats 4000000 in
set_option maxRecDepth 100000 in
theorem c_L_absorb (l : Launch) (G : va_G × (Nat → ClassId)) (Y : (Nat → Nat) × (Nat → Nat)) (h0 : Nat) (a_p1 : Nat) (a_p1_bytes : Nat) (a_split : Nat) (a_within : Nat) (a_waiting : Nat) (f_p1_length : Int32) (f_p1_kind : Int32) (f_p1_start : Int32) (f_p1_number : Int32) (f_p1_at : Int32) (f_fault : Int32) (f_place : Int32) (f_relations : Int32) (f_depth : Int32) (f_waitingMany : Int32) (f_taken : Int32) (g_split : Nat → Int32) (g_waiting : Nat → Int32) (res : Int32 × Int32 × Int32 × (Nat → Int32) × (Nat → Int32)) (hf : L_absorb f_p1_kind f_p1_number f_relations f_waitingMany f_taken g_split g_waiting = some res) : Ci l classes y_L_absorb b_L_absorb 2 (some .int) (rmk 3) G.1 (tyL G) Y [.ref h0, .ref a_p1] [(a_p1, O_T f_p1_length a_p1_bytes f_p1_kind f_p1_start f_p1_number f_p1_at), (h0, O_L f_fault f_place f_relations a_split a_within f_depth a_waiting f_waitingMany f_taken), (a_split, aI G 256 g_split), (a_waiting, aI G 8 g_waiting)] [(a_p1, O_T f_p1_length a_p1_bytes f_p1_kind f_p1_start f_p1_number f_p1_at), (h0, O_L f_fault f_place f_relations a_split a_within f_depth a_waiting res.2.1 res.2.2.1), (a_split, aI G 256 res.2.2.2.1), (a_waiting, aI G 8 res.2.2.2.2)] res.1 := by
  refine entI (by decide) (Nat.le_of_ble_eq_true rfl) ?_
  intro p e s m args below meth c ls A Q hx hb hml hown htl hK hsk wq hl hret
  obtain ⟨hP, hD, hS⟩ := wq
  have hl : lv_has ls 2 [(0, .ref h0), (1, .ref a_p1)] := hl
  have hS : va_S A s.heap s.heap [] := hS
  obtain ⟨H, hH⟩ : ∃ H : Heap, H = s.heap := ⟨_, rfl⟩
  obtain ⟨locs, hlocs⟩ : ∃ z : List Loc, z = [] := ⟨_, rfl⟩
  rw [← hH] at hP
  replace hS : va_S A s.heap H locs := by rw [hH, hlocs]; exact hS
  suffices hgo : W p l e (rmk 3) s m args below meth c H locs 0 0 Q (F0 m 0 ls []) by rw [hH, hlocs] at hgo; exact hgo
  refine lv_aload_n hx hb d_L_absorb_0 rfl (lv_at hl 1 rfl) ?_
  refine va_get (D := G.1) (ci := 10) (v := .int f_p1_kind) (C := n_T) (T := T_T) (N := 6) hx hb htl iw_T hown hK hP 0 rfl rfl 2 (by decide) (htl _ k_217) (fun _ h9 => h9) rfl d_L_absorb_1 ?_
  refine lv_iconst (v := (1 : Int32)) hx hb d_L_absorb_4 (by decide) ?_
  refine lv_icmp_ne (tgt := 17) hx hb d_L_absorb_5 (by decide) (fun c1 => ?_) (fun c1 => ?_)
  · have hf := di_f c1 hf
    refine lv_aload_n hx hb d_L_absorb_17 rfl (lv_at hl 1 rfl) ?_
    refine va_get (D := G.1) (ci := 10) (v := .int f_p1_kind) (C := n_T) (T := T_T) (N := 6) hx hb htl iw_T hown hK hP 0 rfl rfl 2 (by decide) (htl _ k_217) (fun _ h9 => h9) rfl d_L_absorb_18 ?_
    refine lv_iconst (v := (5 : Int32)) hx hb d_L_absorb_21 (by decide) ?_
    refine lv_icmp_ne (tgt := 29) hx hb d_L_absorb_22 (by decide) (fun c2 => ?_) (fun c2 => ?_)
    · have hf := di_f c2 hf
      refine lv_iconst (v := (0 : Int32)) hx hb d_L_absorb_29 (by decide) ?_
      cases hf
      exact hret 30 ls H locs hP hS d_L_absorb_30
    · have hf := di_t c2 hf
      refine lv_aload_n hx hb d_L_absorb_25 rfl (lv_at hl 0 rfl) ?_
      obtain ⟨t3, hv4, hf⟩ := db_e hf
      refine call_v (isC := [1, 2, 3]) (run_V (As := []) (rest := []) (ci := 5) (q0 := 1) hx hb hml hown htl (c_L_joinLastTwo l G Y  h0 a_split a_within a_waiting f_fault f_place f_relations f_depth f_waitingMany f_taken g_split g_waiting t3 hv4) mv_L_joinLastTwo k_654 (hRk (by decide) (by decide)) hK hsk hS hP hD (isC := [1, 2, 3]) rfl (by decide) rfl rfl rfl hl.1 rfl (lv_room (Nat.le_of_ble_eq_true rfl)) d_L_absorb_26) hP hD hS rfl rfl (fun H locs hP hD hS => ?_)
      have hP : va_P G.1 classes [(a_p1, O_T f_p1_length a_p1_bytes f_p1_kind f_p1_start f_p1_number f_p1_at), (h0, O_L f_fault f_place f_relations a_split a_within f_depth a_waiting t3.1 f_taken), (a_split, aI G 256 t3.2.1), (a_waiting, aI G 8 t3.2.2)] H := hP
      have hD : va_D A [(a_p1, O_T f_p1_length a_p1_bytes f_p1_kind f_p1_start f_p1_number f_p1_at), (h0, O_L f_fault f_place f_relations a_split a_within f_depth a_waiting t3.1 f_taken), (a_split, aI G 256 t3.2.1), (a_waiting, aI G 8 t3.2.2)] := hD
      refine lv_iconst (v := (0 : Int32)) hx hb d_L_absorb_29 (by decide) ?_
      cases hf
      exact hret 30 ls H locs hP hS d_L_absorb_30
  · have hf := di_t c1 hf
    refine lv_aload_n hx hb d_L_absorb_8 rfl (lv_at hl 0 rfl) ?_
    refine lv_aload_n hx hb d_L_absorb_9 rfl (lv_at hl 1 rfl) ?_
    refine va_get (D := G.1) (ci := 10) (v := .int f_p1_number) (C := n_T) (T := T_T) (N := 6) hx hb htl iw_T hown hK hP 0 rfl rfl 4 (by decide) (htl _ k_223) (fun _ h9 => h9) rfl d_L_absorb_10 ?_
    obtain ⟨t5, hv6, hf⟩ := db_e hf
    refine call_i (isC := [1, 3]) (run_V (As := [.int f_p1_number]) (rest := []) (ci := 5) (q0 := 1) hx hb hml hown htl (c_L_absorbRelation l G Y  h0 a_split a_within a_waiting f_fault f_place f_relations f_depth f_waitingMany f_taken g_waiting f_p1_number t5 hv6) mv_L_absorbRelation k_650 (hRk (by decide) (by decide)) hK hsk hS hP hD (isC := [1, 3]) rfl (by decide) rfl rfl rfl hl.1 rfl (lv_room (Nat.le_of_ble_eq_true rfl)) d_L_absorb_13) hP hD hS rfl rfl (fun H locs hP hD hS => ?_)
    have hP : va_P G.1 classes [(a_p1, O_T f_p1_length a_p1_bytes f_p1_kind f_p1_start f_p1_number f_p1_at), (h0, O_L f_fault f_place f_relations a_split a_within f_depth a_waiting t5.2.1 t5.2.2.1), (a_split, aI G 256 g_split), (a_waiting, aI G 8 t5.2.2.2)] H := hP
    have hD : va_D A [(a_p1, O_T f_p1_length a_p1_bytes f_p1_kind f_p1_start f_p1_number f_p1_at), (h0, O_L f_fault f_place f_relations a_split a_within f_depth a_waiting t5.2.1 t5.2.2.1), (a_split, aI G 256 g_split), (a_waiting, aI G 8 t5.2.2.2)] := hD
    cases hf
    exact hret 16 ls H locs hP hS d_L_absorb_16
set_option maxHeartbeats 4000000 in
set_option maxRecDepth 100000 in
theorem c_Q_begin (l : Launch) (G : va_G × (Nat → ClassId)) (Y : (Nat → Nat) × (Nat → Nat)) (h0 : Nat) (a_graph : Nat) (a_graph_rows : Nat) (a_graph_left : Nat) (a_graph_right : Nat) (a_graph_by : Nat) (f_fault : Int32) (f_place : Int32) (f_awaited : Int32) (f_left : Int32) (f_right : Int32) (f_graph_relations : Int32) (f_graph_edges : Int32) (f_graph_limit : Int32) (res : Int32 × Int32 × Int32 × Int32 × Int32 × Int32) (hf : Q_begin f_awaited f_left f_right f_graph_relations f_graph_edges f_graph_limit = some res) : Cv l classes y_Q_begin b_Q_begin 1 none (rmk 1) G.1 (tyL G) Y [.ref h0] [(h0, O_Q f_fault f_place a_graph f_awaited f_left f_right), (a_graph, O_G f_graph_relations f_graph_edges f_graph_limit a_graph_rows a_graph_left a_graph_right a_graph_by)] [(h0, O_Q f_fault f_place a_graph res.1 res.2.1 res.2.2.1), (a_graph, O_G res.2.2.2.1 res.2.2.2.2.1 res.2.2.2.2.2 a_graph_rows a_graph_left a_graph_right a_graph_by)] := by
  refine entV (by decide) (Nat.le_of_ble_eq_true rfl) ?_
  intro p e s m args below meth c ls A Q hx hb hml hown htl hK hsk wq hl hret
  obtain ⟨hP, hD, hS⟩ := wq
  have hl : lv_has ls 1 [(0, .ref h0)] := hl
  have hS : va_S A s.heap s.heap [] := hS
  obtain ⟨H, hH⟩ : ∃ H : Heap, H = s.heap := ⟨_, rfl⟩
  obtain ⟨locs, hlocs⟩ : ∃ z : List Loc, z = [] := ⟨_, rfl⟩
  rw [← hH] at hP
  replace hS : va_S A s.heap H locs := by rw [hH, hlocs]; exact hS
  suffices hgo : W p l e (rmk 1) s m args below meth c H locs 0 0 Q (F0 m 0 ls []) by rw [hH, hlocs] at hgo; exact hgo
  refine lv_aload_n hx hb d_Q_begin_0 rfl (lv_at hl 0 rfl) ?_
  refine va_get (D := G.1) (ci := 6) (v := .ref a_graph) (C := n_Q) (T := T_Q) (N := 6) hx hb htl iw_Q hown hK hP 0 rfl rfl 2 (by decide) (htl _ k_282) (fun _ h9 => h9) rfl d_Q_begin_1 ?_
  obtain ⟨t1, hv2, hf⟩ := db_e hf
  refine call_v (isC := [1]) (run_V (As := []) (rest := []) (ci := 1) (q0 := 1) hx hb hml hown htl (c_G_clear l G Y  a_graph a_graph_rows a_graph_left a_graph_right a_graph_by f_graph_relations f_graph_edges f_graph_limit t1 hv2) mv_G_clear k_543 (hRk (by decide) (by decide)) hK hsk hS hP hD (isC := [1]) rfl (by decide) rfl rfl rfl hl.1 rfl (lv_room (Nat.le_of_ble_eq_true rfl)) d_Q_begin_4) hP hD hS rfl rfl (fun H locs hP hD hS => ?_)
  have hP : va_P G.1 classes [(h0, O_Q f_fault f_place a_graph f_awaited f_left f_right), (a_graph, O_G t1.1 t1.2.1 t1.2.2 a_graph_rows a_graph_left a_graph_right a_graph_by)] H := hP
  have hD : va_D A [(h0, O_Q f_fault f_place a_graph f_awaited f_left f_right), (a_graph, O_G t1.1 t1.2.1 t1.2.2 a_graph_rows a_graph_left a_graph_right a_graph_by)] := hD
  refine lv_aload_n hx hb d_Q_begin_7 rfl (lv_at hl 0 rfl) ?_
  refine lv_iconst (v := (0 : Int32)) hx hb d_Q_begin_8 (by decide) ?_
  refine va_put (D := G.1) (ci := 6) (v := .int (0 : Int32)) (ty := .int) (C := n_Q) (T := T_Q) (N := 6) hx hb htl iw_Q ty_Q ty_Q_ok nm_Q hown hK hP hD hS 0 rfl rfl 3 (by decide) (htl _ k_284) (fun _ h9 => h9) rfl (by decide +kernel) rfl rfl (Nat.le_of_ble_eq_true rfl) d_Q_begin_9 (fun H locs hP hD hS => ?_)
  have hP : va_P G.1 classes [(h0, O_Q f_fault f_place a_graph (0 : Int32) f_left f_right), (a_graph, O_G t1.1 t1.2.1 t1.2.2 a_graph_rows a_graph_left a_graph_right a_graph_by)] H := hP
  have hD : va_D A [(h0, O_Q f_fault f_place a_graph (0 : Int32) f_left f_right), (a_graph, O_G t1.1 t1.2.1 t1.2.2 a_graph_rows a_graph_left a_graph_right a_graph_by)] := hD
  refine lv_aload_n hx hb d_Q_begin_12 rfl (lv_at hl 0 rfl) ?_
  refine lv_iconst (v := (0 : Int32)) hx hb d_Q_begin_13 (by decide) ?_
  refine va_put (D := G.1) (ci := 6) (v := .int (0 : Int32)) (ty := .int) (C := n_Q) (T := T_Q) (N := 6) hx hb htl iw_Q ty_Q ty_Q_ok nm_Q hown hK hP hD hS 0 rfl rfl 4 (by decide) (htl _ k_285) (fun _ h9 => h9) rfl (by decide +kernel) rfl rfl (Nat.le_of_ble_eq_true rfl) d_Q_begin_14 (fun H locs hP hD hS => ?_)
  have hP : va_P G.1 classes [(h0, O_Q f_fault f_place a_graph (0 : Int32) (0 : Int32) f_right), (a_graph, O_G t1.1 t1.2.1 t1.2.2 a_graph_rows a_graph_left a_graph_right a_graph_by)] H := hP
  have hD : va_D A [(h0, O_Q f_fault f_place a_graph (0 : Int32) (0 : Int32) f_right), (a_graph, O_G t1.1 t1.2.1 t1.2.2 a_graph_rows a_graph_left a_graph_right a_graph_by)] := hD
  refine lv_aload_n hx hb d_Q_begin_17 rfl (lv_at hl 0 rfl) ?_
  refine lv_iconst (v := (0 : Int32)) hx hb d_Q_begin_18 (by decide) ?_
  refine va_put (D := G.1) (ci := 6) (v := .int (0 : Int32)) (ty := .int) (C := n_Q) (T := T_Q) (N := 6) hx hb htl iw_Q ty_Q ty_Q_ok nm_Q hown hK hP hD hS 0 rfl rfl 5 (by decide) (htl _ k_286) (fun _ h9 => h9) rfl (by decide +kernel) rfl rfl (Nat.le_of_ble_eq_true rfl) d_Q_begin_19 (fun H locs hP hD hS => ?_)
  have hP : va_P G.1 classes [(h0, O_Q f_fault f_place a_graph (0 : Int32) (0 : Int32) (0 : Int32)), (a_graph, O_G t1.1 t1.2.1 t1.2.2 a_graph_rows a_graph_left a_graph_right a_graph_by)] H := hP
  have hD : va_D A [(h0, O_Q f_fault f_place a_graph (0 : Int32) (0 : Int32) (0 : Int32)), (a_graph, O_G t1.1 t1.2.1 t1.2.2 a_graph_rows a_graph_left a_graph_right a_graph_by)] := hD
  cases hf
  exact hret 22 ls H locs hP hS d_Q_begin_22
set_option maxHeartbeats 4000000 in
set_option maxRecDepth 100000 in
theorem c_Q_afterWord (l : Launch) (G : va_G × (Nat → ClassId)) (Y : (Nat → Nat) × (Nat → Nat)) (x0 : Int32) (res : Int32) (hf : Q_afterWord x0 = res) : Ci l classes y_Q_afterWord b_Q_afterWord 1 (some .int) (rmk 0) G.1 (tyL G) Y [.int x0] [] [] res := by
  refine entI (by decide) (Nat.le_of_ble_eq_true rfl) ?_
  intro p e s m args below meth c ls A Q hx hb hml hown htl hK hsk wq hl hret
  obtain ⟨hP, hD, hS⟩ := wq
  have hl : lv_has ls 1 [(0, .int x0)] := hl
  have hS : va_S A s.heap s.heap [] := hS
  obtain ⟨H, hH⟩ : ∃ H : Heap, H = s.heap := ⟨_, rfl⟩
  obtain ⟨locs, hlocs⟩ : ∃ z : List Loc, z = [] := ⟨_, rfl⟩
  rw [← hH] at hP
  replace hS : va_S A s.heap H locs := by rw [hH, hlocs]; exact hS
  suffices hgo : W p l e (rmk 0) s m args below meth c H locs 0 0 Q (F0 m 0 ls []) by rw [hH, hlocs] at hgo; exact hgo
  refine lv_iload_n hx hb d_Q_afterWord_0 rfl (lv_at hl 0 rfl) ?_
  by_cases c1 : x0 = (0 : Int32)
  · have hf := di_t c1 hf
    refine lv_tableIn (tgt := 52) hx hb d_Q_afterWord_1 (by rw [c1]; decide) (by rw [c1]; decide) (by rw [c1]; rfl) (by decide) ?_
    refine lv_iconst (v := (0 : Int32)) hx hb d_Q_afterWord_52 (by decide) ?_
    cases hf
    exact hret 53 ls H locs hP hS d_Q_afterWord_53
  have hf := di_f c1 hf
  by_cases c2 : x0 = (1 : Int32)
  · have hf := di_t c2 hf
    refine lv_tableIn (tgt := 61) hx hb d_Q_afterWord_1 (by rw [c2]; decide) (by rw [c2]; decide) (by rw [c2]; rfl) (by decide) ?_
    refine lv_iconst (v := (-1 : Int32)) hx hb d_Q_afterWord_61 (by decide) ?_
    cases hf
    exact hret 62 ls H locs hP hS d_Q_afterWord_62
  have hf := di_f c2 hf
  by_cases c3 : x0 = (2 : Int32)
  · have hf := di_t c3 hf
    refine lv_tableIn (tgt := 61) hx hb d_Q_afterWord_1 (by rw [c3]; decide) (by rw [c3]; decide) (by rw [c3]; rfl) (by decide) ?_
    refine lv_iconst (v := (-1 : Int32)) hx hb d_Q_afterWord_61 (by decide) ?_
    cases hf
    exact hret 62 ls H locs hP hS d_Q_afterWord_62
  have hf := di_f c3 hf
  by_cases c4 : x0 = (3 : Int32)
  · have hf := di_t c4 hf
    refine lv_tableIn (tgt := 61) hx hb d_Q_afterWord_1 (by rw [c4]; decide) (by rw [c4]; decide) (by rw [c4]; rfl) (by decide) ?_
    refine lv_iconst (v := (-1 : Int32)) hx hb d_Q_afterWord_61 (by decide) ?_
    cases hf
    exact hret 62 ls H locs hP hS d_Q_afterWord_62
  have hf := di_f c4 hf
  by_cases c5 : x0 = (4 : Int32)
  · have hf := di_t c5 hf
    refine lv_tableIn (tgt := 61) hx hb d_Q_afterWord_1 (by rw [c5]; decide) (by rw [c5]; decide) (by rw [c5]; rfl) (by decide) ?_
    refine lv_iconst (v := (-1 : Int32)) hx hb d_Q_afterWord_61 (by decide) ?_
    cases hf
    exact hret 62 ls H locs hP hS d_Q_afterWord_62
  have hf := di_f c5 hf
  by_cases c6 : x0 = (5 : Int32)
  · have hf := di_t c6 hf
    refine lv_tableIn (tgt := 61) hx hb d_Q_afterWord_1 (by rw [c6]; decide) (by rw [c6]; decide) (by rw [c6]; rfl) (by decide) ?_
    refine lv_iconst (v := (-1 : Int32)) hx hb d_Q_afterWord_61 (by decide) ?_
    cases hf
    exact hret 62 ls H locs hP hS d_Q_afterWord_62
  have hf := di_f c6 hf
  by_cases c7 : x0 = (6 : Int32)
  · have hf := di_t c7 hf
    refine lv_tableIn (tgt := 54) hx hb d_Q_afterWord_1 (by rw [c7]; decide) (by rw [c7]; decide) (by rw [c7]; rfl) (by decide) ?_
    refine lv_iconst (v := (1 : Int32)) hx hb d_Q_afterWord_54 (by decide) ?_
    cases hf
    exact hret 55 ls H locs hP hS d_Q_afterWord_55
  have hf := di_f c7 hf
  by_cases c8 : x0 = (7 : Int32)
  · have hf := di_t c8 hf
    refine lv_tableIn (tgt := 56) hx hb d_Q_afterWord_1 (by rw [c8]; decide) (by rw [c8]; decide) (by rw [c8]; rfl) (by decide) ?_
    refine lv_iconst (v := (3 : Int32)) hx hb d_Q_afterWord_56 (by decide) ?_
    cases hf
    exact hret 57 ls H locs hP hS d_Q_afterWord_57
  have hf := di_f c8 hf
  by_cases c9 : x0 = (8 : Int32)
  · have hf := di_t c9 hf
    refine lv_tableIn (tgt := 58) hx hb d_Q_afterWord_1 (by rw [c9]; decide) (by rw [c9]; decide) (by rw [c9]; rfl) (by decide) ?_
    refine lv_bipush (v := (8 : Int32)) hx hb d_Q_afterWord_58 (by decide) ?_
    cases hf
    exact hret 60 ls H locs hP hS d_Q_afterWord_60
  have hf := di_f c9 hf
  refine lv_tableOut (tgt := 61) hx hb d_Q_afterWord_1 (sw_out_0_8 c1 c2 c3 c4 c5 c6 c7 c8 c9) (by decide) ?_
  refine lv_iconst (v := (-1 : Int32)) hx hb d_Q_afterWord_61 (by decide) ?_
  cases hf
  exact hret 62 ls H locs hP hS d_Q_afterWord_62
set_option maxHeartbeats 4000000 in
set_option maxRecDepth 100000 in
theorem c_Q_after (l : Launch) (G : va_G × (Nat → ClassId)) (Y : (Nat → Nat) × (Nat → Nat)) (h0 : Nat) (a_graph : Nat) (f_fault : Int32) (f_place : Int32) (f_awaited : Int32) (f_left : Int32) (f_right : Int32) (x1 : Int32) (res : Int32) (hf : Q_after f_awaited x1 = res) : Ci l classes y_Q_after b_Q_after 2 (some .int) (rmk 1) G.1 (tyL G) Y [.ref h0, .int x1] [(h0, O_Q f_fault f_place a_graph f_awaited f_left f_right)] [(h0, O_Q f_fault f_place a_graph f_awaited f_left f_right)] res := by
  refine entI (by decide) (Nat.le_of_ble_eq_true rfl) ?_
  intro p e s m args below meth c ls A Q hx hb hml hown htl hK hsk wq hl hret
  obtain ⟨hP, hD, hS⟩ := wq
  have hl : lv_has ls 2 [(0, .ref h0), (1, .int x1)] := hl
  have hS : va_S A s.heap s.heap [] := hS
  obtain ⟨H, hH⟩ : ∃ H : Heap, H = s.heap := ⟨_, rfl⟩
  obtain ⟨locs, hlocs⟩ : ∃ z : List Loc, z = [] := ⟨_, rfl⟩
  rw [← hH] at hP
  replace hS : va_S A s.heap H locs := by rw [hH, hlocs]; exact hS
  suffices hgo : W p l e (rmk 1) s m args below meth c H locs 0 0 Q (F0 m 0 ls []) by rw [hH, hlocs] at hgo; exact hgo
  refine lv_aload_n hx hb d_Q_after_0 rfl (lv_at hl 0 rfl) ?_
  refine va_get (D := G.1) (ci := 6) (v := .int f_awaited) (C := n_Q) (T := T_Q) (N := 6) hx hb htl iw_Q hown hK hP 0 rfl rfl 3 (by decide) (htl _ k_284) (fun _ h9 => h9) rfl d_Q_after_1 ?_
  by_cases c1 : f_awaited = (0 : Int32)
  · have hf := di_t c1 hf
    refine lv_tableIn (tgt := 56) hx hb d_Q_after_4 (by rw [c1]; decide) (by rw [c1]; decide) (by rw [c1]; rfl) (by decide) ?_
    refine lv_iload_n hx hb d_Q_after_56 rfl (lv_at hl 1 rfl) ?_
    refine call_i (isC := []) (run_S (As := [.int x1]) (rest := []) hx hb hml hown htl (c_Q_afterWord l G Y  x1 _ rfl) ms_Q_afterWord k_641 (hRk (by decide) (by decide)) hK hsk hS hP hD (isC := []) rfl (by decide) rfl hl.1 rfl (lv_room (Nat.le_of_ble_eq_true rfl)) d_Q_after_57) hP hD hS rfl rfl (fun H locs hP hD hS => ?_)
    have hP : va_P G.1 classes [(h0, O_Q f_fault f_place a_graph f_awaited f_left f_right)] H := hP
    have hD : va_D A [(h0, O_Q f_fault f_place a_graph f_awaited f_left f_right)] := hD
    cases hf
    exact hret 60 ls H locs hP hS d_Q_after_60
  have hf := di_f c1 hf
  by_cases c2 : f_awaited = (1 : Int32)
  · have hf := di_t c2 hf
    refine lv_tableIn (tgt := 61) hx hb d_Q_after_4 (by rw [c2]; decide) (by rw [c2]; decide) (by rw [c2]; rfl) (by decide) ?_
    refine lv_iload_n hx hb d_Q_after_61 rfl (lv_at hl 1 rfl) ?_
    refine lv_iconst (v := (1 : Int32)) hx hb d_Q_after_62 (by decide) ?_
    refine lv_icmp_ne (tgt := 70) hx hb d_Q_after_63 (by decide) (fun c3 => ?_) (fun c3 => ?_)
    · have hf := di_f c3 hf
      refine lv_iconst (v := (-1 : Int32)) hx hb d_Q_after_70 (by decide) ?_
      cases hf
      exact hret 71 ls H locs hP hS d_Q_after_71
    · have hf := di_t c3 hf
      refine lv_iconst (v := (2 : Int32)) hx hb d_Q_after_66 (by decide) ?_
      refine lv_goto (tgt := 71) hx hb d_Q_after_67 (by decide) ?_
      cases hf
      exact hret 71 ls H locs hP hS d_Q_after_71
  have hf := di_f c2 hf
  by_cases c4 : f_awaited = (2 : Int32)
  · have hf := di_t c4 hf
    refine lv_tableIn (tgt := 72) hx hb d_Q_after_4 (by rw [c4]; decide) (by rw [c4]; decide) (by rw [c4]; rfl) (by decide) ?_
    refine lv_iload_n hx hb d_Q_after_72 rfl (lv_at hl 1 rfl) ?_
    refine lv_iconst (v := (2 : Int32)) hx hb d_Q_after_73 (by decide) ?_
    refine lv_icmp_ne (tgt := 81) hx hb d_Q_after_74 (by decide) (fun c5 => ?_) (fun c5 => ?_)
    · have hf := di_f c5 hf
      refine lv_iconst (v := (-1 : Int32)) hx hb d_Q_after_81 (by decide) ?_
      cases hf
      exact hret 82 ls H locs hP hS d_Q_after_82
    · have hf := di_t c5 hf
      refine lv_iconst (v := (0 : Int32)) hx hb d_Q_after_77 (by decide) ?_
      refine lv_goto (tgt := 82) hx hb d_Q_after_78 (by decide) ?_
      cases hf
      exact hret 82 ls H locs hP hS d_Q_after_82
  have hf := di_f c4 hf
  by_cases c6 : f_awaited = (3 : Int32)
  · have hf := di_t c6 hf
    refine lv_tableIn (tgt := 83) hx hb d_Q_after_4 (by rw [c6]; decide) (by rw [c6]; decide) (by rw [c6]; rfl) (by decide) ?_
    refine lv_iload_n hx hb d_Q_after_83 rfl (lv_at hl 1 rfl) ?_
    refine lv_iconst (v := (1 : Int32)) hx hb d_Q_after_84 (by decide) ?_
    refine lv_icmp_ne (tgt := 92) hx hb d_Q_after_85 (by decide) (fun c7 => ?_) (fun c7 => ?_)
    · have hf := di_f c7 hf
      refine lv_iconst (v := (-1 : Int32)) hx hb d_Q_after_92 (by decide) ?_
      cases hf
      exact hret 93 ls H locs hP hS d_Q_after_93
    · have hf := di_t c7 hf
      refine lv_iconst (v := (4 : Int32)) hx hb d_Q_after_88 (by decide) ?_
      refine lv_goto (tgt := 93) hx hb d_Q_after_89 (by decide) ?_
      cases hf
      exact hret 93 ls H locs hP hS d_Q_after_93
  have hf := di_f c6 hf
  by_cases c8 : f_awaited = (4 : Int32)
  · have hf := di_t c8 hf
    refine lv_tableIn (tgt := 94) hx hb d_Q_after_4 (by rw [c8]; decide) (by rw [c8]; decide) (by rw [c8]; rfl) (by decide) ?_
    refine lv_iload_n hx hb d_Q_after_94 rfl (lv_at hl 1 rfl) ?_
    refine lv_iconst (v := (3 : Int32)) hx hb d_Q_after_95 (by decide) ?_
    refine lv_icmp_ne (tgt := 103) hx hb d_Q_after_96 (by decide) (fun c9 => ?_) (fun c9 => ?_)
    · have hf := di_f c9 hf
      refine lv_iload_n hx hb d_Q_after_103 rfl (lv_at hl 1 rfl) ?_
      refine lv_iconst (v := (1 : Int32)) hx hb d_Q_after_104 (by decide) ?_
      refine lv_icmp_ne (tgt := 112) hx hb d_Q_after_105 (by decide) (fun c10 => ?_) (fun c10 => ?_)
      · have hf := di_f c10 hf
        refine lv_iconst (v := (-1 : Int32)) hx hb d_Q_after_112 (by decide) ?_
        cases hf
        exact hret 113 ls H locs hP hS d_Q_after_113
      · have hf := di_t c10 hf
        refine lv_iconst (v := (4 : Int32)) hx hb d_Q_after_108 (by decide) ?_
        refine lv_goto (tgt := 113) hx hb d_Q_after_109 (by decide) ?_
        cases hf
        exact hret 113 ls H locs hP hS d_Q_after_113
    · have hf := di_t c9 hf
      refine lv_iconst (v := (5 : Int32)) hx hb d_Q_after_99 (by decide) ?_
      refine lv_goto (tgt := 113) hx hb d_Q_after_100 (by decide) ?_
      cases hf
      exact hret 113 ls H locs hP hS d_Q_after_113
  have hf := di_f c8 hf
  by_cases c11 : f_awaited = (5 : Int32)
  · have hf := di_t c11 hf
    refine lv_tableIn (tgt := 114) hx hb d_Q_after_4 (by rw [c11]; decide) (by rw [c11]; decide) (by rw [c11]; rfl) (by decide) ?_
    refine lv_iload_n hx hb d_Q_after_114 rfl (lv_at hl 1 rfl) ?_
    refine lv_iconst (v := (1 : Int32)) hx hb d_Q_after_115 (by decide) ?_
    refine lv_icmp_ne (tgt := 124) hx hb d_Q_after_116 (by decide) (fun c12 => ?_) (fun c12 => ?_)
    · have hf := di_f c12 hf
      refine lv_iconst (v := (-1 : Int32)) hx hb d_Q_after_124 (by decide) ?_
      cases hf
      exact hret 125 ls H locs hP hS d_Q_after_125
    · have hf := di_t c12 hf
      refine lv_bipush (v := (6 : Int32)) hx hb d_Q_after_119 (by decide) ?_
      refine lv_goto (tgt := 125) hx hb d_Q_after_121 (by decide) ?_
      cases hf
      exact hret 125 ls H locs hP hS d_Q_after_125
  have hf := di_f c11 hf
  by_cases c13 : f_awaited = (6 : Int32)
  · have hf := di_t c13 hf
    refine lv_tableIn (tgt := 126) hx hb d_Q_after_4 (by rw [c13]; decide) (by rw [c13]; decide) (by rw [c13]; rfl) (by decide) ?_
    refine lv_iload_n hx hb d_Q_after_126 rfl (lv_at hl 1 rfl) ?_
    refine lv_bipush (v := (9 : Int32)) hx hb d_Q_after_127 (by decide) ?_
    refine lv_icmp_ne (tgt := 137) hx hb d_Q_after_129 (by decide) (fun c14 => ?_) (fun c14 => ?_)
    · have hf := di_f c14 hf
      refine lv_iload_n hx hb d_Q_after_137 rfl (lv_at hl 1 rfl) ?_
      refine lv_iconst (v := (1 : Int32)) hx hb d_Q_after_138 (by decide) ?_
      refine lv_icmp_ne (tgt := 147) hx hb d_Q_after_139 (by decide) (fun c15 => ?_) (fun c15 => ?_)
      · have hf := di_f c15 hf
        refine lv_iconst (v := (-1 : Int32)) hx hb d_Q_after_147 (by decide) ?_
        cases hf
        exact hret 148 ls H locs hP hS d_Q_after_148
      · have hf := di_t c15 hf
        refine lv_bipush (v := (6 : Int32)) hx hb d_Q_after_142 (by decide) ?_
        refine lv_goto (tgt := 148) hx hb d_Q_after_144 (by decide) ?_
        cases hf
        exact hret 148 ls H locs hP hS d_Q_after_148
    · have hf := di_t c14 hf
      refine lv_bipush (v := (7 : Int32)) hx hb d_Q_after_132 (by decide) ?_
      refine lv_goto (tgt := 148) hx hb d_Q_after_134 (by decide) ?_
      cases hf
      exact hret 148 ls H locs hP hS d_Q_after_148
  have hf := di_f c13 hf
  by_cases c16 : f_awaited = (7 : Int32)
  · have hf := di_t c16 hf
    refine lv_tableIn (tgt := 61) hx hb d_Q_after_4 (by rw [c16]; decide) (by rw [c16]; decide) (by rw [c16]; rfl) (by decide) ?_
    refine lv_iload_n hx hb d_Q_after_61 rfl (lv_at hl 1 rfl) ?_
    refine lv_iconst (v := (1 : Int32)) hx hb d_Q_after_62 (by decide) ?_
    refine lv_icmp_ne (tgt := 70) hx hb d_Q_after_63 (by decide) (fun c17 => ?_) (fun c17 => ?_)
    · have hf := di_f c17 hf
      refine lv_iconst (v := (-1 : Int32)) hx hb d_Q_after_70 (by decide) ?_
      cases hf
      exact hret 71 ls H locs hP hS d_Q_after_71
    · have hf := di_t c17 hf
      refine lv_iconst (v := (2 : Int32)) hx hb d_Q_after_66 (by decide) ?_
      refine lv_goto (tgt := 71) hx hb d_Q_after_67 (by decide) ?_
      cases hf
      exact hret 71 ls H locs hP hS d_Q_after_71
  have hf := di_f c16 hf
  by_cases c18 : f_awaited = (8 : Int32)
  · have hf := di_t c18 hf
    refine lv_tableIn (tgt := 61) hx hb d_Q_after_4 (by rw [c18]; decide) (by rw [c18]; decide) (by rw [c18]; rfl) (by decide) ?_
    refine lv_iload_n hx hb d_Q_after_61 rfl (lv_at hl 1 rfl) ?_
    refine lv_iconst (v := (1 : Int32)) hx hb d_Q_after_62 (by decide) ?_
    refine lv_icmp_ne (tgt := 70) hx hb d_Q_after_63 (by decide) (fun c19 => ?_) (fun c19 => ?_)
    · have hf := di_f c19 hf
      refine lv_iconst (v := (-1 : Int32)) hx hb d_Q_after_70 (by decide) ?_
      cases hf
      exact hret 71 ls H locs hP hS d_Q_after_71
    · have hf := di_t c19 hf
      refine lv_iconst (v := (2 : Int32)) hx hb d_Q_after_66 (by decide) ?_
      refine lv_goto (tgt := 71) hx hb d_Q_after_67 (by decide) ?_
      cases hf
      exact hret 71 ls H locs hP hS d_Q_after_71
  have hf := di_f c18 hf
  refine lv_tableOut (tgt := 149) hx hb d_Q_after_4 (sw_out_0_8 c1 c2 c4 c6 c8 c11 c13 c16 c18) (by decide) ?_
  refine lv_iconst (v := (-1 : Int32)) hx hb d_Q_after_149 (by decide) ?_
  cases hf
  exact hret 150 ls H locs hP hS d_Q_after_150
set_option maxHeartbeats 4000000 in
set_option maxRecDepth 100000 in
theorem c_Q_canStand (l : Launch) (G : va_G × (Nat → ClassId)) (Y : (Nat → Nat) × (Nat → Nat)) (h0 : Nat) (a_graph : Nat) (f_fault : Int32) (f_place : Int32) (f_awaited : Int32) (f_left : Int32) (f_right : Int32) (x1 : Int32) (res : Int32) (hf : Q_canStand f_awaited x1 = res) : Ci l classes y_Q_canStand b_Q_canStand 2 (some .boolean) (rmk 2) G.1 (tyL G) Y [.ref h0, .int x1] [(h0, O_Q f_fault f_place a_graph f_awaited f_left f_right)] [(h0, O_Q f_fault f_place a_graph f_awaited f_left f_right)] res := by
  refine entZ (by decide) (Nat.le_of_ble_eq_true rfl) ?_
  intro p e s m args below meth c ls A Q hx hb hml hown htl hK hsk wq hl hret
  obtain ⟨hP, hD, hS⟩ := wq
  have hl : lv_has ls 2 [(0, .ref h0), (1, .int x1)] := hl
  have hS : va_S A s.heap s.heap [] := hS
  obtain ⟨H, hH⟩ : ∃ H : Heap, H = s.heap := ⟨_, rfl⟩
  obtain ⟨locs, hlocs⟩ : ∃ z : List Loc, z = [] := ⟨_, rfl⟩
  rw [← hH] at hP
  replace hS : va_S A s.heap H locs := by rw [hH, hlocs]; exact hS
  suffices hgo : W p l e (rmk 2) s m args below meth c H locs 0 0 Q (F0 m 0 ls []) by rw [hH, hlocs] at hgo; exact hgo
  refine lv_aload_n hx hb d_Q_canStand_0 rfl (lv_at hl 0 rfl) ?_
  refine lv_iload_n hx hb d_Q_canStand_1 rfl (lv_at hl 1 rfl) ?_
  refine call_i (isC := [0]) (run_V (As := [.int x1]) (rest := []) (ci := 6) (q0 := 0) hx hb hml hown htl (c_Q_after l G Y  h0 a_graph f_fault f_place f_awaited f_left f_right x1 _ rfl) mv_Q_after k_637 (hRk (by decide) (by decide)) hK hsk hS hP hD (isC := [0]) rfl (by decide) rfl rfl rfl hl.1 rfl (lv_room (Nat.le_of_ble_eq_true rfl)) d_Q_canStand_2) hP hD hS rfl rfl (fun H locs hP hD hS => ?_)
  have hP : va_P G.1 classes [(h0, O_Q f_fault f_place a_graph f_awaited f_left f_right)] H := hP
  have hD : va_D A [(h0, O_Q f_fault f_place a_graph f_awaited f_left f_right)] := hD
  refine lv_iconst (v := (-1 : Int32)) hx hb d_Q_canStand_5 (by decide) ?_
  refine lv_icmp_eq (tgt := 13) hx hb d_Q_canStand_6 (by decide) (fun c1 => ?_) (fun c1 => ?_)
  · have hf := di_t c1 hf
    refine lv_iconst (v := (0 : Int32)) hx hb d_Q_canStand_13 (by decide) ?_
    cases hf
    exact hret 14 ls H locs z_0 hP hS d_Q_canStand_14
  · have hf := di_f c1 hf
    refine lv_iconst (v := (1 : Int32)) hx hb d_Q_canStand_9 (by decide) ?_
    refine lv_goto (tgt := 14) hx hb d_Q_canStand_10 (by decide) ?_
    cases hf
    exact hret 14 ls H locs z_1 hP hS d_Q_canStand_14
set_option maxHeartbeats 4000000 in
set_option maxRecDepth 100000 in
theorem c_Q_pass (l : Launch) (G : va_G × (Nat → ClassId)) (Y : (Nat → Nat) × (Nat → Nat)) (h0 : Nat) (a_graph : Nat) (f_fault : Int32) (f_place : Int32) (f_awaited : Int32) (f_left : Int32) (f_right : Int32) (x1 : Int32) (res : Int32) (hf : Q_pass f_awaited x1 = some res) : Cv l classes y_Q_pass b_Q_pass 2 none (rmk 2) G.1 (tyL G) Y [.ref h0, .int x1] [(h0, O_Q f_fault f_place a_graph f_awaited f_left f_right)] [(h0, O_Q f_fault f_place a_graph res f_left f_right)] := by
  refine entV (by decide) (Nat.le_of_ble_eq_true rfl) ?_
  intro p e s m args below meth c ls A Q hx hb hml hown htl hK hsk wq hl hret
  obtain ⟨hP, hD, hS⟩ := wq
  have hl : lv_has ls 2 [(0, .ref h0), (1, .int x1)] := hl
  have hS : va_S A s.heap s.heap [] := hS
  obtain ⟨H, hH⟩ : ∃ H : Heap, H = s.heap := ⟨_, rfl⟩
  obtain ⟨locs, hlocs⟩ : ∃ z : List Loc, z = [] := ⟨_, rfl⟩
  rw [← hH] at hP
  replace hS : va_S A s.heap H locs := by rw [hH, hlocs]; exact hS
  suffices hgo : W p l e (rmk 2) s m args below meth c H locs 0 0 Q (F0 m 0 ls []) by rw [hH, hlocs] at hgo; exact hgo
  refine lv_aload_n hx hb d_Q_pass_0 rfl (lv_at hl 0 rfl) ?_
  refine lv_aload_n hx hb d_Q_pass_1 rfl (lv_at hl 0 rfl) ?_
  refine lv_iload_n hx hb d_Q_pass_2 rfl (lv_at hl 1 rfl) ?_
  refine call_i (isC := [0]) (run_V (As := [.int x1]) (rest := [.ref h0]) (ci := 6) (q0 := 0) hx hb hml hown htl (c_Q_after l G Y  h0 a_graph f_fault f_place f_awaited f_left f_right x1 _ rfl) mv_Q_after k_637 (hRk (by decide) (by decide)) hK hsk hS hP hD (isC := [0]) rfl (by decide) rfl rfl rfl hl.1 rfl (lv_room (Nat.le_of_ble_eq_true rfl)) d_Q_pass_3) hP hD hS rfl rfl (fun H locs hP hD hS => ?_)
  have hP : va_P G.1 classes [(h0, O_Q f_fault f_place a_graph f_awaited f_left f_right)] H := hP
  have hD : va_D A [(h0, O_Q f_fault f_place a_graph f_awaited f_left f_right)] := hD
  refine lv_topi (fun v1 ev1 => ?_)
  have hf := dn_e ev1 hf
  refine va_put (D := G.1) (ci := 6) (v := .int v1) (ty := .int) (C := n_Q) (T := T_Q) (N := 6) hx hb htl iw_Q ty_Q ty_Q_ok nm_Q hown hK hP hD hS 0 rfl rfl 3 (by decide) (htl _ k_284) (fun _ h9 => h9) rfl (by decide +kernel) rfl rfl (Nat.le_of_ble_eq_true rfl) d_Q_pass_6 (fun H locs hP hD hS => ?_)
  have hP : va_P G.1 classes [(h0, O_Q f_fault f_place a_graph v1 f_left f_right)] H := hP
  have hD : va_D A [(h0, O_Q f_fault f_place a_graph v1 f_left f_right)] := hD
  cases hf
  exact hret 9 ls H locs hP hS d_Q_pass_9
set_option maxHeartbeats 4000000 in
set_option maxRecDepth 100000 in
theorem c_Q_absorbEnd (l : Launch) (G : va_G × (Nat → ClassId)) (Y : (Nat → Nat) × (Nat → Nat)) (h0 : Nat) (a_graph : Nat) (a_graph_rows : Nat) (a_graph_left : Nat) (a_graph_right : Nat) (a_graph_by : Nat) (f_fault : Int32) (f_place : Int32) (f_awaited : Int32) (f_left : Int32) (f_right : Int32) (f_graph_relations : Int32) (f_graph_edges : Int32) (f_graph_limit : Int32) (x1 : Int32) (res : Int32 × Int32 × Int32) (hf : Q_absorbEnd f_awaited f_left f_right f_graph_relations x1 = some res) : Ci l classes y_Q_absorbEnd b_Q_absorbEnd 3 (some .int) (rmk 1) G.1 (tyL G) Y [.ref h0, .int x1] [(h0, O_Q f_fault f_place a_graph f_awaited f_left f_right), (a_graph, O_G f_graph_relations f_graph_edges f_graph_limit a_graph_rows a_graph_left a_graph_right a_graph_by)] [(h0, O_Q f_fault f_place a_graph f_awaited res.2.1 res.2.2), (a_graph, O_G f_graph_relations f_graph_edges f_graph_limit a_graph_rows a_graph_left a_graph_right a_graph_by)] res.1 := by
  refine entI (by decide) (Nat.le_of_ble_eq_true rfl) ?_
  intro p e s m args below meth c ls A Q hx hb hml hown htl hK hsk wq hl hret
  obtain ⟨hP, hD, hS⟩ := wq
  have hl : lv_has ls 3 [(0, .ref h0), (1, .int x1)] := hl
  have hS : va_S A s.heap s.heap [] := hS
  obtain ⟨H, hH⟩ : ∃ H : Heap, H = s.heap := ⟨_, rfl⟩
  obtain ⟨locs, hlocs⟩ : ∃ z : List Loc, z = [] := ⟨_, rfl⟩
  rw [← hH] at hP
  replace hS : va_S A s.heap H locs := by rw [hH, hlocs]; exact hS
  suffices hgo : W p l e (rmk 1) s m args below meth c H locs 0 0 Q (F0 m 0 ls []) by rw [hH, hlocs] at hgo; exact hgo
  have hJ49 : ∀ (f_left : Int32) (f_right : Int32) (x2 : Int32) (H : Heap) (locs : List Loc) (ls : Array Slot), PDS G.1 classes A s [(h0, O_Q f_fault f_place a_graph f_awaited f_left f_right), (a_graph, O_G f_graph_relations f_graph_edges f_graph_limit a_graph_rows a_graph_left a_graph_right a_graph_by)] H locs → lv_has ls 3 [(0, .ref h0), (2, .int x2)] → Q_absorbEnd_49 f_awaited f_left f_right f_graph_relations x2 = some res → W p l e (rmk 1) s m args below meth c H locs 0 0 Q (F0 m 49 ls []) := by
    intro f_left f_right x2 H locs ls wq hl hf
    obtain ⟨hP, hD, hS⟩ := wq
    refine lv_aload_n hx hb d_Q_absorbEnd_49 rfl (lv_at hl 0 rfl) ?_
    refine lv_dup hx hb d_Q_absorbEnd_50 rfl ?_
    refine va_get (D := G.1) (ci := 6) (v := .int f_left) (C := n_Q) (T := T_Q) (N := 6) hx hb htl iw_Q hown hK hP 0 rfl rfl 4 (by decide) (htl _ k_285) (fun _ h9 => h9) rfl d_Q_absorbEnd_51 ?_
    refine lv_iload_n hx hb d_Q_absorbEnd_54 rfl (lv_at hl 1 rfl) ?_
    refine lv_ior hx hb d_Q_absorbEnd_55 ?_
    refine lv_topi (fun v7 ev7 => ?_)
    have hf := dn_e ev7 hf
    refine va_put (D := G.1) (ci := 6) (v := .int v7) (ty := .int) (C := n_Q) (T := T_Q) (N := 6) hx hb htl iw_Q ty_Q ty_Q_ok nm_Q hown hK hP hD hS 0 rfl rfl 4 (by decide) (htl _ k_285) (fun _ h9 => h9) rfl (by decide +kernel) rfl rfl (Nat.le_of_ble_eq_true rfl) d_Q_absorbEnd_56 (fun H locs hP hD hS => ?_)
    have hP : va_P G.1 classes [(h0, O_Q f_fault f_place a_graph f_awaited v7 f_right), (a_graph, O_G f_graph_relations f_graph_edges f_graph_limit a_graph_rows a_graph_left a_graph_right a_graph_by)] H := hP
    have hD : va_D A [(h0, O_Q f_fault f_place a_graph f_awaited v7 f_right), (a_graph, O_G f_graph_relations f_graph_edges f_graph_limit a_graph_rows a_graph_left a_graph_right a_graph_by)] := hD
    refine lv_goto (tgt := 72) hx hb d_Q_absorbEnd_59 (by decide) ?_
    refine lv_iconst (v := (0 : Int32)) hx hb d_Q_absorbEnd_72 (by decide) ?_
    cases hf
    exact hret 73 ls H locs hP hS d_Q_absorbEnd_73
  refine lv_aload_n hx hb d_Q_absorbEnd_0 rfl (lv_at hl 0 rfl) ?_
  refine va_get (D := G.1) (ci := 6) (v := .ref a_graph) (C := n_Q) (T := T_Q) (N := 6) hx hb htl iw_Q hown hK hP 0 rfl rfl 2 (by decide) (htl _ k_282) (fun _ h9 => h9) rfl d_Q_absorbEnd_1 ?_
  refine lv_iload_n hx hb d_Q_absorbEnd_4 rfl (lv_at hl 1 rfl) ?_
  refine call_i (isC := [1]) (run_V (As := [.int x1]) (rest := []) (ci := 1) (q0 := 1) hx hb hml hown htl (c_G_hasRelation l G Y  a_graph a_graph_rows a_graph_left a_graph_right a_graph_by f_graph_relations f_graph_edges f_graph_limit x1 _ rfl) mv_G_hasRelation k_706 (hRk (by decide) (by decide)) hK hsk hS hP hD (isC := [1]) rfl (by decide) rfl rfl rfl hl.1 rfl (lv_room (Nat.le_of_ble_eq_true rfl)) d_Q_absorbEnd_5) hP hD hS rfl rfl (fun H locs hP hD hS => ?_)
  have hP : va_P G.1 classes [(h0, O_Q f_fault f_place a_graph f_awaited f_left f_right), (a_graph, O_G f_graph_relations f_graph_edges f_graph_limit a_graph_rows a_graph_left a_graph_right a_graph_by)] H := hP
  have hD : va_D A [(h0, O_Q f_fault f_place a_graph f_awaited f_left f_right), (a_graph, O_G f_graph_relations f_graph_edges f_graph_limit a_graph_rows a_graph_left a_graph_right a_graph_by)] := hD
  refine lv_if_ne (tgt := 13) hx hb d_Q_absorbEnd_8 (by decide) (fun c1 => ?_) (fun c1 => ?_)
  · have hf := di_f c1 hf
    refine lv_iconst (v := (1 : Int32)) hx hb d_Q_absorbEnd_13 (by decide) ?_
    refine lv_iload_n hx hb d_Q_absorbEnd_14 rfl (lv_at hl 1 rfl) ?_
    refine lv_ishl hx hb d_Q_absorbEnd_15 ?_
    refine lv_topi (fun v2 ev2 => ?_)
    have hf := dn_e ev2 hf
    refine lv_istore_n (lv' := [(2, .int v2), (0, .ref h0), (1, .int x1)]) hx hb d_Q_absorbEnd_16 rfl hl (by decide) rfl (fun ls hl => ?_)
    refine lv_aload_n hx hb d_Q_absorbEnd_17 rfl (lv_at hl 1 rfl) ?_
    refine va_get (D := G.1) (ci := 6) (v := .int f_left) (C := n_Q) (T := T_Q) (N := 6) hx hb htl iw_Q hown hK hP 0 rfl rfl 4 (by decide) (htl _ k_285) (fun _ h9 => h9) rfl d_Q_absorbEnd_18 ?_
    refine lv_aload_n hx hb d_Q_absorbEnd_21 rfl (lv_at hl 1 rfl) ?_
    refine va_get (D := G.1) (ci := 6) (v := .int f_right) (C := n_Q) (T := T_Q) (N := 6) hx hb htl iw_Q hown hK hP 0 rfl rfl 5 (by decide) (htl _ k_286) (fun _ h9 => h9) rfl d_Q_absorbEnd_22 ?_
    refine lv_ior hx hb d_Q_absorbEnd_25 ?_
    refine lv_iload_n hx hb d_Q_absorbEnd_26 rfl (lv_at hl 0 rfl) ?_
    refine lv_iand hx hb d_Q_absorbEnd_27 ?_
    refine lv_if_eq (tgt := 33) hx hb d_Q_absorbEnd_28 (by decide) (fun c3 => ?_) (fun c3 => ?_)
    · have hf := di_t c3 hf
      refine lv_aload_n hx hb d_Q_absorbEnd_33 rfl (lv_at hl 1 rfl) ?_
      refine va_get (D := G.1) (ci := 6) (v := .int f_awaited) (C := n_Q) (T := T_Q) (N := 6) hx hb htl iw_Q hown hK hP 0 rfl rfl 3 (by decide) (htl _ k_284) (fun _ h9 => h9) rfl d_Q_absorbEnd_34 ?_
      refine lv_iconst (v := (3 : Int32)) hx hb d_Q_absorbEnd_37 (by decide) ?_
      refine lv_icmp_eq (tgt := 49) hx hb d_Q_absorbEnd_38 (by decide) (fun c4 => ?_) (fun c4 => ?_)
      · have hf := di_t c4 hf
        exact hJ49 f_left f_right v2 H locs ls ⟨hP, hD, hS⟩ (lv_sub hl [1, 0] rfl) hf
      · have hf := di_f c4 hf
        refine lv_aload_n hx hb d_Q_absorbEnd_41 rfl (lv_at hl 1 rfl) ?_
        refine va_get (D := G.1) (ci := 6) (v := .int f_awaited) (C := n_Q) (T := T_Q) (N := 6) hx hb htl iw_Q hown hK hP 0 rfl rfl 3 (by decide) (htl _ k_284) (fun _ h9 => h9) rfl d_Q_absorbEnd_42 ?_
        refine lv_iconst (v := (4 : Int32)) hx hb d_Q_absorbEnd_45 (by decide) ?_
        refine lv_icmp_ne (tgt := 62) hx hb d_Q_absorbEnd_46 (by decide) (fun c5 => ?_) (fun c5 => ?_)
        · have hf := di_f c5 hf
          refine lv_aload_n hx hb d_Q_absorbEnd_62 rfl (lv_at hl 1 rfl) ?_
          refine lv_dup hx hb d_Q_absorbEnd_63 rfl ?_
          refine va_get (D := G.1) (ci := 6) (v := .int f_right) (C := n_Q) (T := T_Q) (N := 6) hx hb htl iw_Q hown hK hP 0 rfl rfl 5 (by decide) (htl _ k_286) (fun _ h9 => h9) rfl d_Q_absorbEnd_64 ?_
          refine lv_iload_n hx hb d_Q_absorbEnd_67 rfl (lv_at hl 0 rfl) ?_
          refine lv_ior hx hb d_Q_absorbEnd_68 ?_
          refine lv_topi (fun v6 ev6 => ?_)
          have hf := dn_e ev6 hf
          refine va_put (D := G.1) (ci := 6) (v := .int v6) (ty := .int) (C := n_Q) (T := T_Q) (N := 6) hx hb htl iw_Q ty_Q ty_Q_ok nm_Q hown hK hP hD hS 0 rfl rfl 5 (by decide) (htl _ k_286) (fun _ h9 => h9) rfl (by decide +kernel) rfl rfl (Nat.le_of_ble_eq_true rfl) d_Q_absorbEnd_69 (fun H locs hP hD hS => ?_)
          have hP : va_P G.1 classes [(h0, O_Q f_fault f_place a_graph f_awaited f_left v6), (a_graph, O_G f_graph_relations f_graph_edges f_graph_limit a_graph_rows a_graph_left a_graph_right a_graph_by)] H := hP
          have hD : va_D A [(h0, O_Q f_fault f_place a_graph f_awaited f_left v6), (a_graph, O_G f_graph_relations f_graph_edges f_graph_limit a_graph_rows a_graph_left a_graph_right a_graph_by)] := hD
          refine lv_iconst (v := (0 : Int32)) hx hb d_Q_absorbEnd_72 (by decide) ?_
          cases hf
          exact hret 73 ls H locs hP hS d_Q_absorbEnd_73
        · have hf := di_t c5 hf
          exact hJ49 f_left f_right v2 H locs ls ⟨hP, hD, hS⟩ (lv_sub hl [1, 0] rfl) hf
    · have hf := di_f c3 hf
      refine lv_iconst (v := (3 : Int32)) hx hb d_Q_absorbEnd_31 (by decide) ?_
      cases hf
      exact hret 32 ls H locs hP hS d_Q_absorbEnd_32
  · have hf := di_t c1 hf
    refine lv_iconst (v := (2 : Int32)) hx hb d_Q_absorbEnd_11 (by decide) ?_
    cases hf
    exact hret 12 ls H locs hP hS d_Q_absorbEnd_12
set_option maxHeartbeats 4000000 in
set_option maxRecDepth 100000 in
theorem c_Q_absorbLimit (l : Launch) (G : va_G × (Nat → ClassId)) (Y : (Nat → Nat) × (Nat → Nat)) (h0 : Nat) (a_graph : Nat) (a_graph_rows : Nat) (a_graph_left : Nat) (a_graph_right : Nat) (a_graph_by : Nat) (f_fault : Int32) (f_place : Int32) (f_awaited : Int32) (f_left : Int32) (f_right : Int32) (f_graph_relations : Int32) (f_graph_edges : Int32) (f_graph_limit : Int32) (x1 : Int32) (res : Int32 × Int32) (hf : Q_absorbLimit f_graph_limit x1 = some res) : Ci l classes y_Q_absorbLimit b_Q_absorbLimit 2 (some .int) (rmk 1) G.1 (tyL G) Y [.ref h0, .int x1] [(h0, O_Q f_fault f_place a_graph f_awaited f_left f_right), (a_graph, O_G f_graph_relations f_graph_edges f_graph_limit a_graph_rows a_graph_left a_graph_right a_graph_by)] [(h0, O_Q f_fault f_place a_graph f_awaited f_left f_right), (a_graph, O_G f_graph_relations f_graph_edges res.2 a_graph_rows a_graph_left a_graph_right a_graph_by)] res.1 := by
  refine entI (by decide) (Nat.le_of_ble_eq_true rfl) ?_
  intro p e s m args below meth c ls A Q hx hb hml hown htl hK hsk wq hl hret
  obtain ⟨hP, hD, hS⟩ := wq
  have hl : lv_has ls 2 [(0, .ref h0), (1, .int x1)] := hl
  have hS : va_S A s.heap s.heap [] := hS
  obtain ⟨H, hH⟩ : ∃ H : Heap, H = s.heap := ⟨_, rfl⟩
  obtain ⟨locs, hlocs⟩ : ∃ z : List Loc, z = [] := ⟨_, rfl⟩
  rw [← hH] at hP
  replace hS : va_S A s.heap H locs := by rw [hH, hlocs]; exact hS
  suffices hgo : W p l e (rmk 1) s m args below meth c H locs 0 0 Q (F0 m 0 ls []) by rw [hH, hlocs] at hgo; exact hgo
  refine lv_iload_n hx hb d_Q_absorbLimit_0 rfl (lv_at hl 1 rfl) ?_
  refine call_i (isC := []) (run_S (As := [.int x1]) (rest := []) hx hb hml hown htl (c_G_canBeLimit l G Y  x1 _ rfl) ms_G_canBeLimit k_699 (hRk (by decide) (by decide)) hK hsk hS hP hD (isC := []) rfl (by decide) rfl hl.1 rfl (lv_room (Nat.le_of_ble_eq_true rfl)) d_Q_absorbLimit_1) hP hD hS rfl rfl (fun H locs hP hD hS => ?_)
  have hP : va_P G.1 classes [(h0, O_Q f_fault f_place a_graph f_awaited f_left f_right), (a_graph, O_G f_graph_relations f_graph_edges f_graph_limit a_graph_rows a_graph_left a_graph_right a_graph_by)] H := hP
  have hD : va_D A [(h0, O_Q f_fault f_place a_graph f_awaited f_left f_right), (a_graph, O_G f_graph_relations f_graph_edges f_graph_limit a_graph_rows a_graph_left a_graph_right a_graph_by)] := hD
  refine lv_if_ne (tgt := 9) hx hb d_Q_absorbLimit_4 (by decide) (fun c1 => ?_) (fun c1 => ?_)
  · have hf := di_f c1 hf
    refine lv_aload_n hx hb d_Q_absorbLimit_9 rfl (lv_at hl 0 rfl) ?_
    refine va_get (D := G.1) (ci := 6) (v := .ref a_graph) (C := n_Q) (T := T_Q) (N := 6) hx hb htl iw_Q hown hK hP 0 rfl rfl 2 (by decide) (htl _ k_282) (fun _ h9 => h9) rfl d_Q_absorbLimit_10 ?_
    refine lv_iload_n hx hb d_Q_absorbLimit_13 rfl (lv_at hl 1 rfl) ?_
    refine va_put (D := G.1) (ci := 1) (v := .int x1) (ty := .int) (C := n_G) (T := T_G) (N := 7) hx hb htl iw_G ty_G ty_G_ok nm_G hown hK hP hD hS 1 rfl rfl 2 (by decide) (htl _ k_148) (fun _ h9 => h9) rfl (by decide +kernel) rfl rfl (Nat.le_of_ble_eq_true rfl) d_Q_absorbLimit_14 (fun H locs hP hD hS => ?_)
    have hP : va_P G.1 classes [(h0, O_Q f_fault f_place a_graph f_awaited f_left f_right), (a_graph, O_G f_graph_relations f_graph_edges x1 a_graph_rows a_graph_left a_graph_right a_graph_by)] H := hP
    have hD : va_D A [(h0, O_Q f_fault f_place a_graph f_awaited f_left f_right), (a_graph, O_G f_graph_relations f_graph_edges x1 a_graph_rows a_graph_left a_graph_right a_graph_by)] := hD
    refine lv_iconst (v := (0 : Int32)) hx hb d_Q_absorbLimit_17 (by decide) ?_
    cases hf
    exact hret 18 ls H locs hP hS d_Q_absorbLimit_18
  · have hf := di_t c1 hf
    refine lv_iconst (v := (2 : Int32)) hx hb d_Q_absorbLimit_7 (by decide) ?_
    cases hf
    exact hret 8 ls H locs hP hS d_Q_absorbLimit_8
set_option maxHeartbeats 4000000 in
set_option maxRecDepth 100000 in
theorem c_Q_absorbBy (l : Launch) (G : va_G × (Nat → ClassId)) (Y : (Nat → Nat) × (Nat → Nat)) (h0 : Nat) (a_graph : Nat) (a_graph_rows : Nat) (a_graph_left : Nat) (a_graph_right : Nat) (a_graph_by : Nat) (f_fault : Int32) (f_place : Int32) (f_awaited : Int32) (f_left : Int32) (f_right : Int32) (f_graph_relations : Int32) (f_graph_edges : Int32) (f_graph_limit : Int32) (g_graph_by : Nat → Int32) (g_graph_left : Nat → Int32) (g_graph_right : Nat → Int32) (x1 : Int32) (res : Int32 × Int32 × (Nat → Int32) × (Nat → Int32) × (Nat → Int32)) (hf : Q_absorbBy f_left f_right f_graph_edges g_graph_by g_graph_left g_graph_right x1 = some res) : Ci l classes y_Q_absorbBy b_Q_absorbBy 2 (some .int) (rmk 1) G.1 (tyL G) Y [.ref h0, .int x1] [(h0, O_Q f_fault f_place a_graph f_awaited f_left f_right), (a_graph, O_G f_graph_relations f_graph_edges f_graph_limit a_graph_rows a_graph_left a_graph_right a_graph_by), (a_graph_by, aI G 16 g_graph_by), (a_graph_left, aI G 16 g_graph_left), (a_graph_right, aI G 16 g_graph_right)] [(h0, O_Q f_fault f_place a_graph f_awaited f_left f_right), (a_graph, O_G f_graph_relations res.2.1 f_graph_limit a_graph_rows a_graph_left a_graph_right a_graph_by), (a_graph_by, aI G 16 res.2.2.1), (a_graph_left, aI G 16 res.2.2.2.1), (a_graph_right, aI G 16 res.2.2.2.2)] res.1 := by
  refine entI (by decide) (Nat.le_of_ble_eq_true rfl) ?_
  intro p e s m args below meth c ls A Q hx hb hml hown htl hK hsk wq hl hret
  obtain ⟨hP, hD, hS⟩ := wq
  have hl : lv_has ls 2 [(0, .ref h0), (1, .int x1)] := hl
  have hS : va_S A s.heap s.heap [] := hS
  obtain ⟨H, hH⟩ : ∃ H : Heap, H = s.heap := ⟨_, rfl⟩
  obtain ⟨locs, hlocs⟩ : ∃ z : List Loc, z = [] := ⟨_, rfl⟩
  rw [← hH] at hP
  replace hS : va_S A s.heap H locs := by rw [hH, hlocs]; exact hS
  suffices hgo : W p l e (rmk 1) s m args below meth c H locs 0 0 Q (F0 m 0 ls []) by rw [hH, hlocs] at hgo; exact hgo
  refine lv_iload_n hx hb d_Q_absorbBy_0 rfl (lv_at hl 1 rfl) ?_
  refine call_i (isC := []) (run_S (As := [.int x1]) (rest := []) hx hb hml hown htl (c_G_canBeBy l G Y  x1 _ rfl) ms_G_canBeBy k_687 (hRk (by decide) (by decide)) hK hsk hS hP hD (isC := []) rfl (by decide) rfl hl.1 rfl (lv_room (Nat.le_of_ble_eq_true rfl)) d_Q_absorbBy_1) hP hD hS rfl rfl (fun H locs hP hD hS => ?_)
  have hP : va_P G.1 classes [(h0, O_Q f_fault f_place a_graph f_awaited f_left f_right), (a_graph, O_G f_graph_relations f_graph_edges f_graph_limit a_graph_rows a_graph_left a_graph_right a_graph_by), (a_graph_by, aI G 16 g_graph_by), (a_graph_left, aI G 16 g_graph_left), (a_graph_right, aI G 16 g_graph_right)] H := hP
  have hD : va_D A [(h0, O_Q f_fault f_place a_graph f_awaited f_left f_right), (a_graph, O_G f_graph_relations f_graph_edges f_graph_limit a_graph_rows a_graph_left a_graph_right a_graph_by), (a_graph_by, aI G 16 g_graph_by), (a_graph_left, aI G 16 g_graph_left), (a_graph_right, aI G 16 g_graph_right)] := hD
  refine lv_if_ne (tgt := 9) hx hb d_Q_absorbBy_4 (by decide) (fun c1 => ?_) (fun c1 => ?_)
  · have hf := di_f c1 hf
    refine lv_aload_n hx hb d_Q_absorbBy_9 rfl (lv_at hl 0 rfl) ?_
    refine va_get (D := G.1) (ci := 6) (v := .ref a_graph) (C := n_Q) (T := T_Q) (N := 6) hx hb htl iw_Q hown hK hP 0 rfl rfl 2 (by decide) (htl _ k_282) (fun _ h9 => h9) rfl d_Q_absorbBy_10 ?_
    refine lv_aload_n hx hb d_Q_absorbBy_13 rfl (lv_at hl 0 rfl) ?_
    refine va_get (D := G.1) (ci := 6) (v := .int f_left) (C := n_Q) (T := T_Q) (N := 6) hx hb htl iw_Q hown hK hP 0 rfl rfl 4 (by decide) (htl _ k_285) (fun _ h9 => h9) rfl d_Q_absorbBy_14 ?_
    refine lv_aload_n hx hb d_Q_absorbBy_17 rfl (lv_at hl 0 rfl) ?_
    refine va_get (D := G.1) (ci := 6) (v := .int f_right) (C := n_Q) (T := T_Q) (N := 6) hx hb htl iw_Q hown hK hP 0 rfl rfl 5 (by decide) (htl _ k_286) (fun _ h9 => h9) rfl d_Q_absorbBy_18 ?_
    refine lv_iload_n hx hb d_Q_absorbBy_21 rfl (lv_at hl 1 rfl) ?_
    obtain ⟨t2, hv3, hf⟩ := db_e hf
    refine call_v (isC := [1, 2, 3, 4]) (run_V (As := [.int f_left, .int f_right, .int x1]) (rest := []) (ci := 1) (q0 := 1) hx hb hml hown htl (c_G_addEdge l G Y  a_graph a_graph_rows a_graph_left a_graph_right a_graph_by f_graph_relations f_graph_edges f_graph_limit g_graph_by g_graph_left g_graph_right f_left f_right x1 t2 hv3) mv_G_addEdge k_691 (hRk (by decide) (by decide)) hK hsk hS hP hD (isC := [1, 2, 3, 4]) rfl (by decide) rfl rfl rfl hl.1 rfl (lv_room (Nat.le_of_ble_eq_true rfl)) d_Q_absorbBy_22) hP hD hS rfl rfl (fun H locs hP hD hS => ?_)
    have hP : va_P G.1 classes [(h0, O_Q f_fault f_place a_graph f_awaited f_left f_right), (a_graph, O_G f_graph_relations t2.1 f_graph_limit a_graph_rows a_graph_left a_graph_right a_graph_by), (a_graph_by, aI G 16 t2.2.1), (a_graph_left, aI G 16 t2.2.2.1), (a_graph_right, aI G 16 t2.2.2.2)] H := hP
    have hD : va_D A [(h0, O_Q f_fault f_place a_graph f_awaited f_left f_right), (a_graph, O_G f_graph_relations t2.1 f_graph_limit a_graph_rows a_graph_left a_graph_right a_graph_by), (a_graph_by, aI G 16 t2.2.1), (a_graph_left, aI G 16 t2.2.2.1), (a_graph_right, aI G 16 t2.2.2.2)] := hD
    refine lv_iconst (v := (0 : Int32)) hx hb d_Q_absorbBy_25 (by decide) ?_
    cases hf
    exact hret 26 ls H locs hP hS d_Q_absorbBy_26
  · have hf := di_t c1 hf
    refine lv_iconst (v := (2 : Int32)) hx hb d_Q_absorbBy_7 (by decide) ?_
    cases hf
    exact hret 8 ls H locs hP hS d_Q_absorbBy_8
set_option maxHeartbeats 4000000 in
set_option maxRecDepth 100000 in
theorem c_Q_absorbRows (l : Launch) (G : va_G × (Nat → ClassId)) (Y : (Nat → Nat) × (Nat → Nat)) (h0 : Nat) (a_graph : Nat) (a_graph_rows : Nat) (a_graph_left : Nat) (a_graph_right : Nat) (a_graph_by : Nat) (f_fault : Int32) (f_place : Int32) (f_awaited : Int32) (f_left : Int32) (f_right : Int32) (f_graph_relations : Int32) (f_graph_edges : Int32) (f_graph_limit : Int32) (g_graph_rows : Nat → Int32) (x1 : Int32) (res : Int32 × Int32 × (Nat → Int32)) (hf : Q_absorbRows f_graph_relations g_graph_rows x1 = some res) : Ci l classes y_Q_absorbRows b_Q_absorbRows 2 (some .int) (rmk 1) G.1 (tyL G) Y [.ref h0, .int x1] [(h0, O_Q f_fault f_place a_graph f_awaited f_left f_right), (a_graph, O_G f_graph_relations f_graph_edges f_graph_limit a_graph_rows a_graph_left a_graph_right a_graph_by), (a_graph_rows, aI G 8 g_graph_rows)] [(h0, O_Q f_fault f_place a_graph f_awaited f_left f_right), (a_graph, O_G res.2.1 f_graph_edges f_graph_limit a_graph_rows a_graph_left a_graph_right a_graph_by), (a_graph_rows, aI G 8 res.2.2)] res.1 := by
  refine entI (by decide) (Nat.le_of_ble_eq_true rfl) ?_
  intro p e s m args below meth c ls A Q hx hb hml hown htl hK hsk wq hl hret
  obtain ⟨hP, hD, hS⟩ := wq
  have hl : lv_has ls 2 [(0, .ref h0), (1, .int x1)] := hl
  have hS : va_S A s.heap s.heap [] := hS
  obtain ⟨H, hH⟩ : ∃ H : Heap, H = s.heap := ⟨_, rfl⟩
  obtain ⟨locs, hlocs⟩ : ∃ z : List Loc, z = [] := ⟨_, rfl⟩
  rw [← hH] at hP
  replace hS : va_S A s.heap H locs := by rw [hH, hlocs]; exact hS
  suffices hgo : W p l e (rmk 1) s m args below meth c H locs 0 0 Q (F0 m 0 ls []) by rw [hH, hlocs] at hgo; exact hgo
  refine lv_iload_n hx hb d_Q_absorbRows_0 rfl (lv_at hl 1 rfl) ?_
  refine call_i (isC := []) (run_S (As := [.int x1]) (rest := []) hx hb hml hown htl (c_G_canBeRows l G Y  x1 _ rfl) ms_G_canBeRows k_675 (hRk (by decide) (by decide)) hK hsk hS hP hD (isC := []) rfl (by decide) rfl hl.1 rfl (lv_room (Nat.le_of_ble_eq_true rfl)) d_Q_absorbRows_1) hP hD hS rfl rfl (fun H locs hP hD hS => ?_)
  have hP : va_P G.1 classes [(h0, O_Q f_fault f_place a_graph f_awaited f_left f_right), (a_graph, O_G f_graph_relations f_graph_edges f_graph_limit a_graph_rows a_graph_left a_graph_right a_graph_by), (a_graph_rows, aI G 8 g_graph_rows)] H := hP
  have hD : va_D A [(h0, O_Q f_fault f_place a_graph f_awaited f_left f_right), (a_graph, O_G f_graph_relations f_graph_edges f_graph_limit a_graph_rows a_graph_left a_graph_right a_graph_by), (a_graph_rows, aI G 8 g_graph_rows)] := hD
  refine lv_if_ne (tgt := 9) hx hb d_Q_absorbRows_4 (by decide) (fun c1 => ?_) (fun c1 => ?_)
  · have hf := di_f c1 hf
    refine lv_aload_n hx hb d_Q_absorbRows_9 rfl (lv_at hl 0 rfl) ?_
    refine va_get (D := G.1) (ci := 6) (v := .ref a_graph) (C := n_Q) (T := T_Q) (N := 6) hx hb htl iw_Q hown hK hP 0 rfl rfl 2 (by decide) (htl _ k_282) (fun _ h9 => h9) rfl d_Q_absorbRows_10 ?_
    refine lv_iload_n hx hb d_Q_absorbRows_13 rfl (lv_at hl 1 rfl) ?_
    obtain ⟨t2, hv3, hf⟩ := db_e hf
    refine call_v (isC := [1, 2]) (run_V (As := [.int x1]) (rest := []) (ci := 1) (q0 := 1) hx hb hml hown htl (c_G_addRelation l G Y  a_graph a_graph_rows a_graph_left a_graph_right a_graph_by f_graph_relations f_graph_edges f_graph_limit g_graph_rows x1 t2 hv3) mv_G_addRelation k_679 (hRk (by decide) (by decide)) hK hsk hS hP hD (isC := [1, 2]) rfl (by decide) rfl rfl rfl hl.1 rfl (lv_room (Nat.le_of_ble_eq_true rfl)) d_Q_absorbRows_14) hP hD hS rfl rfl (fun H locs hP hD hS => ?_)
    have hP : va_P G.1 classes [(h0, O_Q f_fault f_place a_graph f_awaited f_left f_right), (a_graph, O_G t2.1 f_graph_edges f_graph_limit a_graph_rows a_graph_left a_graph_right a_graph_by), (a_graph_rows, aI G 8 t2.2)] H := hP
    have hD : va_D A [(h0, O_Q f_fault f_place a_graph f_awaited f_left f_right), (a_graph, O_G t2.1 f_graph_edges f_graph_limit a_graph_rows a_graph_left a_graph_right a_graph_by), (a_graph_rows, aI G 8 t2.2)] := hD
    refine lv_iconst (v := (0 : Int32)) hx hb d_Q_absorbRows_17 (by decide) ?_
    cases hf
    exact hret 18 ls H locs hP hS d_Q_absorbRows_18
  · have hf := di_t c1 hf
    refine lv_iconst (v := (2 : Int32)) hx hb d_Q_absorbRows_7 (by decide) ?_
    cases hf
    exact hret 8 ls H locs hP hS d_Q_absorbRows_8
set_option maxHeartbeats 4000000 in
set_option maxRecDepth 100000 in
theorem c_Q_absorbNumber (l : Launch) (G : va_G × (Nat → ClassId)) (Y : (Nat → Nat) × (Nat → Nat)) (h0 : Nat) (a_graph : Nat) (a_graph_rows : Nat) (a_graph_left : Nat) (a_graph_right : Nat) (a_graph_by : Nat) (f_fault : Int32) (f_place : Int32) (f_awaited : Int32) (f_left : Int32) (f_right : Int32) (f_graph_relations : Int32) (f_graph_edges : Int32) (f_graph_limit : Int32) (g_graph_by : Nat → Int32) (g_graph_left : Nat → Int32) (g_graph_right : Nat → Int32) (g_graph_rows : Nat → Int32) (x1 : Int32) (res : Int32 × Int32 × Int32 × Int32 × Int32 × Int32 × (Nat → Int32) × (Nat → Int32) × (Nat → Int32) × (Nat → Int32)) (hf : Q_absorbNumber f_awaited f_left f_right f_graph_relations f_graph_edges f_graph_limit g_graph_by g_graph_left g_graph_right g_graph_rows x1 = some res) : Ci l classes y_Q_absorbNumber b_Q_absorbNumber 2 (some .int) (rmk 2) G.1 (tyL G) Y [.ref h0, .int x1] [(h0, O_Q f_fault f_place a_graph f_awaited f_left f_right), (a_graph, O_G f_graph_relations f_graph_edges f_graph_limit a_graph_rows a_graph_left a_graph_right a_graph_by), (a_graph_by, aI G 16 g_graph_by), (a_graph_left, aI G 16 g_graph_left), (a_graph_right, aI G 16 g_graph_right), (a_graph_rows, aI G 8 g_graph_rows)] [(h0, O_Q f_fault f_place a_graph f_awaited res.2.1 res.2.2.1), (a_graph, O_G res.2.2.2.1 res.2.2.2.2.1 res.2.2.2.2.2.1 a_graph_rows a_graph_left a_graph_right a_graph_by), (a_graph_by, aI G 16 res.2.2.2.2.2.2.1), (a_graph_left, aI G 16 res.2.2.2.2.2.2.2.1), (a_graph_right, aI G 16 res.2.2.2.2.2.2.2.2.1), (a_graph_rows, aI G 8 res.2.2.2.2.2.2.2.2.2)] res.1 := by
  refine entI (by decide) (Nat.le_of_ble_eq_true rfl) ?_
  intro p e s m args below meth c ls A Q hx hb hml hown htl hK hsk wq hl hret
  obtain ⟨hP, hD, hS⟩ := wq
  have hl : lv_has ls 2 [(0, .ref h0), (1, .int x1)] := hl
  have hS : va_S A s.heap s.heap [] := hS
  obtain ⟨H, hH⟩ : ∃ H : Heap, H = s.heap := ⟨_, rfl⟩
  obtain ⟨locs, hlocs⟩ : ∃ z : List Loc, z = [] := ⟨_, rfl⟩
  rw [← hH] at hP
  replace hS : va_S A s.heap H locs := by rw [hH, hlocs]; exact hS
  suffices hgo : W p l e (rmk 2) s m args below meth c H locs 0 0 Q (F0 m 0 ls []) by rw [hH, hlocs] at hgo; exact hgo
  refine lv_aload_n hx hb d_Q_absorbNumber_0 rfl (lv_at hl 0 rfl) ?_
  refine va_get (D := G.1) (ci := 6) (v := .int f_awaited) (C := n_Q) (T := T_Q) (N := 6) hx hb htl iw_Q hown hK hP 0 rfl rfl 3 (by decide) (htl _ k_284) (fun _ h9 => h9) rfl d_Q_absorbNumber_1 ?_
  by_cases c1 : f_awaited = (1 : Int32)
  · have hf := di_t c1 hf
    refine lv_lookup (tgt := 40) hx hb d_Q_absorbNumber_4 (by decide) (by rw [c1] <;> rfl) (by decide) ?_
    refine lv_aload_n hx hb d_Q_absorbNumber_40 rfl (lv_at hl 0 rfl) ?_
    refine lv_iload_n hx hb d_Q_absorbNumber_41 rfl (lv_at hl 1 rfl) ?_
    obtain ⟨t2, hv3, hf⟩ := db_e hf
    refine call_i (isC := [0, 1, 5]) (run_V (As := [.int x1]) (rest := []) (ci := 6) (q0 := 0) hx hb hml hown htl (c_Q_absorbRows l G Y  h0 a_graph a_graph_rows a_graph_left a_graph_right a_graph_by f_fault f_place f_awaited f_left f_right f_graph_relations f_graph_edges f_graph_limit g_graph_rows x1 t2 hv3) mv_Q_absorbRows k_671 (hRk (by decide) (by decide)) hK hsk hS hP hD (isC := [0, 1, 5]) rfl (by decide) rfl rfl rfl hl.1 rfl (lv_room (Nat.le_of_ble_eq_true rfl)) d_Q_absorbNumber_42) hP hD hS rfl rfl (fun H locs hP hD hS => ?_)
    have hP : va_P G.1 classes [(h0, O_Q f_fault f_place a_graph f_awaited f_left f_right), (a_graph, O_G t2.2.1 f_graph_edges f_graph_limit a_graph_rows a_graph_left a_graph_right a_graph_by), (a_graph_by, aI G 16 g_graph_by), (a_graph_left, aI G 16 g_graph_left), (a_graph_right, aI G 16 g_graph_right), (a_graph_rows, aI G 8 t2.2.2)] H := hP
    have hD : va_D A [(h0, O_Q f_fault f_place a_graph f_awaited f_left f_right), (a_graph, O_G t2.2.1 f_graph_edges f_graph_limit a_graph_rows a_graph_left a_graph_right a_graph_by), (a_graph_by, aI G 16 g_graph_by), (a_graph_left, aI G 16 g_graph_left), (a_graph_right, aI G 16 g_graph_right), (a_graph_rows, aI G 8 t2.2.2)] := hD
    cases hf
    exact hret 45 ls H locs hP hS d_Q_absorbNumber_45
  have hf := di_f c1 hf
  by_cases c4 : f_awaited = (7 : Int32)
  · have hf := di_t c4 hf
    refine lv_lookup (tgt := 46) hx hb d_Q_absorbNumber_4 (by decide) (by rw [c4] <;> rfl) (by decide) ?_
    refine lv_aload_n hx hb d_Q_absorbNumber_46 rfl (lv_at hl 0 rfl) ?_
    refine lv_iload_n hx hb d_Q_absorbNumber_47 rfl (lv_at hl 1 rfl) ?_
    obtain ⟨t5, hv6, hf⟩ := db_e hf
    refine call_i (isC := [0, 1, 2, 3, 4]) (run_V (As := [.int x1]) (rest := []) (ci := 6) (q0 := 0) hx hb hml hown htl (c_Q_absorbBy l G Y  h0 a_graph a_graph_rows a_graph_left a_graph_right a_graph_by f_fault f_place f_awaited f_left f_right f_graph_relations f_graph_edges f_graph_limit g_graph_by g_graph_left g_graph_right x1 t5 hv6) mv_Q_absorbBy k_683 (hRk (by decide) (by decide)) hK hsk hS hP hD (isC := [0, 1, 2, 3, 4]) rfl (by decide) rfl rfl rfl hl.1 rfl (lv_room (Nat.le_of_ble_eq_true rfl)) d_Q_absorbNumber_48) hP hD hS rfl rfl (fun H locs hP hD hS => ?_)
    have hP : va_P G.1 classes [(h0, O_Q f_fault f_place a_graph f_awaited f_left f_right), (a_graph, O_G f_graph_relations t5.2.1 f_graph_limit a_graph_rows a_graph_left a_graph_right a_graph_by), (a_graph_by, aI G 16 t5.2.2.1), (a_graph_left, aI G 16 t5.2.2.2.1), (a_graph_right, aI G 16 t5.2.2.2.2), (a_graph_rows, aI G 8 g_graph_rows)] H := hP
    have hD : va_D A [(h0, O_Q f_fault f_place a_graph f_awaited f_left f_right), (a_graph, O_G f_graph_relations t5.2.1 f_graph_limit a_graph_rows a_graph_left a_graph_right a_graph_by), (a_graph_by, aI G 16 t5.2.2.1), (a_graph_left, aI G 16 t5.2.2.2.1), (a_graph_right, aI G 16 t5.2.2.2.2), (a_graph_rows, aI G 8 g_graph_rows)] := hD
    cases hf
    exact hret 51 ls H locs hP hS d_Q_absorbNumber_51
  have hf := di_f c4 hf
  by_cases c7 : f_awaited = (8 : Int32)
  · have hf := di_t c7 hf
    refine lv_lookup (tgt := 52) hx hb d_Q_absorbNumber_4 (by decide) (by rw [c7] <;> rfl) (by decide) ?_
    refine lv_aload_n hx hb d_Q_absorbNumber_52 rfl (lv_at hl 0 rfl) ?_
    refine lv_iload_n hx hb d_Q_absorbNumber_53 rfl (lv_at hl 1 rfl) ?_
    obtain ⟨t8, hv9, hf⟩ := db_e hf
    refine call_i (isC := [0, 1]) (run_V (As := [.int x1]) (rest := []) (ci := 6) (q0 := 0) hx hb hml hown htl (c_Q_absorbLimit l G Y  h0 a_graph a_graph_rows a_graph_left a_graph_right a_graph_by f_fault f_place f_awaited f_left f_right f_graph_relations f_graph_edges f_graph_limit x1 t8 hv9) mv_Q_absorbLimit k_695 (hRk (by decide) (by decide)) hK hsk hS hP hD (isC := [0, 1]) rfl (by decide) rfl rfl rfl hl.1 rfl (lv_room (Nat.le_of_ble_eq_true rfl)) d_Q_absorbNumber_54) hP hD hS rfl rfl (fun H locs hP hD hS => ?_)
    have hP : va_P G.1 classes [(h0, O_Q f_fault f_place a_graph f_awaited f_left f_right), (a_graph, O_G f_graph_relations f_graph_edges t8.2 a_graph_rows a_graph_left a_graph_right a_graph_by), (a_graph_by, aI G 16 g_graph_by), (a_graph_left, aI G 16 g_graph_left), (a_graph_right, aI G 16 g_graph_right), (a_graph_rows, aI G 8 g_graph_rows)] H := hP
    have hD : va_D A [(h0, O_Q f_fault f_place a_graph f_awaited f_left f_right), (a_graph, O_G f_graph_relations f_graph_edges t8.2 a_graph_rows a_graph_left a_graph_right a_graph_by), (a_graph_by, aI G 16 g_graph_by), (a_graph_left, aI G 16 g_graph_left), (a_graph_right, aI G 16 g_graph_right), (a_graph_rows, aI G 8 g_graph_rows)] := hD
    cases hf
    exact hret 57 ls H locs hP hS d_Q_absorbNumber_57
  have hf := di_f c7 hf
  refine lv_lookup (tgt := 58) hx hb d_Q_absorbNumber_4 (by decide) (sl_out_1_7_8 c1 c4 c7) (by decide) ?_
  refine lv_aload_n hx hb d_Q_absorbNumber_58 rfl (lv_at hl 0 rfl) ?_
  refine lv_iload_n hx hb d_Q_absorbNumber_59 rfl (lv_at hl 1 rfl) ?_
  obtain ⟨t10, hv11, hf⟩ := db_e hf
  refine call_i (isC := [0, 1]) (run_V (As := [.int x1]) (rest := []) (ci := 6) (q0 := 0) hx hb hml hown htl (c_Q_absorbEnd l G Y  h0 a_graph a_graph_rows a_graph_left a_graph_right a_graph_by f_fault f_place f_awaited f_left f_right f_graph_relations f_graph_edges f_graph_limit x1 t10 hv11) mv_Q_absorbEnd k_702 (hRk (by decide) (by decide)) hK hsk hS hP hD (isC := [0, 1]) rfl (by decide) rfl rfl rfl hl.1 rfl (lv_room (Nat.le_of_ble_eq_true rfl)) d_Q_absorbNumber_60) hP hD hS rfl rfl (fun H locs hP hD hS => ?_)
  have hP : va_P G.1 classes [(h0, O_Q f_fault f_place a_graph f_awaited t10.2.1 t10.2.2), (a_graph, O_G f_graph_relations f_graph_edges f_graph_limit a_graph_rows a_graph_left a_graph_right a_graph_by), (a_graph_by, aI G 16 g_graph_by), (a_graph_left, aI G 16 g_graph_left), (a_graph_right, aI G 16 g_graph_right), (a_graph_rows, aI G 8 g_graph_rows)] H := hP
  have hD : va_D A [(h0, O_Q f_fault f_place a_graph f_awaited t10.2.1 t10.2.2), (a_graph, O_G f_graph_relations f_graph_edges f_graph_limit a_graph_rows a_graph_left a_graph_right a_graph_by), (a_graph_by, aI G 16 g_graph_by), (a_graph_left, aI G 16 g_graph_left), (a_graph_right, aI G 16 g_graph_right), (a_graph_rows, aI G 8 g_graph_rows)] := hD
  cases hf
  exact hret 63 ls H locs hP hS d_Q_absorbNumber_63
set_option maxHeartbeats 4000000 in
set_option maxRecDepth 100000 in
theorem c_Q_absorb (l : Launch) (G : va_G × (Nat → ClassId)) (Y : (Nat → Nat) × (Nat → Nat)) (h0 : Nat) (a_p1 : Nat) (a_p1_bytes : Nat) (a_graph : Nat) (a_graph_rows : Nat) (a_graph_left : Nat) (a_graph_right : Nat) (a_graph_by : Nat) (f_p1_length : Int32) (f_p1_kind : Int32) (f_p1_start : Int32) (f_p1_number : Int32) (f_p1_at : Int32) (f_fault : Int32) (f_place : Int32) (f_awaited : Int32) (f_left : Int32) (f_right : Int32) (f_graph_relations : Int32) (f_graph_edges : Int32) (f_graph_limit : Int32) (g_graph_by : Nat → Int32) (g_graph_left : Nat → Int32) (g_graph_right : Nat → Int32) (g_graph_rows : Nat → Int32) (res : Int32 × Int32 × Int32 × Int32 × Int32 × Int32 × (Nat → Int32) × (Nat → Int32) × (Nat → Int32) × (Nat → Int32)) (hf : Q_absorb f_p1_kind f_p1_number f_awaited f_left f_right f_graph_relations f_graph_edges f_graph_limit g_graph_by g_graph_left g_graph_right g_graph_rows = some res) : Ci l classes y_Q_absorb b_Q_absorb 2 (some .int) (rmk 3) G.1 (tyL G) Y [.ref h0, .ref a_p1] [(a_p1, O_T f_p1_length a_p1_bytes f_p1_kind f_p1_start f_p1_number f_p1_at), (h0, O_Q f_fault f_place a_graph f_awaited f_left f_right), (a_graph, O_G f_graph_relations f_graph_edges f_graph_limit a_graph_rows a_graph_left a_graph_right a_graph_by), (a_graph_by, aI G 16 g_graph_by), (a_graph_left, aI G 16 g_graph_left), (a_graph_right, aI G 16 g_graph_right), (a_graph_rows, aI G 8 g_graph_rows)] [(a_p1, O_T f_p1_length a_p1_bytes f_p1_kind f_p1_start f_p1_number f_p1_at), (h0, O_Q f_fault f_place a_graph f_awaited res.2.1 res.2.2.1), (a_graph, O_G res.2.2.2.1 res.2.2.2.2.1 res.2.2.2.2.2.1 a_graph_rows a_graph_left a_graph_right a_graph_by), (a_graph_by, aI G 16 res.2.2.2.2.2.2.1), (a_graph_left, aI G 16 res.2.2.2.2.2.2.2.1), (a_graph_right, aI G 16 res.2.2.2.2.2.2.2.2.1), (a_graph_rows, aI G 8 res.2.2.2.2.2.2.2.2.2)] res.1 := by
  refine entI (by decide) (Nat.le_of_ble_eq_true rfl) ?_
  intro p e s m args below meth c ls A Q hx hb hml hown htl hK hsk wq hl hret
  obtain ⟨hP, hD, hS⟩ := wq
  have hl : lv_has ls 2 [(0, .ref h0), (1, .ref a_p1)] := hl
  have hS : va_S A s.heap s.heap [] := hS
  obtain ⟨H, hH⟩ : ∃ H : Heap, H = s.heap := ⟨_, rfl⟩
  obtain ⟨locs, hlocs⟩ : ∃ z : List Loc, z = [] := ⟨_, rfl⟩
  rw [← hH] at hP
  replace hS : va_S A s.heap H locs := by rw [hH, hlocs]; exact hS
  suffices hgo : W p l e (rmk 3) s m args below meth c H locs 0 0 Q (F0 m 0 ls []) by rw [hH, hlocs] at hgo; exact hgo
  refine lv_aload_n hx hb d_Q_absorb_0 rfl (lv_at hl 1 rfl) ?_
  refine va_get (D := G.1) (ci := 10) (v := .int f_p1_kind) (C := n_T) (T := T_T) (N := 6) hx hb htl iw_T hown hK hP 0 rfl rfl 2 (by decide) (htl _ k_220) (fun _ h9 => h9) rfl d_Q_absorb_1 ?_
  refine lv_bipush (v := (6 : Int32)) hx hb d_Q_absorb_4 (by decide) ?_
  refine lv_icmp_ne (tgt := 27) hx hb d_Q_absorb_6 (by decide) (fun c1 => ?_) (fun c1 => ?_)
  · have hf := di_f c1 hf
    refine lv_aload_n hx hb d_Q_absorb_27 rfl (lv_at hl 1 rfl) ?_
    refine va_get (D := G.1) (ci := 10) (v := .int f_p1_kind) (C := n_T) (T := T_T) (N := 6) hx hb htl iw_T hown hK hP 0 rfl rfl 2 (by decide) (htl _ k_220) (fun _ h9 => h9) rfl d_Q_absorb_28 ?_
    refine lv_bipush (v := (7 : Int32)) hx hb d_Q_absorb_31 (by decide) ?_
    refine lv_icmp_ne (tgt := 64) hx hb d_Q_absorb_33 (by decide) (fun c2 => ?_) (fun c2 => ?_)
    · have hf := di_f c2 hf
      refine lv_aload_n hx hb d_Q_absorb_64 rfl (lv_at hl 1 rfl) ?_
      refine va_get (D := G.1) (ci := 10) (v := .int f_p1_kind) (C := n_T) (T := T_T) (N := 6) hx hb htl iw_T hown hK hP 0 rfl rfl 2 (by decide) (htl _ k_220) (fun _ h9 => h9) rfl d_Q_absorb_65 ?_
      refine lv_iconst (v := (1 : Int32)) hx hb d_Q_absorb_68 (by decide) ?_
      refine lv_icmp_ne (tgt := 83) hx hb d_Q_absorb_69 (by decide) (fun c3 => ?_) (fun c3 => ?_)
      · have hf := di_f c3 hf
        refine lv_iconst (v := (0 : Int32)) hx hb d_Q_absorb_83 (by decide) ?_
        cases hf
        exact hret 84 ls H locs hP hS d_Q_absorb_84
      · have hf := di_t c3 hf
        refine lv_aload_n hx hb d_Q_absorb_72 rfl (lv_at hl 0 rfl) ?_
        refine lv_aload_n hx hb d_Q_absorb_73 rfl (lv_at hl 1 rfl) ?_
        refine va_get (D := G.1) (ci := 10) (v := .int f_p1_number) (C := n_T) (T := T_T) (N := 6) hx hb htl iw_T hown hK hP 0 rfl rfl 4 (by decide) (htl _ k_225) (fun _ h9 => h9) rfl d_Q_absorb_74 ?_
        obtain ⟨t4, hv5, hf⟩ := db_e hf
        refine call_i (isC := [1, 2, 3, 4, 5, 6]) (run_V (As := [.int f_p1_number]) (rest := []) (ci := 6) (q0 := 1) hx hb hml hown htl (c_Q_absorbNumber l G Y  h0 a_graph a_graph_rows a_graph_left a_graph_right a_graph_by f_fault f_place f_awaited f_left f_right f_graph_relations f_graph_edges f_graph_limit g_graph_by g_graph_left g_graph_right g_graph_rows f_p1_number t4 hv5) mv_Q_absorbNumber k_667 (hRk (by decide) (by decide)) hK hsk hS hP hD (isC := [1, 2, 3, 4, 5, 6]) rfl (by decide) rfl rfl rfl hl.1 rfl (lv_room (Nat.le_of_ble_eq_true rfl)) d_Q_absorb_77) hP hD hS rfl rfl (fun H locs hP hD hS => ?_)
        have hP : va_P G.1 classes [(a_p1, O_T f_p1_length a_p1_bytes f_p1_kind f_p1_start f_p1_number f_p1_at), (h0, O_Q f_fault f_place a_graph f_awaited t4.2.1 t4.2.2.1), (a_graph, O_G t4.2.2.2.1 t4.2.2.2.2.1 t4.2.2.2.2.2.1 a_graph_rows a_graph_left a_graph_right a_graph_by), (a_graph_by, aI G 16 t4.2.2.2.2.2.2.1), (a_graph_left, aI G 16 t4.2.2.2.2.2.2.2.1), (a_graph_right, aI G 16 t4.2.2.2.2.2.2.2.2.1), (a_graph_rows, aI G 8 t4.2.2.2.2.2.2.2.2.2)] H := hP
        have hD : va_D A [(a_p1, O_T f_p1_length a_p1_bytes f_p1_kind f_p1_start f_p1_number f_p1_at), (h0, O_Q f_fault f_place a_graph f_awaited t4.2.1 t4.2.2.1), (a_graph, O_G t4.2.2.2.1 t4.2.2.2.2.1 t4.2.2.2.2.2.1 a_graph_rows a_graph_left a_graph_right a_graph_by), (a_graph_by, aI G 16 t4.2.2.2.2.2.2.1), (a_graph_left, aI G 16 t4.2.2.2.2.2.2.2.1), (a_graph_right, aI G 16 t4.2.2.2.2.2.2.2.2.1), (a_graph_rows, aI G 8 t4.2.2.2.2.2.2.2.2.2)] := hD
        refine lv_goto (tgt := 84) hx hb d_Q_absorb_80 (by decide) ?_
        cases hf
        exact hret 84 ls H locs hP hS d_Q_absorb_84
    · have hf := di_t c2 hf
      refine lv_aload_n hx hb d_Q_absorb_36 rfl (lv_at hl 0 rfl) ?_
      refine lv_iconst (v := (0 : Int32)) hx hb d_Q_absorb_37 (by decide) ?_
      refine va_put (D := G.1) (ci := 6) (v := .int (0 : Int32)) (ty := .int) (C := n_Q) (T := T_Q) (N := 6) hx hb htl iw_Q ty_Q ty_Q_ok nm_Q hown hK hP hD hS 1 rfl rfl 4 (by decide) (htl _ k_285) (fun _ h9 => h9) rfl (by decide +kernel) rfl rfl (Nat.le_of_ble_eq_true rfl) d_Q_absorb_38 (fun H locs hP hD hS => ?_)
      have hP : va_P G.1 classes [(a_p1, O_T f_p1_length a_p1_bytes f_p1_kind f_p1_start f_p1_number f_p1_at), (h0, O_Q f_fault f_place a_graph f_awaited (0 : Int32) f_right), (a_graph, O_G f_graph_relations f_graph_edges f_graph_limit a_graph_rows a_graph_left a_graph_right a_graph_by), (a_graph_by, aI G 16 g_graph_by), (a_graph_left, aI G 16 g_graph_left), (a_graph_right, aI G 16 g_graph_right), (a_graph_rows, aI G 8 g_graph_rows)] H := hP
      have hD : va_D A [(a_p1, O_T f_p1_length a_p1_bytes f_p1_kind f_p1_start f_p1_number f_p1_at), (h0, O_Q f_fault f_place a_graph f_awaited (0 : Int32) f_right), (a_graph, O_G f_graph_relations f_graph_edges f_graph_limit a_graph_rows a_graph_left a_graph_right a_graph_by), (a_graph_by, aI G 16 g_graph_by), (a_graph_left, aI G 16 g_graph_left), (a_graph_right, aI G 16 g_graph_right), (a_graph_rows, aI G 8 g_graph_rows)] := hD
      refine lv_aload_n hx hb d_Q_absorb_41 rfl (lv_at hl 0 rfl) ?_
      refine lv_iconst (v := (0 : Int32)) hx hb d_Q_absorb_42 (by decide) ?_
      refine va_put (D := G.1) (ci := 6) (v := .int (0 : Int32)) (ty := .int) (C := n_Q) (T := T_Q) (N := 6) hx hb htl iw_Q ty_Q ty_Q_ok nm_Q hown hK hP hD hS 1 rfl rfl 5 (by decide) (htl _ k_286) (fun _ h9 => h9) rfl (by decide +kernel) rfl rfl (Nat.le_of_ble_eq_true rfl) d_Q_absorb_43 (fun H locs hP hD hS => ?_)
      have hP : va_P G.1 classes [(a_p1, O_T f_p1_length a_p1_bytes f_p1_kind f_p1_start f_p1_number f_p1_at), (h0, O_Q f_fault f_place a_graph f_awaited (0 : Int32) (0 : Int32)), (a_graph, O_G f_graph_relations f_graph_edges f_graph_limit a_graph_rows a_graph_left a_graph_right a_graph_by), (a_graph_by, aI G 16 g_graph_by), (a_graph_left, aI G 16 g_graph_left), (a_graph_right, aI G 16 g_graph_right), (a_graph_rows, aI G 8 g_graph_rows)] H := hP
      have hD : va_D A [(a_p1, O_T f_p1_length a_p1_bytes f_p1_kind f_p1_start f_p1_number f_p1_at), (h0, O_Q f_fault f_place a_graph f_awaited (0 : Int32) (0 : Int32)), (a_graph, O_G f_graph_relations f_graph_edges f_graph_limit a_graph_rows a_graph_left a_graph_right a_graph_by), (a_graph_by, aI G 16 g_graph_by), (a_graph_left, aI G 16 g_graph_left), (a_graph_right, aI G 16 g_graph_right), (a_graph_rows, aI G 8 g_graph_rows)] := hD
      refine lv_aload_n hx hb d_Q_absorb_46 rfl (lv_at hl 0 rfl) ?_
      refine va_get (D := G.1) (ci := 6) (v := .ref a_graph) (C := n_Q) (T := T_Q) (N := 6) hx hb htl iw_Q hown hK hP 1 rfl rfl 2 (by decide) (htl _ k_282) (fun _ h9 => h9) rfl d_Q_absorb_47 ?_
      refine va_get (D := G.1) (ci := 1) (v := .int f_graph_edges) (C := n_G) (T := T_G) (N := 7) hx hb htl iw_G hown hK hP 2 rfl rfl 1 (by decide) (htl _ k_145) (fun _ h9 => h9) rfl d_Q_absorb_50 ?_
      refine lv_bipush (v := (16 : Int32)) hx hb d_Q_absorb_53 (by decide) ?_
      refine lv_icmp_lt (tgt := 62) hx hb d_Q_absorb_55 (by decide) (fun c6 => ?_) (fun c6 => ?_)
      · have hf := di_t c6 hf
        refine lv_iconst (v := (0 : Int32)) hx hb d_Q_absorb_62 (by decide) ?_
        cases hf
        exact hret 63 ls H locs hP hS d_Q_absorb_63
      · have hf := di_f c6 hf
        refine lv_iconst (v := (4 : Int32)) hx hb d_Q_absorb_58 (by decide) ?_
        refine lv_goto (tgt := 63) hx hb d_Q_absorb_59 (by decide) ?_
        cases hf
        exact hret 63 ls H locs hP hS d_Q_absorb_63
  · have hf := di_t c1 hf
    refine lv_aload_n hx hb d_Q_absorb_9 rfl (lv_at hl 0 rfl) ?_
    refine va_get (D := G.1) (ci := 6) (v := .ref a_graph) (C := n_Q) (T := T_Q) (N := 6) hx hb htl iw_Q hown hK hP 1 rfl rfl 2 (by decide) (htl _ k_282) (fun _ h9 => h9) rfl d_Q_absorb_10 ?_
    refine va_get (D := G.1) (ci := 1) (v := .int f_graph_relations) (C := n_G) (T := T_G) (N := 7) hx hb htl iw_G hown hK hP 2 rfl rfl 0 (by decide) (htl _ k_142) (fun _ h9 => h9) rfl d_Q_absorb_13 ?_
    refine lv_bipush (v := (8 : Int32)) hx hb d_Q_absorb_16 (by decide) ?_
    refine lv_icmp_lt (tgt := 25) hx hb d_Q_absorb_18 (by decide) (fun c7 => ?_) (fun c7 => ?_)
    · have hf := di_t c7 hf
      refine lv_iconst (v := (0 : Int32)) hx hb d_Q_absorb_25 (by decide) ?_
      cases hf
      exact hret 26 ls H locs hP hS d_Q_absorb_26
    · have hf := di_f c7 hf
      refine lv_iconst (v := (4 : Int32)) hx hb d_Q_absorb_21 (by decide) ?_
      refine lv_goto (tgt := 26) hx hb d_Q_absorb_22 (by decide) ?_
      cases hf
      exact hret 26 ls H locs hP hS d_Q_absorb_26
set_option maxHeartbeats 4000000 in
set_option maxRecDepth 100000 in
theorem c_S_lay (l : Launch) (G : va_G × (Nat → ClassId)) (Y : (Nat → Nat) × (Nat → Nat)) (h0 : Nat) (a_p1 : Nat) (a_p2 : Nat) (a_p3 : Nat) (a_p2_rows : Nat) (a_p2_left : Nat) (a_p2_right : Nat) (a_p2_by : Nat) (a_sizes : Nat) (a_capped : Nat) (a_connected : Nat) (a_leftIn : Nat) (a_rightIn : Nat) (a_pairs : Nat) (g_p1 : Nat → Int32) (f_p2_relations : Int32) (f_p2_edges : Int32) (f_p2_limit : Int32) (g_p3 : Nat → Int32) (f_known : Int32) (f_paired : Int32) (f_cappedInAll : Int32) (f_connectedInAll : Int32) (f_pairsInAll : Int32) (f_end : Int32) (N : Nat) (res : (Nat → Int32)) (hf : S_lay N g_p1 f_p2_relations f_p2_edges g_p3 f_end = some res) : Cv l classes y_S_lay b_S_lay 7 none (rmk 1) G.1 (tyL G) Y [.ref h0, .ref a_p1, .ref a_p2, .ref a_p3] [(a_p1, aI G 16 g_p1), (a_p2, O_G f_p2_relations f_p2_edges f_p2_limit a_p2_rows a_p2_left a_p2_right a_p2_by), (a_p3, aI G 256 g_p3), (h0, O_S f_known f_paired f_cappedInAll f_connectedInAll f_pairsInAll a_sizes a_capped a_connected f_end a_leftIn a_rightIn a_pairs)] [(a_p1, aI G 16 g_p1), (a_p2, O_G f_p2_relations f_p2_edges f_p2_limit a_p2_rows a_p2_left a_p2_right a_p2_by), (a_p3, aI G 256 res), (h0, O_S f_known f_paired f_cappedInAll f_connectedInAll f_pairsInAll a_sizes a_capped a_connected f_end a_leftIn a_rightIn a_pairs)] := by
  refine entV (by decide) (Nat.le_of_ble_eq_true rfl) ?_
  intro p e s m args below meth c ls A Q hx hb hml hown htl hK hsk wq hl hret
  obtain ⟨hP, hD, hS⟩ := wq
  have hl : lv_has ls 7 [(0, .ref h0), (1, .ref a_p1), (2, .ref a_p2), (3, .ref a_p3)] := hl
  have hS : va_S A s.heap s.heap [] := hS
  obtain ⟨H, hH⟩ : ∃ H : Heap, H = s.heap := ⟨_, rfl⟩
  obtain ⟨locs, hlocs⟩ : ∃ z : List Loc, z = [] := ⟨_, rfl⟩
  rw [← hH] at hP
  replace hS : va_S A s.heap H locs := by rw [hH, hlocs]; exact hS
  suffices hgo : W p l e (rmk 1) s m args below meth c H locs 0 0 Q (F0 m 0 ls []) by rw [hH, hlocs] at hgo; exact hgo
  have hJ101 : ∀ (g_p3 : Nat → Int32) (H : Heap) (locs : List Loc) (ls : Array Slot), PDS G.1 classes A s [(a_p1, aI G 16 g_p1), (a_p2, O_G f_p2_relations f_p2_edges f_p2_limit a_p2_rows a_p2_left a_p2_right a_p2_by), (a_p3, aI G 256 g_p3), (h0, O_S f_known f_paired f_cappedInAll f_connectedInAll f_pairsInAll a_sizes a_capped a_connected f_end a_leftIn a_rightIn a_pairs)] H locs → lv_has ls 7 [] → S_lay_101 N g_p1 f_p2_relations f_p2_edges g_p3 f_end = some res → W p l e (rmk 1) s m args below meth c H locs 0 0 Q (F0 m 101 ls []) := by
    intro g_p3 H locs ls wq hl hf
    obtain ⟨hP, hD, hS⟩ := wq
    cases hf
    exact hret 101 ls H locs hP hS d_S_lay_101
  have hJ39 : ∀ (g_p3 : Nat → Int32) (x4 : Int32) (H : Heap) (locs : List Loc) (ls : Array Slot), PDS G.1 classes A s [(a_p1, aI G 16 g_p1), (a_p2, O_G f_p2_relations f_p2_edges f_p2_limit a_p2_rows a_p2_left a_p2_right a_p2_by), (a_p3, aI G 256 g_p3), (h0, O_S f_known f_paired f_cappedInAll f_connectedInAll f_pairsInAll a_sizes a_capped a_connected f_end a_leftIn a_rightIn a_pairs)] H locs → lv_has ls 7 [(0, .ref h0), (2, .ref a_p2), (3, .ref a_p3), (4, .int x4)] → S_lay_39 N g_p1 f_p2_relations f_p2_edges g_p3 f_end x4 = some res → W p l e (rmk 1) s m args below meth c H locs 0 0 Q (F0 m 39 ls []) := by
    intro g_p3 x4 H locs ls wq hl hf
    obtain ⟨hP, hD, hS⟩ := wq
    obtain ⟨y39, hy39, hfo39⟩ := db_e hf
    have hL39 : ∀ (n : Nat) (g_p3 : Nat → Int32) (x4 : Int32) (H : Heap) (locs : List Loc) (ls : Array Slot), lp (fun x => S_lay_b39 N g_p1 f_p2_relations f_p2_edges x.1 f_end x.2) n (g_p3, x4) = some y39 → PDS G.1 classes A s [(a_p1, aI G 16 g_p1), (a_p2, O_G f_p2_relations f_p2_edges f_p2_limit a_p2_rows a_p2_left a_p2_right a_p2_by), (a_p3, aI G 256 g_p3), (h0, O_S f_known f_paired f_cappedInAll f_connectedInAll f_pairsInAll a_sizes a_capped a_connected f_end a_leftIn a_rightIn a_pairs)] H locs → lv_has ls 7 [(0, .ref h0), (2, .ref a_p2), (3, .ref a_p3), (4, .int x4)] → W p l e (rmk 1) s m args below meth c H locs 0 0 Q (F0 m 39 ls []) := by
      intro n
      induction n with
      | zero =>
        intro g_p3 x4 H locs ls hf
        exact lp_0 hf
      | succ n ih39 =>
        intro g_p3 x4 H locs ls hf wq hl
        obtain ⟨hP, hD, hS⟩ := wq
        obtain ⟨r39, hf, hk39⟩ := lp_s hf
        have hf : S_lay_b39 N g_p1 f_p2_relations f_p2_edges g_p3 f_end x4 = some r39 := hf
        have hJ95 : ∀ (g_p3 : Nat → Int32) (x4 : Int32) (H : Heap) (locs : List Loc) (ls : Array Slot), PDS G.1 classes A s [(a_p1, aI G 16 g_p1), (a_p2, O_G f_p2_relations f_p2_edges f_p2_limit a_p2_rows a_p2_left a_p2_right a_p2_by), (a_p3, aI G 256 g_p3), (h0, O_S f_known f_paired f_cappedInAll f_connectedInAll f_pairsInAll a_sizes a_capped a_connected f_end a_leftIn a_rightIn a_pairs)] H locs → lv_has ls 7 [(0, .ref h0), (2, .ref a_p2), (3, .ref a_p3), (4, .int x4)] → S_lay_95 N g_p1 f_p2_relations f_p2_edges g_p3 f_end x4 = some r39 → W p l e (rmk 1) s m args below meth c H locs 0 0 Q (F0 m 95 ls []) := by
          intro g_p3 x4 H locs ls wq hl hf
          obtain ⟨hP, hD, hS⟩ := wq
          obtain ⟨v17, ev17⟩ : ∃ z : Int32, z = x4 + (1 : Int32) := ⟨_, rfl⟩
          have hf := dn_e ev17 hf
          refine lv_iinc (v := v17) (lv' := [(4, .int v17), (0, .ref h0), (2, .ref a_p2), (3, .ref a_p3)]) hx hb d_S_lay_95 hl (k := 3) rfl (by rw [ev17]; rfl) (by decide) rfl (fun ls hl => ?_)
          refine lv_goto (tgt := 39) hx hb d_S_lay_98 (by decide) ?_
          exact ih39 g_p3 v17 H locs ls (lpk_i hf hk39) ⟨hP, hD, hS⟩ (lv_sub hl [1, 2, 3, 0] rfl)
        have hJ58 : ∀ (g_p3 : Nat → Int32) (x4 : Int32) (x5 : Int32) (x6 : Int32) (H : Heap) (locs : List Loc) (ls : Array Slot), PDS G.1 classes A s [(a_p1, aI G 16 g_p1), (a_p2, O_G f_p2_relations f_p2_edges f_p2_limit a_p2_rows a_p2_left a_p2_right a_p2_by), (a_p3, aI G 256 g_p3), (h0, O_S f_known f_paired f_cappedInAll f_connectedInAll f_pairsInAll a_sizes a_capped a_connected f_end a_leftIn a_rightIn a_pairs)] H locs → lv_has ls 7 [(0, .ref h0), (2, .ref a_p2), (3, .ref a_p3), (4, .int x4), (5, .int x5), (6, .int x6)] → S_lay_58 N g_p1 f_p2_relations f_p2_edges g_p3 f_end x4 x5 x6 = some r39 → W p l e (rmk 1) s m args below meth c H locs 0 0 Q (F0 m 58 ls []) := by
          intro g_p3 x4 x5 x6 H locs ls wq hl hf
          obtain ⟨hP, hD, hS⟩ := wq
          obtain ⟨y58, hy58, hfo58⟩ := db_e hf
          have hL58 : ∀ (n : Nat) (g_p3 : Nat → Int32) (x6 : Int32) (H : Heap) (locs : List Loc) (ls : Array Slot), lp (fun x => S_lay_b58 N g_p1 f_p2_relations f_p2_edges x.1 f_end x4 x5 x.2) n (g_p3, x6) = some y58 → PDS G.1 classes A s [(a_p1, aI G 16 g_p1), (a_p2, O_G f_p2_relations f_p2_edges f_p2_limit a_p2_rows a_p2_left a_p2_right a_p2_by), (a_p3, aI G 256 g_p3), (h0, O_S f_known f_paired f_cappedInAll f_connectedInAll f_pairsInAll a_sizes a_capped a_connected f_end a_leftIn a_rightIn a_pairs)] H locs → lv_has ls 7 [(0, .ref h0), (2, .ref a_p2), (3, .ref a_p3), (4, .int x4), (5, .int x5), (6, .int x6)] → W p l e (rmk 1) s m args below meth c H locs 0 0 Q (F0 m 58 ls []) := by
            intro n
            induction n with
            | zero =>
              intro g_p3 x6 H locs ls hf
              exact lp_0 hf
            | succ n ih58 =>
              intro g_p3 x6 H locs ls hf wq hl
              obtain ⟨hP, hD, hS⟩ := wq
              obtain ⟨r58, hf, hk58⟩ := lp_s hf
              have hf : S_lay_b58 N g_p1 f_p2_relations f_p2_edges g_p3 f_end x4 x5 x6 = some r58 := hf
              refine lv_iload hx hb d_S_lay_58 (lv_at hl 5 rfl) ?_
              refine lv_aload_n hx hb d_S_lay_60 rfl (lv_at hl 0 rfl) ?_
              refine va_get (D := G.1) (ci := 8) (v := .int f_end) (C := n_S) (T := T_S) (N := 12) hx hb htl iw_S hown hK hP 3 rfl rfl 8 (by decide) (htl _ k_361) (fun _ h9 => h9) rfl d_S_lay_61 ?_
              refine lv_icmp_ge (tgt := 95) hx hb d_S_lay_64 (by decide) (fun c10 => ?_) (fun c10 => ?_)
              · have hf := di_t c10 hf
                have hq58 := lpk_x hf hk58
                have hf := ex_y (f := fun y => S_lay_a58 N g_p1 f_p2_relations f_p2_edges f_end x4 x5 y) hq58 hfo58
                have hf : S_lay_95 N g_p1 f_p2_relations f_p2_edges g_p3 f_end x4 = some r39 := hf
                exact hJ95 g_p3 x4 H locs ls ⟨hP, hD, hS⟩ (lv_sub hl [0, 1, 2, 3] rfl) hf
              · have hf := di_f c10 hf
                refine lv_iload hx hb d_S_lay_67 (lv_at hl 5 rfl) ?_
                refine lv_iload hx hb d_S_lay_69 (lv_at hl 4 rfl) ?_
                refine lv_iand hx hb d_S_lay_71 ?_
                refine lv_if_eq (tgt := 89) hx hb d_S_lay_72 (by decide) (fun c11 => ?_) (fun c11 => ?_)
                · have hf := di_t c11 hf
                  obtain ⟨v12, ev12⟩ : ∃ z : Int32, z = x6 + (1 : Int32) := ⟨_, rfl⟩
                  have hf := dn_e ev12 hf
                  refine lv_iinc (v := v12) (lv' := [(6, .int v12), (0, .ref h0), (2, .ref a_p2), (3, .ref a_p3), (4, .int x4), (5, .int x5)]) hx hb d_S_lay_89 hl (k := 5) rfl (by rw [ev12]; rfl) (by decide) rfl (fun ls hl => ?_)
                  refine lv_goto (tgt := 58) hx hb d_S_lay_92 (by decide) ?_
                  exact ih58 g_p3 v12 H locs ls (lpk_i hf hk58) ⟨hP, hD, hS⟩ (lv_sub hl [1, 2, 3, 4, 5, 0] rfl)
                · have hf := di_f c11 hf
                  refine lv_aload_n hx hb d_S_lay_75 rfl (lv_at hl 2 rfl) ?_
                  refine lv_iload hx hb d_S_lay_76 (lv_at hl 5 rfl) ?_
                  refine lv_dup2_11 hx hb d_S_lay_78 rfl rfl ?_
                  obtain ⟨c13, hf⟩ := dk_e hf
                  refine va_iald hx hb hK hP 2 1 rfl rfl c13 d_S_lay_79 ?_
                  refine lv_aload_n hx hb d_S_lay_80 rfl (lv_at hl 2 rfl) ?_
                  refine lv_iload hx hb d_S_lay_81 (lv_at hl 5 rfl) ?_
                  refine lv_iload hx hb d_S_lay_83 (lv_at hl 4 rfl) ?_
                  refine lv_ixor hx hb d_S_lay_85 ?_
                  obtain ⟨c14, hf⟩ := dk_e hf
                  refine va_iald hx hb hK hP 2 1 rfl rfl c14 d_S_lay_86 ?_
                  refine lv_ior hx hb d_S_lay_87 ?_
                  refine nx_iast hx hb hK hP hD hS 2 1 rfl rfl c13 d_S_lay_88 (fun v15 ev15 H locs hP hD hS => ?_)
                  have hf := dn_e ev15 hf
                  have hP : va_P G.1 classes [(a_p1, aI G 16 g_p1), (a_p2, O_G f_p2_relations f_p2_edges f_p2_limit a_p2_rows a_p2_left a_p2_right a_p2_by), (a_p3, aI G 256 v15), (h0, O_S f_known f_paired f_cappedInAll f_connectedInAll f_pairsInAll a_sizes a_capped a_connected f_end a_leftIn a_rightIn a_pairs)] H := hP
                  have hD : va_D A [(a_p1, aI G 16 g_p1), (a_p2, O_G f_p2_relations f_p2_edges f_p2_limit a_p2_rows a_p2_left a_p2_right a_p2_by), (a_p3, aI G 256 v15), (h0, O_S f_known f_paired f_cappedInAll f_connectedInAll f_pairsInAll a_sizes a_capped a_connected f_end a_leftIn a_rightIn a_pairs)] := hD
                  obtain ⟨v16, ev16⟩ : ∃ z : Int32, z = x6 + (1 : Int32) := ⟨_, rfl⟩
                  have hf := dn_e ev16 hf
                  refine lv_iinc (v := v16) (lv' := [(6, .int v16), (0, .ref h0), (2, .ref a_p2), (3, .ref a_p3), (4, .int x4), (5, .int x5)]) hx hb d_S_lay_89 hl (k := 5) rfl (by rw [ev16]; rfl) (by decide) rfl (fun ls hl => ?_)
                  refine lv_goto (tgt := 58) hx hb d_S_lay_92 (by decide) ?_
                  exact ih58 v15 v16 H locs ls (lpk_i hf hk58) ⟨hP, hD, hS⟩ (lv_sub hl [1, 2, 3, 4, 5, 0] rfl)
          exact hL58 N g_p3 x6 H locs ls hy58 ⟨hP, hD, hS⟩ hl
        refine lv_iload hx hb d_S_lay_39 (lv_at hl 3 rfl) ?_
        refine lv_aload_n hx hb d_S_lay_41 rfl (lv_at hl 1 rfl) ?_
        refine va_get (D := G.1) (ci := 1) (v := .int f_p2_relations) (C := n_G) (T := T_G) (N := 7) hx hb htl iw_G hown hK hP 1 rfl rfl 0 (by decide) (htl _ k_138) (fun _ h9 => h9) rfl d_S_lay_42 ?_
        refine lv_icmp_ge (tgt := 101) hx hb d_S_lay_45 (by decide) (fun c8 => ?_) (fun c8 => ?_)
        · have hf := di_t c8 hf
          have hq39 := lpk_x hf hk39
          have hf := ex_y (f := fun y => S_lay_a39 N g_p1 f_p2_relations f_p2_edges f_end y) hq39 hfo39
          have hf : S_lay_101 N g_p1 f_p2_relations f_p2_edges g_p3 f_end = some res := hf
          exact hJ101 g_p3 H locs ls ⟨hP, hD, hS⟩ (lv_sub hl [] rfl) hf
        · have hf := di_f c8 hf
          refine lv_iconst (v := (1 : Int32)) hx hb d_S_lay_48 (by decide) ?_
          refine lv_iload hx hb d_S_lay_49 (lv_at hl 3 rfl) ?_
          refine lv_ishl hx hb d_S_lay_51 ?_
          refine lv_topi (fun v9 ev9 => ?_)
          have hf := dn_e ev9 hf
          refine lv_istore (lv' := [(5, .int v9), (0, .ref h0), (2, .ref a_p2), (3, .ref a_p3), (4, .int x4)]) hx hb d_S_lay_52 hl (by decide) rfl (fun ls hl => ?_)
          refine lv_iload hx hb d_S_lay_54 (lv_at hl 0 rfl) ?_
          refine lv_istore (lv' := [(6, .int v9), (5, .int v9), (0, .ref h0), (2, .ref a_p2), (3, .ref a_p3), (4, .int x4)]) hx hb d_S_lay_56 hl (by decide) rfl (fun ls hl => ?_)
          exact hJ58 g_p3 x4 v9 v9 H locs ls ⟨hP, hD, hS⟩ (lv_sub hl [2, 3, 4, 5, 1, 0] rfl) hf
    exact hL39 N g_p3 x4 H locs ls hy39 ⟨hP, hD, hS⟩ hl
  have hJ36 : ∀ (g_p3 : Nat → Int32) (H : Heap) (locs : List Loc) (ls : Array Slot), PDS G.1 classes A s [(a_p1, aI G 16 g_p1), (a_p2, O_G f_p2_relations f_p2_edges f_p2_limit a_p2_rows a_p2_left a_p2_right a_p2_by), (a_p3, aI G 256 g_p3), (h0, O_S f_known f_paired f_cappedInAll f_connectedInAll f_pairsInAll a_sizes a_capped a_connected f_end a_leftIn a_rightIn a_pairs)] H locs → lv_has ls 7 [(0, .ref h0), (2, .ref a_p2), (3, .ref a_p3)] → S_lay_36 N g_p1 f_p2_relations f_p2_edges g_p3 f_end = some res → W p l e (rmk 1) s m args below meth c H locs 0 0 Q (F0 m 36 ls []) := by
    intro g_p3 H locs ls wq hl hf
    obtain ⟨hP, hD, hS⟩ := wq
    refine lv_iconst (v := (0 : Int32)) hx hb d_S_lay_36 (by decide) ?_
    refine lv_istore (lv' := [(4, .int (0 : Int32)), (0, .ref h0), (2, .ref a_p2), (3, .ref a_p3)]) hx hb d_S_lay_37 hl (by decide) rfl (fun ls hl => ?_)
    exact hJ39 g_p3 (0 : Int32) H locs ls ⟨hP, hD, hS⟩ (lv_sub hl [1, 2, 3, 0] rfl) hf
  have hJ8 : ∀ (g_p3 : Nat → Int32) (x4 : Int32) (H : Heap) (locs : List Loc) (ls : Array Slot), PDS G.1 classes A s [(a_p1, aI G 16 g_p1), (a_p2, O_G f_p2_relations f_p2_edges f_p2_limit a_p2_rows a_p2_left a_p2_right a_p2_by), (a_p3, aI G 256 g_p3), (h0, O_S f_known f_paired f_cappedInAll f_connectedInAll f_pairsInAll a_sizes a_capped a_connected f_end a_leftIn a_rightIn a_pairs)] H locs → lv_has ls 7 [(0, .ref h0), (1, .ref a_p1), (2, .ref a_p2), (3, .ref a_p3), (4, .int x4)] → S_lay_8 N g_p1 f_p2_relations f_p2_edges g_p3 f_end x4 = some res → W p l e (rmk 1) s m args below meth c H locs 0 0 Q (F0 m 8 ls []) := by
    intro g_p3 x4 H locs ls wq hl hf
    obtain ⟨hP, hD, hS⟩ := wq
    obtain ⟨y8, hy8, hfo8⟩ := db_e hf
    have hL8 : ∀ (n : Nat) (g_p3 : Nat → Int32) (x4 : Int32) (H : Heap) (locs : List Loc) (ls : Array Slot), lp (fun x => S_lay_b8 N g_p1 f_p2_relations f_p2_edges x.1 f_end x.2) n (g_p3, x4) = some y8 → PDS G.1 classes A s [(a_p1, aI G 16 g_p1), (a_p2, O_G f_p2_relations f_p2_edges f_p2_limit a_p2_rows a_p2_left a_p2_right a_p2_by), (a_p3, aI G 256 g_p3), (h0, O_S f_known f_paired f_cappedInAll f_connectedInAll f_pairsInAll a_sizes a_capped a_connected f_end a_leftIn a_rightIn a_pairs)] H locs → lv_has ls 7 [(0, .ref h0), (1, .ref a_p1), (2, .ref a_p2), (3, .ref a_p3), (4, .int x4)] → W p l e (rmk 1) s m args below meth c H locs 0 0 Q (F0 m 8 ls []) := by
      intro n
      induction n with
      | zero =>
        intro g_p3 x4 H locs ls hf
        exact lp_0 hf
      | succ n ih8 =>
        intro g_p3 x4 H locs ls hf wq hl
        obtain ⟨hP, hD, hS⟩ := wq
        obtain ⟨r8, hf, hk8⟩ := lp_s hf
        have hf : S_lay_b8 N g_p1 f_p2_relations f_p2_edges g_p3 f_end x4 = some r8 := hf
        refine lv_iload hx hb d_S_lay_8 (lv_at hl 4 rfl) ?_
        refine lv_aload_n hx hb d_S_lay_10 rfl (lv_at hl 2 rfl) ?_
        refine va_get (D := G.1) (ci := 1) (v := .int f_p2_edges) (C := n_G) (T := T_G) (N := 7) hx hb htl iw_G hown hK hP 1 rfl rfl 1 (by decide) (htl _ k_143) (fun _ h9 => h9) rfl d_S_lay_11 ?_
        refine lv_icmp_ge (tgt := 36) hx hb d_S_lay_14 (by decide) (fun c3 => ?_) (fun c3 => ?_)
        · have hf := di_t c3 hf
          have hq8 := lpk_x hf hk8
          have hf := ex_y (f := fun y => S_lay_a8 N g_p1 f_p2_relations f_p2_edges f_end y) hq8 hfo8
          have hf : S_lay_36 N g_p1 f_p2_relations f_p2_edges g_p3 f_end = some res := hf
          exact hJ36 g_p3 H locs ls ⟨hP, hD, hS⟩ (lv_sub hl [0, 2, 3] rfl) hf
        · have hf := di_f c3 hf
          refine lv_aload_n hx hb d_S_lay_17 rfl (lv_at hl 3 rfl) ?_
          refine lv_aload_n hx hb d_S_lay_18 rfl (lv_at hl 1 rfl) ?_
          refine lv_iload hx hb d_S_lay_19 (lv_at hl 4 rfl) ?_
          obtain ⟨c4, hf⟩ := dk_e hf
          refine va_iald hx hb hK hP 0 1 rfl rfl c4 d_S_lay_21 ?_
          refine lv_dup2_11 hx hb d_S_lay_22 rfl rfl ?_
          obtain ⟨c5, hf⟩ := dk_e hf
          refine va_iald hx hb hK hP 2 1 rfl rfl c5 d_S_lay_23 ?_
          refine lv_iconst (v := (1 : Int32)) hx hb d_S_lay_24 (by decide) ?_
          refine lv_iload hx hb d_S_lay_25 (lv_at hl 4 rfl) ?_
          refine lv_ishl hx hb d_S_lay_27 ?_
          refine lv_ior hx hb d_S_lay_28 ?_
          refine nx_iast hx hb hK hP hD hS 2 1 rfl rfl c5 d_S_lay_29 (fun v6 ev6 H locs hP hD hS => ?_)
          have hf := dn_e ev6 hf
          have hP : va_P G.1 classes [(a_p1, aI G 16 g_p1), (a_p2, O_G f_p2_relations f_p2_edges f_p2_limit a_p2_rows a_p2_left a_p2_right a_p2_by), (a_p3, aI G 256 v6), (h0, O_S f_known f_paired f_cappedInAll f_connectedInAll f_pairsInAll a_sizes a_capped a_connected f_end a_leftIn a_rightIn a_pairs)] H := hP
          have hD : va_D A [(a_p1, aI G 16 g_p1), (a_p2, O_G f_p2_relations f_p2_edges f_p2_limit a_p2_rows a_p2_left a_p2_right a_p2_by), (a_p3, aI G 256 v6), (h0, O_S f_known f_paired f_cappedInAll f_connectedInAll f_pairsInAll a_sizes a_capped a_connected f_end a_leftIn a_rightIn a_pairs)] := hD
          obtain ⟨v7, ev7⟩ : ∃ z : Int32, z = x4 + (1 : Int32) := ⟨_, rfl⟩
          have hf := dn_e ev7 hf
          refine lv_iinc (v := v7) (lv' := [(4, .int v7), (0, .ref h0), (1, .ref a_p1), (2, .ref a_p2), (3, .ref a_p3)]) hx hb d_S_lay_30 hl (k := 4) rfl (by rw [ev7]; rfl) (by decide) rfl (fun ls hl => ?_)
          refine lv_goto (tgt := 8) hx hb d_S_lay_33 (by decide) ?_
          exact ih8 v6 v7 H locs ls (lpk_i hf hk8) ⟨hP, hD, hS⟩ (lv_sub hl [1, 2, 3, 4, 0] rfl)
    exact hL8 N g_p3 x4 H locs ls hy8 ⟨hP, hD, hS⟩ hl
  refine lv_aload_n hx hb d_S_lay_0 rfl (lv_at hl 3 rfl) ?_
  refine lv_iconst (v := (0 : Int32)) hx hb d_S_lay_1 (by decide) ?_
  obtain ⟨t1, hv2, hf⟩ := db_e hf
  refine call_v (isC := [2]) (run_S (As := [.ref a_p3, .int (0 : Int32)]) (rest := []) hx hb hml hown htl (c_Y_fill_ints_int l G Y  a_p3 g_p3 (0 : Int32) N t1 hv2) ms_Y_fill_ints_int k_849 (hRk (by decide) (by decide)) hK hsk hS hP hD (isC := [2]) rfl (by decide) rfl hl.1 rfl (lv_room (Nat.le_of_ble_eq_true rfl)) d_S_lay_2) hP hD hS rfl rfl (fun H locs hP hD hS => ?_)
  have hP : va_P G.1 classes [(a_p1, aI G 16 g_p1), (a_p2, O_G f_p2_relations f_p2_edges f_p2_limit a_p2_rows a_p2_left a_p2_right a_p2_by), (a_p3, aI G 256 t1), (h0, O_S f_known f_paired f_cappedInAll f_connectedInAll f_pairsInAll a_sizes a_capped a_connected f_end a_leftIn a_rightIn a_pairs)] H := hP
  have hD : va_D A [(a_p1, aI G 16 g_p1), (a_p2, O_G f_p2_relations f_p2_edges f_p2_limit a_p2_rows a_p2_left a_p2_right a_p2_by), (a_p3, aI G 256 t1), (h0, O_S f_known f_paired f_cappedInAll f_connectedInAll f_pairsInAll a_sizes a_capped a_connected f_end a_leftIn a_rightIn a_pairs)] := hD
  refine lv_iconst (v := (0 : Int32)) hx hb d_S_lay_5 (by decide) ?_
  refine lv_istore (lv' := [(4, .int (0 : Int32)), (0, .ref h0), (1, .ref a_p1), (2, .ref a_p2), (3, .ref a_p3)]) hx hb d_S_lay_6 hl (by decide) rfl (fun ls hl => ?_)
  exact hJ8 t1 (0 : Int32) H locs ls ⟨hP, hD, hS⟩ (lv_sub hl [1, 2, 3, 4, 0] rfl) hf
set_option maxHeartbeats 4000000 in
set_option maxRecDepth 100000 in
theorem c_S_edgesIn (l : Launch) (G : va_G × (Nat → ClassId)) (Y : (Nat → Nat) × (Nat → Nat)) (h0 : Nat) (a_sizes : Nat) (a_capped : Nat) (a_connected : Nat) (a_leftIn : Nat) (a_rightIn : Nat) (a_pairs : Nat) (f_known : Int32) (f_paired : Int32) (f_cappedInAll : Int32) (f_connectedInAll : Int32) (f_pairsInAll : Int32) (f_end : Int32) (g_leftIn : Nat → Int32) (g_rightIn : Nat → Int32) (x1 : Int32) (res : Int32) (hf : S_edgesIn g_leftIn g_rightIn x1 = some res) : Ci l classes y_S_edgesIn b_S_edgesIn 2 (some .int) (rmk 0) G.1 (tyL G) Y [.ref h0, .int x1] [(h0, O_S f_known f_paired f_cappedInAll f_connectedInAll f_pairsInAll a_sizes a_capped a_connected f_end a_leftIn a_rightIn a_pairs), (a_leftIn, aI G 256 g_leftIn), (a_rightIn, aI G 256 g_rightIn)] [(h0, O_S f_known f_paired f_cappedInAll f_connectedInAll f_pairsInAll a_sizes a_capped a_connected f_end a_leftIn a_rightIn a_pairs), (a_leftIn, aI G 256 g_leftIn), (a_rightIn, aI G 256 g_rightIn)] res := by
  refine entI (by decide) (Nat.le_of_ble_eq_true rfl) ?_
  intro p e s m args below meth c ls A Q hx hb hml hown htl hK hsk wq hl hret
  obtain ⟨hP, hD, hS⟩ := wq
  have hl : lv_has ls 2 [(0, .ref h0), (1, .int x1)] := hl
  have hS : va_S A s.heap s.heap [] := hS
  obtain ⟨H, hH⟩ : ∃ H : Heap, H = s.heap := ⟨_, rfl⟩
  obtain ⟨locs, hlocs⟩ : ∃ z : List Loc, z = [] := ⟨_, rfl⟩
  rw [← hH] at hP
  replace hS : va_S A s.heap H locs := by rw [hH, hlocs]; exact hS
  suffices hgo : W p l e (rmk 0) s m args below meth c H locs 0 0 Q (F0 m 0 ls []) by rw [hH, hlocs] at hgo; exact hgo
  refine lv_aload_n hx hb d_S_edgesIn_0 rfl (lv_at hl 0 rfl) ?_
  refine va_get (D := G.1) (ci := 8) (v := .ref a_leftIn) (C := n_S) (T := T_S) (N := 12) hx hb htl iw_S hown hK hP 0 rfl rfl 9 (by decide) (htl _ k_362) (fun _ h9 => h9) rfl d_S_edgesIn_1 ?_
  refine lv_iload_n hx hb d_S_edgesIn_4 rfl (lv_at hl 1 rfl) ?_
  obtain ⟨c1, hf⟩ := dk_e hf
  refine va_iald hx hb hK hP 1 1 rfl rfl c1 d_S_edgesIn_5 ?_
  refine lv_aload_n hx hb d_S_edgesIn_6 rfl (lv_at hl 0 rfl) ?_
  refine va_get (D := G.1) (ci := 8) (v := .ref a_rightIn) (C := n_S) (T := T_S) (N := 12) hx hb htl iw_S hown hK hP 0 rfl rfl 10 (by decide) (htl _ k_363) (fun _ h9 => h9) rfl d_S_edgesIn_7 ?_
  refine lv_iload_n hx hb d_S_edgesIn_10 rfl (lv_at hl 1 rfl) ?_
  refine va_iald hx hb hK hP 2 1 rfl rfl c1 d_S_edgesIn_11 ?_
  refine lv_iand hx hb d_S_edgesIn_12 ?_
  cases hf
  exact hret 13 ls H locs hP hS d_S_edgesIn_13
