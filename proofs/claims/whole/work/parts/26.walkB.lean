set_option maxHeartbeats 4000000 in
set_option maxRecDepth 100000 in
theorem c_P_place (l : Launch) (G : va_G × (Nat → ClassId)) (Y : (Nat → Nat) × (Nat → Nat)) (K : Nat) : ∀ (h0 : Nat) (a_p2 : Nat) (a_set : Nat) (a_part : Nat) (g_p2 : Nat → Int32) (f_root : Int32) (f_joins : Int32) (g_part : Nat → Int32) (g_set : Nat → Int32) (x1 : Int32) (x3 : Int32) (res : Int32 × (Nat → Int32) × (Nat → Int32)) (hf : P_place K g_p2 f_joins g_part g_set x1 x3 = some res) , Cv l classes y_P_place b_P_place 5 none (rmk (1 + K)) G.1 (tyL G) Y [.ref h0, .int x1, .ref a_p2, .int x3] [(a_p2, aI G 256 g_p2), (h0, O_P f_root f_joins a_set a_part), (a_part, aI G 7 g_part), (a_set, aI G 7 g_set)] [(a_p2, aI G 256 g_p2), (h0, O_P f_root res.1 a_set a_part), (a_part, aI G 7 res.2.1), (a_set, aI G 7 res.2.2)] := by
  induction K with
  | zero =>
    intro h0 a_p2 a_set a_part g_p2 f_root f_joins g_part g_set x1 x3 res hf
    exact absurd hf (by simp [P_place])
  | succ K ih =>
    intro h0 a_p2 a_set a_part g_p2 f_root f_joins g_part g_set x1 x3 res hf
    rw [P_place_s] at hf
    refine entV (by decide) (Nat.le_of_ble_eq_true rfl) ?_
    intro p e s m args below meth c ls A Q hx hb hml hown htl hK hsk wq hl hret
    obtain ⟨hP, hD, hS⟩ := wq
    have hl : lv_has ls 5 [(0, .ref h0), (1, .int x1), (2, .ref a_p2), (3, .int x3)] := hl
    have hS : va_S A s.heap s.heap [] := hS
    obtain ⟨H, hH⟩ : ∃ H : Heap, H = s.heap := ⟨_, rfl⟩
    obtain ⟨locs, hlocs⟩ : ∃ z : List Loc, z = [] := ⟨_, rfl⟩
    rw [← hH] at hP
    replace hS : va_S A s.heap H locs := by rw [hH, hlocs]; exact hS
    suffices hgo : W p l e (rmk (1 + (K + 1))) s m args below meth c H locs 0 0 Q (F0 m 0 ls []) by rw [hH, hlocs] at hgo; exact hgo
    refine lv_iload_n hx hb d_P_place_0 rfl (lv_at hl 3 rfl) ?_
    refine lv_bipush (v := (7 : Int32)) hx hb d_P_place_1 (by decide) ?_
    refine lv_icmp_ge (tgt := 30) hx hb d_P_place_3 (by decide) (fun c1 => ?_) (fun c1 => ?_)
    · have hf := di_t c1 hf
      cases hf
      exact hret 30 ls H locs hP hS d_P_place_30
    · have hf := di_f c1 hf
      refine lv_aload_n hx hb d_P_place_6 rfl (lv_at hl 0 rfl) ?_
      refine va_get (D := G.1) (ci := 4) (v := .int f_joins) (C := n_P) (T := T_P) (N := 4) hx hb htl iw_P hown hK hP 1 rfl rfl 1 (by decide) (htl _ k_188) (fun _ h9 => h9) rfl d_P_place_7 ?_
      refine lv_bipush (v := (7 : Int32)) hx hb d_P_place_10 (by decide) ?_
      refine lv_icmp_ge (tgt := 30) hx hb d_P_place_12 (by decide) (fun c2 => ?_) (fun c2 => ?_)
      · have hf := di_t c2 hf
        cases hf
        exact hret 30 ls H locs hP hS d_P_place_30
      · have hf := di_f c2 hf
        refine lv_iload_n hx hb d_P_place_15 rfl (lv_at hl 1 rfl) ?_
        refine lv_sipush (v := (256 : Int32)) hx hb d_P_place_16 (by decide) ?_
        refine lv_icmp_ge (tgt := 30) hx hb d_P_place_19 (by decide) (fun c3 => ?_) (fun c3 => ?_)
        · have hf := di_t c3 hf
          cases hf
          exact hret 30 ls H locs hP hS d_P_place_30
        · have hf := di_f c3 hf
          refine lv_iload_n hx hb d_P_place_22 rfl (lv_at hl 1 rfl) ?_
          refine call_i (isC := []) (run_S (As := [.int x1]) (rest := []) hx hb hml hown htl (c_I_bitCount l G Y  x1 _ rfl) ms_I_bitCount k_763 (hRk (by omega) (by decide)) hK hsk hS hP hD (isC := []) rfl (by decide) rfl hl.1 rfl (lv_room (Nat.le_of_ble_eq_true rfl)) d_P_place_23) hP hD hS rfl rfl (fun H locs hP hD hS => ?_)
          have hP : va_P G.1 classes [(a_p2, aI G 256 g_p2), (h0, O_P f_root f_joins a_set a_part), (a_part, aI G 7 g_part), (a_set, aI G 7 g_set)] H := hP
          have hD : va_D A [(a_p2, aI G 256 g_p2), (h0, O_P f_root f_joins a_set a_part), (a_part, aI G 7 g_part), (a_set, aI G 7 g_set)] := hD
          refine lv_iconst (v := (2 : Int32)) hx hb d_P_place_26 (by decide) ?_
          refine lv_icmp_ge (tgt := 31) hx hb d_P_place_27 (by decide) (fun c4 => ?_) (fun c4 => ?_)
          · have hf := di_t c4 hf
            refine lv_aload_n hx hb d_P_place_31 rfl (lv_at hl 2 rfl) ?_
            refine lv_iload_n hx hb d_P_place_32 rfl (lv_at hl 1 rfl) ?_
            obtain ⟨c5, hf⟩ := dk_e hf
            refine va_iald hx hb hK hP 0 1 rfl rfl c5 d_P_place_33 ?_
            refine lv_topi (fun v6 ev6 => ?_)
            have hf := dn_e ev6 hf
            refine lv_istore (lv' := [(4, .int v6), (0, .ref h0), (1, .int x1), (2, .ref a_p2), (3, .int x3)]) hx hb d_P_place_34 hl (by decide) rfl (fun ls hl => ?_)
            refine lv_aload_n hx hb d_P_place_36 rfl (lv_at hl 1 rfl) ?_
            refine va_get (D := G.1) (ci := 4) (v := .ref a_set) (C := n_P) (T := T_P) (N := 4) hx hb htl iw_P hown hK hP 1 rfl rfl 2 (by decide) (htl _ k_191) (fun _ h9 => h9) rfl d_P_place_37 ?_
            refine lv_aload_n hx hb d_P_place_40 rfl (lv_at hl 1 rfl) ?_
            refine va_get (D := G.1) (ci := 4) (v := .int f_joins) (C := n_P) (T := T_P) (N := 4) hx hb htl iw_P hown hK hP 1 rfl rfl 1 (by decide) (htl _ k_188) (fun _ h9 => h9) rfl d_P_place_41 ?_
            refine lv_iload_n hx hb d_P_place_44 rfl (lv_at hl 2 rfl) ?_
            obtain ⟨c7, hf⟩ := dk_e hf
            refine nx_iast hx hb hK hP hD hS 3 1 rfl rfl c7 d_P_place_45 (fun v8 ev8 H locs hP hD hS => ?_)
            have hf := dn_e ev8 hf
            have hP : va_P G.1 classes [(a_p2, aI G 256 g_p2), (h0, O_P f_root f_joins a_set a_part), (a_part, aI G 7 g_part), (a_set, aI G 7 v8)] H := hP
            have hD : va_D A [(a_p2, aI G 256 g_p2), (h0, O_P f_root f_joins a_set a_part), (a_part, aI G 7 g_part), (a_set, aI G 7 v8)] := hD
            refine lv_aload_n hx hb d_P_place_46 rfl (lv_at hl 1 rfl) ?_
            refine va_get (D := G.1) (ci := 4) (v := .ref a_part) (C := n_P) (T := T_P) (N := 4) hx hb htl iw_P hown hK hP 1 rfl rfl 3 (by decide) (htl _ k_195) (fun _ h9 => h9) rfl d_P_place_47 ?_
            refine lv_aload_n hx hb d_P_place_50 rfl (lv_at hl 1 rfl) ?_
            refine va_get (D := G.1) (ci := 4) (v := .int f_joins) (C := n_P) (T := T_P) (N := 4) hx hb htl iw_P hown hK hP 1 rfl rfl 1 (by decide) (htl _ k_188) (fun _ h9 => h9) rfl d_P_place_51 ?_
            refine lv_iload hx hb d_P_place_54 (lv_at hl 0 rfl) ?_
            refine nx_iast hx hb hK hP hD hS 2 1 rfl rfl c7 d_P_place_56 (fun v9 ev9 H locs hP hD hS => ?_)
            have hf := dn_e ev9 hf
            have hP : va_P G.1 classes [(a_p2, aI G 256 g_p2), (h0, O_P f_root f_joins a_set a_part), (a_part, aI G 7 v9), (a_set, aI G 7 v8)] H := hP
            have hD : va_D A [(a_p2, aI G 256 g_p2), (h0, O_P f_root f_joins a_set a_part), (a_part, aI G 7 v9), (a_set, aI G 7 v8)] := hD
            refine lv_aload_n hx hb d_P_place_57 rfl (lv_at hl 1 rfl) ?_
            refine lv_dup hx hb d_P_place_58 rfl ?_
            refine va_get (D := G.1) (ci := 4) (v := .int f_joins) (C := n_P) (T := T_P) (N := 4) hx hb htl iw_P hown hK hP 1 rfl rfl 1 (by decide) (htl _ k_188) (fun _ h9 => h9) rfl d_P_place_59 ?_
            refine lv_iconst (v := (1 : Int32)) hx hb d_P_place_62 (by decide) ?_
            refine lv_iadd hx hb d_P_place_63 ?_
            refine lv_topi (fun v10 ev10 => ?_)
            have hf := dn_e ev10 hf
            refine va_put (D := G.1) (ci := 4) (v := .int v10) (ty := .int) (C := n_P) (T := T_P) (N := 4) hx hb htl iw_P ty_P ty_P_ok nm_P hown hK hP hD hS 1 rfl rfl 1 (by decide) (htl _ k_188) (fun _ h9 => h9) rfl (by decide +kernel) rfl rfl (Nat.le_of_ble_eq_true rfl) d_P_place_64 (fun H locs hP hD hS => ?_)
            have hP : va_P G.1 classes [(a_p2, aI G 256 g_p2), (h0, O_P f_root v10 a_set a_part), (a_part, aI G 7 v9), (a_set, aI G 7 v8)] H := hP
            have hD : va_D A [(a_p2, aI G 256 g_p2), (h0, O_P f_root v10 a_set a_part), (a_part, aI G 7 v9), (a_set, aI G 7 v8)] := hD
            refine lv_aload_n hx hb d_P_place_67 rfl (lv_at hl 1 rfl) ?_
            refine lv_iload hx hb d_P_place_68 (lv_at hl 0 rfl) ?_
            refine lv_aload_n hx hb d_P_place_70 rfl (lv_at hl 3 rfl) ?_
            refine lv_iload_n hx hb d_P_place_71 rfl (lv_at hl 4 rfl) ?_
            refine lv_iconst (v := (1 : Int32)) hx hb d_P_place_72 (by decide) ?_
            refine lv_iadd hx hb d_P_place_73 ?_
            obtain ⟨t11, hv12, hf⟩ := db_e hf
            refine call_v (isC := [0, 1, 2, 3]) (run_V (As := [.int v6, .ref a_p2, .int (x3 + (1 : Int32))]) (rest := []) (ci := 4) (q0 := 1) hx hb hml hown htl (ih h0 a_p2 a_set a_part g_p2 f_root v10 v9 v8 v6 (x3 + (1 : Int32)) t11 hv12) mv_P_place k_759 (hRk (by omega) (by decide)) hK hsk hS hP hD (isC := [0, 1, 2, 3]) rfl (by decide) rfl rfl rfl hl.1 rfl (lv_room (Nat.le_of_ble_eq_true rfl)) d_P_place_74) hP hD hS rfl rfl (fun H locs hP hD hS => ?_)
            have hP : va_P G.1 classes [(a_p2, aI G 256 g_p2), (h0, O_P f_root t11.1 a_set a_part), (a_part, aI G 7 t11.2.1), (a_set, aI G 7 t11.2.2)] H := hP
            have hD : va_D A [(a_p2, aI G 256 g_p2), (h0, O_P f_root t11.1 a_set a_part), (a_part, aI G 7 t11.2.1), (a_set, aI G 7 t11.2.2)] := hD
            refine lv_aload_n hx hb d_P_place_77 rfl (lv_at hl 1 rfl) ?_
            refine lv_iload_n hx hb d_P_place_78 rfl (lv_at hl 2 rfl) ?_
            refine lv_iload hx hb d_P_place_79 (lv_at hl 0 rfl) ?_
            refine lv_ixor hx hb d_P_place_81 ?_
            refine lv_aload_n hx hb d_P_place_82 rfl (lv_at hl 3 rfl) ?_
            refine lv_iload_n hx hb d_P_place_83 rfl (lv_at hl 4 rfl) ?_
            refine lv_iconst (v := (1 : Int32)) hx hb d_P_place_84 (by decide) ?_
            refine lv_iadd hx hb d_P_place_85 ?_
            obtain ⟨t13, hv14, hf⟩ := db_e hf
            refine call_v (isC := [0, 1, 2, 3]) (run_V (As := [.int (x1 ^^^ v6), .ref a_p2, .int (x3 + (1 : Int32))]) (rest := []) (ci := 4) (q0 := 1) hx hb hml hown htl (ih h0 a_p2 a_set a_part g_p2 f_root t11.1 t11.2.1 t11.2.2 (x1 ^^^ v6) (x3 + (1 : Int32)) t13 hv14) mv_P_place k_759 (hRk (by omega) (by decide)) hK hsk hS hP hD (isC := [0, 1, 2, 3]) rfl (by decide) rfl rfl rfl hl.1 rfl (lv_room (Nat.le_of_ble_eq_true rfl)) d_P_place_86) hP hD hS rfl rfl (fun H locs hP hD hS => ?_)
            have hP : va_P G.1 classes [(a_p2, aI G 256 g_p2), (h0, O_P f_root t13.1 a_set a_part), (a_part, aI G 7 t13.2.1), (a_set, aI G 7 t13.2.2)] H := hP
            have hD : va_D A [(a_p2, aI G 256 g_p2), (h0, O_P f_root t13.1 a_set a_part), (a_part, aI G 7 t13.2.1), (a_set, aI G 7 t13.2.2)] := hD
            cases hf
            exact hret 89 ls H locs hP hS d_P_place_89
          · have hf := di_f c4 hf
            cases hf
            exact hret 30 ls H locs hP hS d_P_place_30
set_option maxHeartbeats 4000000 in
set_option maxRecDepth 100000 in
theorem c_P_tellSet (l : Launch) (G : va_G × (Nat → ClassId)) (Y : (Nat → Nat) × (Nat → Nat)) (K : Nat) : ∀ (h0 : Nat) (a_p2 : Nat) (a_set : Nat) (a_part : Nat) (g_p2 : Nat → Int32) (f_root : Int32) (f_joins : Int32) (g_part : Nat → Int32) (g_set : Nat → Int32) (x1 : Int32) (x3 : Int32) (x4 : Int32) (N : Nat) (res : Int32 × (Nat → Int32)) (hf : P_tellSet K N g_p2 f_joins g_part g_set x1 x3 x4 = some res) , Ci l classes y_P_tellSet b_P_tellSet 7 (some .int) (rmk (2 + K)) G.1 (tyL G) Y [.ref h0, .int x1, .ref a_p2, .int x3, .int x4] [(a_p2, aI G 29 g_p2), (h0, O_P f_root f_joins a_set a_part), (a_part, aI G 7 g_part), (a_set, aI G 7 g_set)] [(a_p2, aI G 29 res.2), (h0, O_P f_root f_joins a_set a_part), (a_part, aI G 7 g_part), (a_set, aI G 7 g_set)] res.1 := by
  induction K with
  | zero =>
    intro h0 a_p2 a_set a_part g_p2 f_root f_joins g_part g_set x1 x3 x4 N res hf
    exact absurd hf (by simp [P_tellSet])
  | succ K ih =>
    intro h0 a_p2 a_set a_part g_p2 f_root f_joins g_part g_set x1 x3 x4 N res hf
    rw [P_tellSet_s] at hf
    refine entI (by decide) (Nat.le_of_ble_eq_true rfl) ?_
    intro p e s m args below meth c ls A Q hx hb hml hown htl hK hsk wq hl hret
    obtain ⟨hP, hD, hS⟩ := wq
    have hl : lv_has ls 7 [(0, .ref h0), (1, .int x1), (2, .ref a_p2), (3, .int x3), (4, .int x4)] := hl
    have hS : va_S A s.heap s.heap [] := hS
    obtain ⟨H, hH⟩ : ∃ H : Heap, H = s.heap := ⟨_, rfl⟩
    obtain ⟨locs, hlocs⟩ : ∃ z : List Loc, z = [] := ⟨_, rfl⟩
    rw [← hH] at hP
    replace hS : va_S A s.heap H locs := by rw [hH, hlocs]; exact hS
    suffices hgo : W p l e (rmk (2 + (K + 1))) s m args below meth c H locs 0 0 Q (F0 m 0 ls []) by rw [hH, hlocs] at hgo; exact hgo
    have hJ19 : ∀ (g_p2 : Nat → Int32) (H : Heap) (locs : List Loc) (ls : Array Slot), PDS G.1 classes A s [(a_p2, aI G 29 g_p2), (h0, O_P f_root f_joins a_set a_part), (a_part, aI G 7 g_part), (a_set, aI G 7 g_set)] H locs → lv_has ls 7 [(1, .int x1), (2, .ref a_p2), (3, .int x3)] → P_tellSet_19 N g_p2 f_joins g_part g_set x1 x3 = some res → W p l e (rmk (2 + (K + 1))) s m args below meth c H locs 0 0 Q (F0 m 19 ls []) := by
      intro g_p2 H locs ls wq hl hf
      obtain ⟨hP, hD, hS⟩ := wq
      refine lv_bipush (v := (48 : Int32)) hx hb d_P_tellSet_19 (by decide) ?_
      refine lv_iload_n hx hb d_P_tellSet_21 rfl (lv_at hl 0 rfl) ?_
      refine call_i (isC := []) (run_SN (As := [.int x1]) (rest := [.int (48 : Int32)]) hx hb hml hown htl (c_J_relationOf l G Y  x1 _ rfl) ms_J_relationOf k_1059 (hRk (by omega) (by decide)) hK hsk hS hP hD (isC := []) rfl (by decide) rfl hl.1 rfl (lv_room (Nat.le_of_ble_eq_true rfl)) d_P_tellSet_22) hP hD hS rfl rfl (fun H locs hP hD hS => ?_)
      have hP : va_P G.1 classes [(a_p2, aI G 29 g_p2), (h0, O_P f_root f_joins a_set a_part), (a_part, aI G 7 g_part), (a_set, aI G 7 g_set)] H := hP
      have hD : va_D A [(a_p2, aI G 29 g_p2), (h0, O_P f_root f_joins a_set a_part), (a_part, aI G 7 g_part), (a_set, aI G 7 g_set)] := hD
      refine lv_iadd hx hb d_P_tellSet_25 ?_
      refine lv_aload_n hx hb d_P_tellSet_26 rfl (lv_at hl 1 rfl) ?_
      refine lv_iload_n hx hb d_P_tellSet_27 rfl (lv_at hl 2 rfl) ?_
      obtain ⟨t15, hv16, hf⟩ := db_e hf
      refine call_i (isC := [0]) (run_S (As := [.int ((48 : Int32) + (J_relationOf x1)), .ref a_p2, .int x3]) (rest := []) hx hb hml hown htl (c_P_put l G Y  a_p2 g_p2 ((48 : Int32) + (J_relationOf x1)) x3 t15 hv16) ms_P_put k_1062 (hRk (by omega) (by decide)) hK hsk hS hP hD (isC := [0]) rfl (by decide) rfl hl.1 rfl (lv_room (Nat.le_of_ble_eq_true rfl)) d_P_tellSet_28) hP hD hS rfl rfl (fun H locs hP hD hS => ?_)
      have hP : va_P G.1 classes [(a_p2, aI G 29 t15.2), (h0, O_P f_root f_joins a_set a_part), (a_part, aI G 7 g_part), (a_set, aI G 7 g_set)] H := hP
      have hD : va_D A [(a_p2, aI G 29 t15.2), (h0, O_P f_root f_joins a_set a_part), (a_part, aI G 7 g_part), (a_set, aI G 7 g_set)] := hD
      cases hf
      exact hret 31 ls H locs hP hS d_P_tellSet_31
    refine lv_aload_n hx hb d_P_tellSet_0 rfl (lv_at hl 0 rfl) ?_
    refine lv_iload_n hx hb d_P_tellSet_1 rfl (lv_at hl 1 rfl) ?_
    obtain ⟨t1, hv2, hf⟩ := db_e hf
    refine call_i (isC := [1, 2, 3]) (run_V (As := [.int x1]) (rest := []) (ci := 4) (q0 := 1) hx hb hml hown htl (c_P_partOf l G Y  h0 a_set a_part f_root f_joins g_part g_set x1 N t1 hv2) mv_P_partOf k_1055 (hRk (by omega) (by decide)) hK hsk hS hP hD (isC := [1, 2, 3]) rfl (by decide) rfl rfl rfl hl.1 rfl (lv_room (Nat.le_of_ble_eq_true rfl)) d_P_tellSet_2) hP hD hS rfl rfl (fun H locs hP hD hS => ?_)
    have hP : va_P G.1 classes [(a_p2, aI G 29 g_p2), (h0, O_P f_root f_joins a_set a_part), (a_part, aI G 7 g_part), (a_set, aI G 7 g_set)] H := hP
    have hD : va_D A [(a_p2, aI G 29 g_p2), (h0, O_P f_root f_joins a_set a_part), (a_part, aI G 7 g_part), (a_set, aI G 7 g_set)] := hD
    refine lv_istore (lv' := [(5, .int t1), (0, .ref h0), (1, .int x1), (2, .ref a_p2), (3, .int x3), (4, .int x4)]) hx hb d_P_tellSet_5 hl (by decide) rfl (fun ls hl => ?_)
    refine lv_iload hx hb d_P_tellSet_7 (lv_at hl 0 rfl) ?_
    refine lv_if_eq (tgt := 19) hx hb d_P_tellSet_9 (by decide) (fun c3 => ?_) (fun c3 => ?_)
    · have hf := di_t c3 hf
      exact hJ19 g_p2 H locs ls ⟨hP, hD, hS⟩ (lv_sub hl [2, 3, 4] rfl) hf
    · have hf := di_f c3 hf
      refine lv_iload hx hb d_P_tellSet_12 (lv_at hl 5 rfl) ?_
      refine lv_bipush (v := (7 : Int32)) hx hb d_P_tellSet_14 (by decide) ?_
      refine lv_icmp_lt (tgt := 32) hx hb d_P_tellSet_16 (by decide) (fun c4 => ?_) (fun c4 => ?_)
      · have hf := di_t c4 hf
        refine lv_bipush (v := (40 : Int32)) hx hb d_P_tellSet_32 (by decide) ?_
        refine lv_aload_n hx hb d_P_tellSet_34 rfl (lv_at hl 3 rfl) ?_
        refine lv_iload_n hx hb d_P_tellSet_35 rfl (lv_at hl 4 rfl) ?_
        obtain ⟨t5, hv6, hf⟩ := db_e hf
        refine call_i (isC := [0]) (run_S (As := [.int (40 : Int32), .ref a_p2, .int x3]) (rest := []) hx hb hml hown htl (c_P_put l G Y  a_p2 g_p2 (40 : Int32) x3 t5 hv6) ms_P_put k_1062 (hRk (by omega) (by decide)) hK hsk hS hP hD (isC := [0]) rfl (by decide) rfl hl.1 rfl (lv_room (Nat.le_of_ble_eq_true rfl)) d_P_tellSet_36) hP hD hS rfl rfl (fun H locs hP hD hS => ?_)
        have hP : va_P G.1 classes [(a_p2, aI G 29 t5.2), (h0, O_P f_root f_joins a_set a_part), (a_part, aI G 7 g_part), (a_set, aI G 7 g_set)] H := hP
        have hD : va_D A [(a_p2, aI G 29 t5.2), (h0, O_P f_root f_joins a_set a_part), (a_part, aI G 7 g_part), (a_set, aI G 7 g_set)] := hD
        refine lv_istore (lv' := [(6, .int t5.1), (5, .int t1), (0, .ref h0), (1, .int x1), (2, .ref a_p2), (3, .int x3), (4, .int x4)]) hx hb d_P_tellSet_39 hl (by decide) rfl (fun ls hl => ?_)
        refine lv_aload_n hx hb d_P_tellSet_41 rfl (lv_at hl 2 rfl) ?_
        refine lv_iload hx hb d_P_tellSet_42 (lv_at hl 1 rfl) ?_
        refine lv_aload_n hx hb d_P_tellSet_44 rfl (lv_at hl 4 rfl) ?_
        refine lv_iload hx hb d_P_tellSet_45 (lv_at hl 0 rfl) ?_
        refine lv_iload hx hb d_P_tellSet_47 (lv_at hl 6 rfl) ?_
        refine lv_iconst (v := (1 : Int32)) hx hb d_P_tellSet_49 (by decide) ?_
        refine lv_iadd hx hb d_P_tellSet_50 ?_
        obtain ⟨t7, hv8, hf⟩ := db_e hf
        refine call_i (isC := [0, 1, 2, 3]) (run_V (As := [.int t1, .ref a_p2, .int t5.1, .int (x4 + (1 : Int32))]) (rest := []) (ci := 4) (q0 := 1) hx hb hml hown htl (ih h0 a_p2 a_set a_part t5.2 f_root f_joins g_part g_set t1 t5.1 (x4 + (1 : Int32)) N t7 hv8) mv_P_tellSet k_1051 (hRk (by omega) (by decide)) hK hsk hS hP hD (isC := [0, 1, 2, 3]) rfl (by decide) rfl rfl rfl hl.1 rfl (lv_room (Nat.le_of_ble_eq_true rfl)) d_P_tellSet_51) hP hD hS rfl rfl (fun H locs hP hD hS => ?_)
        have hP : va_P G.1 classes [(a_p2, aI G 29 t7.2), (h0, O_P f_root f_joins a_set a_part), (a_part, aI G 7 g_part), (a_set, aI G 7 g_set)] H := hP
        have hD : va_D A [(a_p2, aI G 29 t7.2), (h0, O_P f_root f_joins a_set a_part), (a_part, aI G 7 g_part), (a_set, aI G 7 g_set)] := hD
        refine lv_istore (lv' := [(6, .int t7.1), (5, .int t1), (0, .ref h0), (1, .int x1), (2, .ref a_p2), (3, .int x3), (4, .int x4)]) hx hb d_P_tellSet_54 hl (by decide) rfl (fun ls hl => ?_)
        refine lv_bipush (v := (32 : Int32)) hx hb d_P_tellSet_56 (by decide) ?_
        refine lv_aload_n hx hb d_P_tellSet_58 rfl (lv_at hl 4 rfl) ?_
        refine lv_iload hx hb d_P_tellSet_59 (lv_at hl 0 rfl) ?_
        obtain ⟨t9, hv10, hf⟩ := db_e hf
        refine call_i (isC := [0]) (run_S (As := [.int (32 : Int32), .ref a_p2, .int t7.1]) (rest := []) hx hb hml hown htl (c_P_put l G Y  a_p2 t7.2 (32 : Int32) t7.1 t9 hv10) ms_P_put k_1062 (hRk (by omega) (by decide)) hK hsk hS hP hD (isC := [0]) rfl (by decide) rfl hl.1 rfl (lv_room (Nat.le_of_ble_eq_true rfl)) d_P_tellSet_61) hP hD hS rfl rfl (fun H locs hP hD hS => ?_)
        have hP : va_P G.1 classes [(a_p2, aI G 29 t9.2), (h0, O_P f_root f_joins a_set a_part), (a_part, aI G 7 g_part), (a_set, aI G 7 g_set)] H := hP
        have hD : va_D A [(a_p2, aI G 29 t9.2), (h0, O_P f_root f_joins a_set a_part), (a_part, aI G 7 g_part), (a_set, aI G 7 g_set)] := hD
        refine lv_istore (lv' := [(6, .int t9.1), (5, .int t1), (0, .ref h0), (1, .int x1), (2, .ref a_p2), (3, .int x3), (4, .int x4)]) hx hb d_P_tellSet_64 hl (by decide) rfl (fun ls hl => ?_)
        refine lv_aload_n hx hb d_P_tellSet_66 rfl (lv_at hl 2 rfl) ?_
        refine lv_iload_n hx hb d_P_tellSet_67 rfl (lv_at hl 3 rfl) ?_
        refine lv_iload hx hb d_P_tellSet_68 (lv_at hl 1 rfl) ?_
        refine lv_ixor hx hb d_P_tellSet_70 ?_
        refine lv_aload_n hx hb d_P_tellSet_71 rfl (lv_at hl 4 rfl) ?_
        refine lv_iload hx hb d_P_tellSet_72 (lv_at hl 0 rfl) ?_
        refine lv_iload hx hb d_P_tellSet_74 (lv_at hl 6 rfl) ?_
        refine lv_iconst (v := (1 : Int32)) hx hb d_P_tellSet_76 (by decide) ?_
        refine lv_iadd hx hb d_P_tellSet_77 ?_
        obtain ⟨t11, hv12, hf⟩ := db_e hf
        refine call_i (isC := [0, 1, 2, 3]) (run_V (As := [.int (x1 ^^^ t1), .ref a_p2, .int t9.1, .int (x4 + (1 : Int32))]) (rest := []) (ci := 4) (q0 := 1) hx hb hml hown htl (ih h0 a_p2 a_set a_part t9.2 f_root f_joins g_part g_set (x1 ^^^ t1) t9.1 (x4 + (1 : Int32)) N t11 hv12) mv_P_tellSet k_1051 (hRk (by omega) (by decide)) hK hsk hS hP hD (isC := [0, 1, 2, 3]) rfl (by decide) rfl rfl rfl hl.1 rfl (lv_room (Nat.le_of_ble_eq_true rfl)) d_P_tellSet_78) hP hD hS rfl rfl (fun H locs hP hD hS => ?_)
        have hP : va_P G.1 classes [(a_p2, aI G 29 t11.2), (h0, O_P f_root f_joins a_set a_part), (a_part, aI G 7 g_part), (a_set, aI G 7 g_set)] H := hP
        have hD : va_D A [(a_p2, aI G 29 t11.2), (h0, O_P f_root f_joins a_set a_part), (a_part, aI G 7 g_part), (a_set, aI G 7 g_set)] := hD
        refine lv_istore (lv' := [(6, .int t11.1), (5, .int t1), (0, .ref h0), (1, .int x1), (2, .ref a_p2), (3, .int x3), (4, .int x4)]) hx hb d_P_tellSet_81 hl (by decide) rfl (fun ls hl => ?_)
        refine lv_bipush (v := (41 : Int32)) hx hb d_P_tellSet_83 (by decide) ?_
        refine lv_aload_n hx hb d_P_tellSet_85 rfl (lv_at hl 4 rfl) ?_
        refine lv_iload hx hb d_P_tellSet_86 (lv_at hl 0 rfl) ?_
        obtain ⟨t13, hv14, hf⟩ := db_e hf
        refine call_i (isC := [0]) (run_S (As := [.int (41 : Int32), .ref a_p2, .int t11.1]) (rest := []) hx hb hml hown htl (c_P_put l G Y  a_p2 t11.2 (41 : Int32) t11.1 t13 hv14) ms_P_put k_1062 (hRk (by omega) (by decide)) hK hsk hS hP hD (isC := [0]) rfl (by decide) rfl hl.1 rfl (lv_room (Nat.le_of_ble_eq_true rfl)) d_P_tellSet_88) hP hD hS rfl rfl (fun H locs hP hD hS => ?_)
        have hP : va_P G.1 classes [(a_p2, aI G 29 t13.2), (h0, O_P f_root f_joins a_set a_part), (a_part, aI G 7 g_part), (a_set, aI G 7 g_set)] H := hP
        have hD : va_D A [(a_p2, aI G 29 t13.2), (h0, O_P f_root f_joins a_set a_part), (a_part, aI G 7 g_part), (a_set, aI G 7 g_set)] := hD
        cases hf
        exact hret 91 ls H locs hP hS d_P_tellSet_91
      · have hf := di_f c4 hf
        exact hJ19 g_p2 H locs ls ⟨hP, hD, hS⟩ (lv_sub hl [2, 3, 4] rfl) hf
set_option maxHeartbeats 4000000 in
set_option maxRecDepth 100000 in
theorem c_P_take (l : Launch) (G : va_G × (Nat → ClassId)) (Y : (Nat → Nat) × (Nat → Nat)) (h0 : Nat) (a_p2 : Nat) (a_set : Nat) (a_part : Nat) (g_p2 : Nat → Int32) (f_root : Int32) (f_joins : Int32) (g_part : Nat → Int32) (g_set : Nat → Int32) (x1 : Int32) (res : Int32 × Int32 × (Nat → Int32) × (Nat → Int32)) (hf : P_take g_p2 f_root f_joins g_part g_set x1 = some res) : Cv l classes y_P_take b_P_take 3 none (rmk 11) G.1 (tyL G) Y [.ref h0, .int x1, .ref a_p2] [(a_p2, aI G 256 g_p2), (h0, O_P f_root f_joins a_set a_part), (a_part, aI G 7 g_part), (a_set, aI G 7 g_set)] [(a_p2, aI G 256 g_p2), (h0, O_P res.1 res.2.1 a_set a_part), (a_part, aI G 7 res.2.2.1), (a_set, aI G 7 res.2.2.2)] := by
  refine entV (by decide) (Nat.le_of_ble_eq_true rfl) ?_
  intro p e s m args below meth c ls A Q hx hb hml hown htl hK hsk wq hl hret
  obtain ⟨hP, hD, hS⟩ := wq
  have hl : lv_has ls 3 [(0, .ref h0), (1, .int x1), (2, .ref a_p2)] := hl
  have hS : va_S A s.heap s.heap [] := hS
  obtain ⟨H, hH⟩ : ∃ H : Heap, H = s.heap := ⟨_, rfl⟩
  obtain ⟨locs, hlocs⟩ : ∃ z : List Loc, z = [] := ⟨_, rfl⟩
  rw [← hH] at hP
  replace hS : va_S A s.heap H locs := by rw [hH, hlocs]; exact hS
  suffices hgo : W p l e (rmk 11) s m args below meth c H locs 0 0 Q (F0 m 0 ls []) by rw [hH, hlocs] at hgo; exact hgo
  refine lv_aload_n hx hb d_P_take_0 rfl (lv_at hl 0 rfl) ?_
  refine lv_iload_n hx hb d_P_take_1 rfl (lv_at hl 1 rfl) ?_
  refine va_put (D := G.1) (ci := 4) (v := .int x1) (ty := .int) (C := n_P) (T := T_P) (N := 4) hx hb htl iw_P ty_P ty_P_ok nm_P hown hK hP hD hS 1 rfl rfl 0 (by decide) (htl _ k_184) (fun _ h9 => h9) rfl (by decide +kernel) rfl rfl (Nat.le_of_ble_eq_true rfl) d_P_take_2 (fun H locs hP hD hS => ?_)
  have hP : va_P G.1 classes [(a_p2, aI G 256 g_p2), (h0, O_P x1 f_joins a_set a_part), (a_part, aI G 7 g_part), (a_set, aI G 7 g_set)] H := hP
  have hD : va_D A [(a_p2, aI G 256 g_p2), (h0, O_P x1 f_joins a_set a_part), (a_part, aI G 7 g_part), (a_set, aI G 7 g_set)] := hD
  refine lv_aload_n hx hb d_P_take_5 rfl (lv_at hl 0 rfl) ?_
  refine lv_iconst (v := (0 : Int32)) hx hb d_P_take_6 (by decide) ?_
  refine va_put (D := G.1) (ci := 4) (v := .int (0 : Int32)) (ty := .int) (C := n_P) (T := T_P) (N := 4) hx hb htl iw_P ty_P ty_P_ok nm_P hown hK hP hD hS 1 rfl rfl 1 (by decide) (htl _ k_188) (fun _ h9 => h9) rfl (by decide +kernel) rfl rfl (Nat.le_of_ble_eq_true rfl) d_P_take_7 (fun H locs hP hD hS => ?_)
  have hP : va_P G.1 classes [(a_p2, aI G 256 g_p2), (h0, O_P x1 (0 : Int32) a_set a_part), (a_part, aI G 7 g_part), (a_set, aI G 7 g_set)] H := hP
  have hD : va_D A [(a_p2, aI G 256 g_p2), (h0, O_P x1 (0 : Int32) a_set a_part), (a_part, aI G 7 g_part), (a_set, aI G 7 g_set)] := hD
  refine lv_aload_n hx hb d_P_take_10 rfl (lv_at hl 0 rfl) ?_
  refine lv_iload_n hx hb d_P_take_11 rfl (lv_at hl 1 rfl) ?_
  refine lv_aload_n hx hb d_P_take_12 rfl (lv_at hl 2 rfl) ?_
  refine lv_iconst (v := (0 : Int32)) hx hb d_P_take_13 (by decide) ?_
  obtain ⟨t1, hv2, hf⟩ := db_e hf
  refine call_v (isC := [0, 1, 2, 3]) (run_V (As := [.int x1, .ref a_p2, .int (0 : Int32)]) (rest := []) (ci := 4) (q0 := 1) hx hb hml hown htl (c_P_place l G Y 9  h0 a_p2 a_set a_part g_p2 x1 (0 : Int32) g_part g_set x1 (0 : Int32) t1 hv2) mv_P_place k_759 (hRk (by decide) (by decide)) hK hsk hS hP hD (isC := [0, 1, 2, 3]) rfl (by decide) rfl rfl rfl hl.1 rfl (lv_room (Nat.le_of_ble_eq_true rfl)) d_P_take_14) hP hD hS rfl rfl (fun H locs hP hD hS => ?_)
  have hP : va_P G.1 classes [(a_p2, aI G 256 g_p2), (h0, O_P x1 t1.1 a_set a_part), (a_part, aI G 7 t1.2.1), (a_set, aI G 7 t1.2.2)] H := hP
  have hD : va_D A [(a_p2, aI G 256 g_p2), (h0, O_P x1 t1.1 a_set a_part), (a_part, aI G 7 t1.2.1), (a_set, aI G 7 t1.2.2)] := hD
  cases hf
  exact hret 17 ls H locs hP hS d_P_take_17
set_option maxHeartbeats 4000000 in
set_option maxRecDepth 100000 in
theorem c_P_tell (l : Launch) (G : va_G × (Nat → ClassId)) (Y : (Nat → Nat) × (Nat → Nat)) (h0 : Nat) (a_p1 : Nat) (a_set : Nat) (a_part : Nat) (g_p1 : Nat → Int32) (f_root : Int32) (f_joins : Int32) (g_part : Nat → Int32) (g_set : Nat → Int32) (N : Nat) (res : Int32 × (Nat → Int32)) (hf : P_tell N g_p1 f_root f_joins g_part g_set = some res) : Ci l classes y_P_tell b_P_tell 2 (some .int) (rmk 12) G.1 (tyL G) Y [.ref h0, .ref a_p1] [(a_p1, aI G 29 g_p1), (h0, O_P f_root f_joins a_set a_part), (a_part, aI G 7 g_part), (a_set, aI G 7 g_set)] [(a_p1, aI G 29 res.2), (h0, O_P f_root f_joins a_set a_part), (a_part, aI G 7 g_part), (a_set, aI G 7 g_set)] res.1 := by
  refine entI (by decide) (Nat.le_of_ble_eq_true rfl) ?_
  intro p e s m args below meth c ls A Q hx hb hml hown htl hK hsk wq hl hret
  obtain ⟨hP, hD, hS⟩ := wq
  have hl : lv_has ls 2 [(0, .ref h0), (1, .ref a_p1)] := hl
  have hS : va_S A s.heap s.heap [] := hS
  obtain ⟨H, hH⟩ : ∃ H : Heap, H = s.heap := ⟨_, rfl⟩
  obtain ⟨locs, hlocs⟩ : ∃ z : List Loc, z = [] := ⟨_, rfl⟩
  rw [← hH] at hP
  replace hS : va_S A s.heap H locs := by rw [hH, hlocs]; exact hS
  suffices hgo : W p l e (rmk 12) s m args below meth c H locs 0 0 Q (F0 m 0 ls []) by rw [hH, hlocs] at hgo; exact hgo
  refine lv_aload_n hx hb d_P_tell_0 rfl (lv_at hl 0 rfl) ?_
  refine lv_aload_n hx hb d_P_tell_1 rfl (lv_at hl 0 rfl) ?_
  refine va_get (D := G.1) (ci := 4) (v := .int f_root) (C := n_P) (T := T_P) (N := 4) hx hb htl iw_P hown hK hP 1 rfl rfl 0 (by decide) (htl _ k_184) (fun _ h9 => h9) rfl d_P_tell_2 ?_
  refine lv_aload_n hx hb d_P_tell_5 rfl (lv_at hl 1 rfl) ?_
  refine lv_iconst (v := (0 : Int32)) hx hb d_P_tell_6 (by decide) ?_
  refine lv_iconst (v := (0 : Int32)) hx hb d_P_tell_7 (by decide) ?_
  obtain ⟨t1, hv2, hf⟩ := db_e hf
  refine call_i (isC := [0, 1, 2, 3]) (run_V (As := [.int f_root, .ref a_p1, .int (0 : Int32), .int (0 : Int32)]) (rest := []) (ci := 4) (q0 := 1) hx hb hml hown htl (c_P_tellSet l G Y 9  h0 a_p1 a_set a_part g_p1 f_root f_joins g_part g_set f_root (0 : Int32) (0 : Int32) N t1 hv2) mv_P_tellSet k_1051 (hRk (by decide) (by decide)) hK hsk hS hP hD (isC := [0, 1, 2, 3]) rfl (by decide) rfl rfl rfl hl.1 rfl (lv_room (Nat.le_of_ble_eq_true rfl)) d_P_tell_8) hP hD hS rfl rfl (fun H locs hP hD hS => ?_)
  have hP : va_P G.1 classes [(a_p1, aI G 29 t1.2), (h0, O_P f_root f_joins a_set a_part), (a_part, aI G 7 g_part), (a_set, aI G 7 g_set)] H := hP
  have hD : va_D A [(a_p1, aI G 29 t1.2), (h0, O_P f_root f_joins a_set a_part), (a_part, aI G 7 g_part), (a_set, aI G 7 g_set)] := hD
  cases hf
  exact hret 11 ls H locs hP hS d_P_tell_11
set_option maxHeartbeats 4000000 in
set_option maxRecDepth 100000 in
theorem c_V_turn (l : Launch) (G : va_G × (Nat → ClassId)) (Y : (Nat → Nat) × (Nat → Nat)) (h0 : Nat) (a_p1 : Nat) (a_p1_set : Nat) (a_p1_part : Nat) (a_made : Nat) (a_split : Nat) (a_made_set : Nat) (a_made_part : Nat) (f_p1_root : Int32) (f_p1_joins : Int32) (g_p1_part : Nat → Int32) (g_p1_set : Nat → Int32) (f_made_root : Int32) (f_made_joins : Int32) (g_split : Nat → Int32) (g_made_part : Nat → Int32) (g_made_set : Nat → Int32) (x2 : Int32) (x3 : Int32) (x4 : Int32) (N : Nat) (res : Int32 × Int32 × (Nat → Int32) × (Nat → Int32) × (Nat → Int32)) (hf : V_turn N f_p1_root f_p1_joins g_p1_part g_p1_set f_made_root f_made_joins g_split g_made_part g_made_set x2 x3 x4 = some res) : Cv l classes y_V_turn b_V_turn 9 none (rmk 12) G.1 (tyL G) Y [.ref h0, .ref a_p1, .int x2, .int x3, .int x4] [(a_p1, O_P f_p1_root f_p1_joins a_p1_set a_p1_part), (h0, O_V a_made a_split), (a_p1_part, aI G 7 g_p1_part), (a_p1_set, aI G 7 g_p1_set), (a_made, O_P f_made_root f_made_joins a_made_set a_made_part), (a_split, aI G 256 g_split), (a_made_part, aI G 7 g_made_part), (a_made_set, aI G 7 g_made_set)] [(a_p1, O_P f_p1_root f_p1_joins a_p1_set a_p1_part), (h0, O_V a_made a_split), (a_p1_part, aI G 7 g_p1_part), (a_p1_set, aI G 7 g_p1_set), (a_made, O_P res.1 res.2.1 a_made_set a_made_part), (a_split, aI G 256 res.2.2.1), (a_made_part, aI G 7 res.2.2.2.1), (a_made_set, aI G 7 res.2.2.2.2)] := by
  refine entV (by decide) (Nat.le_of_ble_eq_true rfl) ?_
  intro p e s m args below meth c ls A Q hx hb hml hown htl hK hsk wq hl hret
  obtain ⟨hP, hD, hS⟩ := wq
  have hl : lv_has ls 9 [(0, .ref h0), (1, .ref a_p1), (2, .int x2), (3, .int x3), (4, .int x4)] := hl
  have hS : va_S A s.heap s.heap [] := hS
  obtain ⟨H, hH⟩ : ∃ H : Heap, H = s.heap := ⟨_, rfl⟩
  obtain ⟨locs, hlocs⟩ : ∃ z : List Loc, z = [] := ⟨_, rfl⟩
  rw [← hH] at hP
  replace hS : va_S A s.heap H locs := by rw [hH, hlocs]; exact hS
  suffices hgo : W p l e (rmk 12) s m args below meth c H locs 0 0 Q (F0 m 0 ls []) by rw [hH, hlocs] at hgo; exact hgo
  have hJ59 : ∀ (f_made_root : Int32) (f_made_joins : Int32) (g_split : Nat → Int32) (g_made_part : Nat → Int32) (g_made_set : Nat → Int32) (z0 : Int32) (H : Heap) (locs : List Loc) (ls : Array Slot), PDS G.1 classes A s [(a_p1, O_P f_p1_root f_p1_joins a_p1_set a_p1_part), (h0, O_V a_made a_split), (a_p1_part, aI G 7 g_p1_part), (a_p1_set, aI G 7 g_p1_set), (a_made, O_P f_made_root f_made_joins a_made_set a_made_part), (a_split, aI G 256 g_split), (a_made_part, aI G 7 g_made_part), (a_made_set, aI G 7 g_made_set)] H locs → lv_has ls 9 [(0, .ref h0), (1, .ref a_p1), (2, .int x2), (3, .int x3)] → V_turn_59 N f_p1_root f_p1_joins g_p1_part g_p1_set f_made_root f_made_joins g_split g_made_part g_made_set x2 x3 z0 = some res → W p l e (rmk 12) s m args below meth c H locs 0 0 Q (F0 m 59 ls [.int z0]) := by
    intro f_made_root f_made_joins g_split g_made_part g_made_set z0 H locs ls wq hl hf
    obtain ⟨hP, hD, hS⟩ := wq
    refine lv_istore (lv' := [(6, .int z0), (0, .ref h0), (1, .ref a_p1), (2, .int x2), (3, .int x3)]) hx hb d_V_turn_59 hl (by decide) rfl (fun ls hl => ?_)
    refine lv_iload_n hx hb d_V_turn_61 rfl (lv_at hl 4 rfl) ?_
    refine lv_iload hx hb d_V_turn_62 (lv_at hl 0 rfl) ?_
    refine lv_ixor hx hb d_V_turn_64 ?_
    refine lv_topi (fun v9 ev9 => ?_)
    have hf := dn_e ev9 hf
    refine lv_istore (lv' := [(7, .int v9), (6, .int z0), (0, .ref h0), (1, .ref a_p1), (2, .int x2), (3, .int x3)]) hx hb d_V_turn_65 hl (by decide) rfl (fun ls hl => ?_)
    refine lv_iload_n hx hb d_V_turn_67 rfl (lv_at hl 4 rfl) ?_
    refine lv_iload_n hx hb d_V_turn_68 rfl (lv_at hl 5 rfl) ?_
    refine lv_ixor hx hb d_V_turn_69 ?_
    refine lv_topi (fun v10 ev10 => ?_)
    have hf := dn_e ev10 hf
    refine lv_istore (lv' := [(8, .int v10), (7, .int v9), (6, .int z0), (0, .ref h0), (1, .ref a_p1), (2, .int x2), (3, .int x3)]) hx hb d_V_turn_70 hl (by decide) rfl (fun ls hl => ?_)
    refine lv_aload_n hx hb d_V_turn_72 rfl (lv_at hl 3 rfl) ?_
    refine va_get (D := G.1) (ci := 2) (v := .ref a_split) (C := n_V) (T := T_V) (N := 2) hx hb htl iw_V hown hK hP 1 rfl rfl 1 (by decide) (htl _ k_448) (fun _ h9 => h9) rfl d_V_turn_73 ?_
    refine lv_iload hx hb d_V_turn_76 (lv_at hl 1 rfl) ?_
    refine lv_iload hx hb d_V_turn_78 (lv_at hl 0 rfl) ?_
    refine lv_ior hx hb d_V_turn_80 ?_
    refine lv_iload hx hb d_V_turn_81 (lv_at hl 1 rfl) ?_
    refine lv_iload hx hb d_V_turn_83 (lv_at hl 0 rfl) ?_
    refine call_i (isC := []) (run_SN (As := [.int v9, .int v10]) (rest := [.int (v9 ||| v10), .ref a_split]) hx hb hml hown htl (c_J_firstOf l G Y  v9 v10 _ rfl) ms_J_firstOf k_984 (hRk (by decide) (by decide)) hK hsk hS hP hD (isC := []) rfl (by decide) rfl hl.1 rfl (lv_room (Nat.le_of_ble_eq_true rfl)) d_V_turn_85) hP hD hS rfl rfl (fun H locs hP hD hS => ?_)
    have hP : va_P G.1 classes [(a_p1, O_P f_p1_root f_p1_joins a_p1_set a_p1_part), (h0, O_V a_made a_split), (a_p1_part, aI G 7 g_p1_part), (a_p1_set, aI G 7 g_p1_set), (a_made, O_P f_made_root f_made_joins a_made_set a_made_part), (a_split, aI G 256 g_split), (a_made_part, aI G 7 g_made_part), (a_made_set, aI G 7 g_made_set)] H := hP
    have hD : va_D A [(a_p1, O_P f_p1_root f_p1_joins a_p1_set a_p1_part), (h0, O_V a_made a_split), (a_p1_part, aI G 7 g_p1_part), (a_p1_set, aI G 7 g_p1_set), (a_made, O_P f_made_root f_made_joins a_made_set a_made_part), (a_split, aI G 256 g_split), (a_made_part, aI G 7 g_made_part), (a_made_set, aI G 7 g_made_set)] := hD
    obtain ⟨c11, hf⟩ := dk_e hf
    refine nx_iast hx hb hK hP hD hS 5 1 rfl rfl c11 d_V_turn_88 (fun v12 ev12 H locs hP hD hS => ?_)
    have hf := dn_e ev12 hf
    have hP : va_P G.1 classes [(a_p1, O_P f_p1_root f_p1_joins a_p1_set a_p1_part), (h0, O_V a_made a_split), (a_p1_part, aI G 7 g_p1_part), (a_p1_set, aI G 7 g_p1_set), (a_made, O_P f_made_root f_made_joins a_made_set a_made_part), (a_split, aI G 256 v12), (a_made_part, aI G 7 g_made_part), (a_made_set, aI G 7 g_made_set)] H := hP
    have hD : va_D A [(a_p1, O_P f_p1_root f_p1_joins a_p1_set a_p1_part), (h0, O_V a_made a_split), (a_p1_part, aI G 7 g_p1_part), (a_p1_set, aI G 7 g_p1_set), (a_made, O_P f_made_root f_made_joins a_made_set a_made_part), (a_split, aI G 256 v12), (a_made_part, aI G 7 g_made_part), (a_made_set, aI G 7 g_made_set)] := hD
    refine lv_aload_n hx hb d_V_turn_89 rfl (lv_at hl 3 rfl) ?_
    refine va_get (D := G.1) (ci := 2) (v := .ref a_split) (C := n_V) (T := T_V) (N := 2) hx hb htl iw_V hown hK hP 1 rfl rfl 1 (by decide) (htl _ k_448) (fun _ h9 => h9) rfl d_V_turn_90 ?_
    refine lv_iload_n hx hb d_V_turn_93 rfl (lv_at hl 5 rfl) ?_
    refine lv_iload hx hb d_V_turn_94 (lv_at hl 2 rfl) ?_
    refine lv_iload hx hb d_V_turn_96 (lv_at hl 1 rfl) ?_
    refine lv_iload hx hb d_V_turn_98 (lv_at hl 0 rfl) ?_
    refine lv_ior hx hb d_V_turn_100 ?_
    refine call_i (isC := []) (run_SN (As := [.int z0, .int (v9 ||| v10)]) (rest := [.int x2, .ref a_split]) hx hb hml hown htl (c_J_firstOf l G Y  z0 (v9 ||| v10) _ rfl) ms_J_firstOf k_984 (hRk (by decide) (by decide)) hK hsk hS hP hD (isC := []) rfl (by decide) rfl hl.1 rfl (lv_room (Nat.le_of_ble_eq_true rfl)) d_V_turn_101) hP hD hS rfl rfl (fun H locs hP hD hS => ?_)
    have hP : va_P G.1 classes [(a_p1, O_P f_p1_root f_p1_joins a_p1_set a_p1_part), (h0, O_V a_made a_split), (a_p1_part, aI G 7 g_p1_part), (a_p1_set, aI G 7 g_p1_set), (a_made, O_P f_made_root f_made_joins a_made_set a_made_part), (a_split, aI G 256 v12), (a_made_part, aI G 7 g_made_part), (a_made_set, aI G 7 g_made_set)] H := hP
    have hD : va_D A [(a_p1, O_P f_p1_root f_p1_joins a_p1_set a_p1_part), (h0, O_V a_made a_split), (a_p1_part, aI G 7 g_p1_part), (a_p1_set, aI G 7 g_p1_set), (a_made, O_P f_made_root f_made_joins a_made_set a_made_part), (a_split, aI G 256 v12), (a_made_part, aI G 7 g_made_part), (a_made_set, aI G 7 g_made_set)] := hD
    obtain ⟨c13, hf⟩ := dk_e hf
    refine nx_iast hx hb hK hP hD hS 5 1 rfl rfl c13 d_V_turn_104 (fun v14 ev14 H locs hP hD hS => ?_)
    have hf := dn_e ev14 hf
    have hP : va_P G.1 classes [(a_p1, O_P f_p1_root f_p1_joins a_p1_set a_p1_part), (h0, O_V a_made a_split), (a_p1_part, aI G 7 g_p1_part), (a_p1_set, aI G 7 g_p1_set), (a_made, O_P f_made_root f_made_joins a_made_set a_made_part), (a_split, aI G 256 v14), (a_made_part, aI G 7 g_made_part), (a_made_set, aI G 7 g_made_set)] H := hP
    have hD : va_D A [(a_p1, O_P f_p1_root f_p1_joins a_p1_set a_p1_part), (h0, O_V a_made a_split), (a_p1_part, aI G 7 g_p1_part), (a_p1_set, aI G 7 g_p1_set), (a_made, O_P f_made_root f_made_joins a_made_set a_made_part), (a_split, aI G 256 v14), (a_made_part, aI G 7 g_made_part), (a_made_set, aI G 7 g_made_set)] := hD
    refine lv_aload_n hx hb d_V_turn_105 rfl (lv_at hl 3 rfl) ?_
    refine va_get (D := G.1) (ci := 2) (v := .ref a_made) (C := n_V) (T := T_V) (N := 2) hx hb htl iw_V hown hK hP 1 rfl rfl 0 (by decide) (htl _ k_446) (fun _ h9 => h9) rfl d_V_turn_106 ?_
    refine lv_aload_n hx hb d_V_turn_109 rfl (lv_at hl 4 rfl) ?_
    refine va_get (D := G.1) (ci := 4) (v := .int f_p1_root) (C := n_P) (T := T_P) (N := 4) hx hb htl iw_P hown hK hP 0 rfl rfl 0 (by decide) (htl _ k_185) (fun _ h9 => h9) rfl d_V_turn_110 ?_
    refine lv_aload_n hx hb d_V_turn_113 rfl (lv_at hl 3 rfl) ?_
    refine va_get (D := G.1) (ci := 2) (v := .ref a_split) (C := n_V) (T := T_V) (N := 2) hx hb htl iw_V hown hK hP 1 rfl rfl 1 (by decide) (htl _ k_448) (fun _ h9 => h9) rfl d_V_turn_114 ?_
    obtain ⟨t15, hv16, hf⟩ := db_e hf
    refine call_v (isC := [5, 4, 6, 7]) (run_V (As := [.int f_p1_root, .ref a_split]) (rest := []) (ci := 4) (q0 := 4) hx hb hml hown htl (c_P_take l G Y  a_made a_split a_made_set a_made_part v14 f_made_root f_made_joins g_made_part g_made_set f_p1_root t15 hv16) mv_P_take k_985 (hRk (by decide) (by decide)) hK hsk hS hP hD (isC := [5, 4, 6, 7]) rfl (by decide) rfl rfl rfl hl.1 rfl (lv_room (Nat.le_of_ble_eq_true rfl)) d_V_turn_117) hP hD hS rfl rfl (fun H locs hP hD hS => ?_)
    have hP : va_P G.1 classes [(a_p1, O_P f_p1_root f_p1_joins a_p1_set a_p1_part), (h0, O_V a_made a_split), (a_p1_part, aI G 7 g_p1_part), (a_p1_set, aI G 7 g_p1_set), (a_made, O_P t15.1 t15.2.1 a_made_set a_made_part), (a_split, aI G 256 v14), (a_made_part, aI G 7 t15.2.2.1), (a_made_set, aI G 7 t15.2.2.2)] H := hP
    have hD : va_D A [(a_p1, O_P f_p1_root f_p1_joins a_p1_set a_p1_part), (h0, O_V a_made a_split), (a_p1_part, aI G 7 g_p1_part), (a_p1_set, aI G 7 g_p1_set), (a_made, O_P t15.1 t15.2.1 a_made_set a_made_part), (a_split, aI G 256 v14), (a_made_part, aI G 7 t15.2.2.1), (a_made_set, aI G 7 t15.2.2.2)] := hD
    cases hf
    exact hret 120 ls H locs hP hS d_V_turn_120
  have hJ37 : ∀ (f_made_root : Int32) (f_made_joins : Int32) (g_split : Nat → Int32) (g_made_part : Nat → Int32) (g_made_set : Nat → Int32) (H : Heap) (locs : List Loc) (ls : Array Slot), PDS G.1 classes A s [(a_p1, O_P f_p1_root f_p1_joins a_p1_set a_p1_part), (h0, O_V a_made a_split), (a_p1_part, aI G 7 g_p1_part), (a_p1_set, aI G 7 g_p1_set), (a_made, O_P f_made_root f_made_joins a_made_set a_made_part), (a_split, aI G 256 g_split), (a_made_part, aI G 7 g_made_part), (a_made_set, aI G 7 g_made_set)] H locs → lv_has ls 9 [(0, .ref h0), (1, .ref a_p1), (2, .int x2), (3, .int x3), (4, .int x4)] → V_turn_37 N f_p1_root f_p1_joins g_p1_part g_p1_set f_made_root f_made_joins g_split g_made_part g_made_set x2 x3 x4 = some res → W p l e (rmk 12) s m args below meth c H locs 0 0 Q (F0 m 37 ls []) := by
    intro f_made_root f_made_joins g_split g_made_part g_made_set H locs ls wq hl hf
    obtain ⟨hP, hD, hS⟩ := wq
    refine lv_aload_n hx hb d_V_turn_37 rfl (lv_at hl 0 rfl) ?_
    refine va_get (D := G.1) (ci := 2) (v := .ref a_split) (C := n_V) (T := T_V) (N := 2) hx hb htl iw_V hown hK hP 1 rfl rfl 1 (by decide) (htl _ k_448) (fun _ h9 => h9) rfl d_V_turn_38 ?_
    refine lv_iload_n hx hb d_V_turn_41 rfl (lv_at hl 3 rfl) ?_
    obtain ⟨c6, hf⟩ := dk_e hf
    refine va_iald hx hb hK hP 5 1 rfl rfl c6 d_V_turn_42 ?_
    refine lv_topi (fun v7 ev7 => ?_)
    have hf := dn_e ev7 hf
    refine lv_istore (lv' := [(5, .int v7), (0, .ref h0), (1, .ref a_p1), (2, .int x2), (3, .int x3), (4, .int x4)]) hx hb d_V_turn_43 hl (by decide) rfl (fun ls hl => ?_)
    refine lv_iload hx hb d_V_turn_45 (lv_at hl 5 rfl) ?_
    refine lv_if_ne (tgt := 55) hx hb d_V_turn_47 (by decide) (fun c8 => ?_) (fun c8 => ?_)
    · have hf := di_f c8 hf
      refine lv_iload_n hx hb d_V_turn_55 rfl (lv_at hl 4 rfl) ?_
      refine lv_iload hx hb d_V_turn_56 (lv_at hl 0 rfl) ?_
      refine lv_ixor hx hb d_V_turn_58 ?_
      exact hJ59 f_made_root f_made_joins g_split g_made_part g_made_set (x3 ^^^ v7) H locs ls ⟨hP, hD, hS⟩ (lv_sub hl [1, 2, 3, 4] rfl) hf
    · have hf := di_t c8 hf
      refine lv_iload hx hb d_V_turn_50 (lv_at hl 0 rfl) ?_
      refine lv_goto (tgt := 59) hx hb d_V_turn_52 (by decide) ?_
      exact hJ59 f_made_root f_made_joins g_split g_made_part g_made_set v7 H locs ls ⟨hP, hD, hS⟩ (lv_sub hl [1, 2, 3, 4] rfl) hf
  have hJ3 : ∀ (f_made_root : Int32) (f_made_joins : Int32) (g_split : Nat → Int32) (g_made_part : Nat → Int32) (g_made_set : Nat → Int32) (x5 : Int32) (H : Heap) (locs : List Loc) (ls : Array Slot), PDS G.1 classes A s [(a_p1, O_P f_p1_root f_p1_joins a_p1_set a_p1_part), (h0, O_V a_made a_split), (a_p1_part, aI G 7 g_p1_part), (a_p1_set, aI G 7 g_p1_set), (a_made, O_P f_made_root f_made_joins a_made_set a_made_part), (a_split, aI G 256 g_split), (a_made_part, aI G 7 g_made_part), (a_made_set, aI G 7 g_made_set)] H locs → lv_has ls 9 [(0, .ref h0), (1, .ref a_p1), (2, .int x2), (3, .int x3), (4, .int x4), (5, .int x5)] → V_turn_3 N f_p1_root f_p1_joins g_p1_part g_p1_set f_made_root f_made_joins g_split g_made_part g_made_set x2 x3 x4 x5 = some res → W p l e (rmk 12) s m args below meth c H locs 0 0 Q (F0 m 3 ls []) := by
    intro f_made_root f_made_joins g_split g_made_part g_made_set x5 H locs ls wq hl hf
    obtain ⟨hP, hD, hS⟩ := wq
    obtain ⟨y3, hy3, hfo3⟩ := db_e hf
    have hL3 : ∀ (n : Nat) (g_split : Nat → Int32) (x5 : Int32) (H : Heap) (locs : List Loc) (ls : Array Slot), lp (fun x => V_turn_b3 N f_p1_root f_p1_joins g_p1_part g_p1_set f_made_root f_made_joins x.1 g_made_part g_made_set x2 x3 x4 x.2) n (g_split, x5) = some y3 → PDS G.1 classes A s [(a_p1, O_P f_p1_root f_p1_joins a_p1_set a_p1_part), (h0, O_V a_made a_split), (a_p1_part, aI G 7 g_p1_part), (a_p1_set, aI G 7 g_p1_set), (a_made, O_P f_made_root f_made_joins a_made_set a_made_part), (a_split, aI G 256 g_split), (a_made_part, aI G 7 g_made_part), (a_made_set, aI G 7 g_made_set)] H locs → lv_has ls 9 [(0, .ref h0), (1, .ref a_p1), (2, .int x2), (3, .int x3), (4, .int x4), (5, .int x5)] → W p l e (rmk 12) s m args below meth c H locs 0 0 Q (F0 m 3 ls []) := by
      intro n
      induction n with
      | zero =>
        intro g_split x5 H locs ls hf
        exact lp_0 hf
      | succ n ih3 =>
        intro g_split x5 H locs ls hf wq hl
        obtain ⟨hP, hD, hS⟩ := wq
        obtain ⟨r3, hf, hk3⟩ := lp_s hf
        have hf : V_turn_b3 N f_p1_root f_p1_joins g_p1_part g_p1_set f_made_root f_made_joins g_split g_made_part g_made_set x2 x3 x4 x5 = some r3 := hf
        refine lv_iload hx hb d_V_turn_3 (lv_at hl 5 rfl) ?_
        refine lv_aload_n hx hb d_V_turn_5 rfl (lv_at hl 1 rfl) ?_
        refine va_get (D := G.1) (ci := 4) (v := .int f_p1_joins) (C := n_P) (T := T_P) (N := 4) hx hb htl iw_P hown hK hP 0 rfl rfl 1 (by decide) (htl _ k_187) (fun _ h9 => h9) rfl d_V_turn_6 ?_
        refine lv_icmp_ge (tgt := 37) hx hb d_V_turn_9 (by decide) (fun c1 => ?_) (fun c1 => ?_)
        · have hf := di_t c1 hf
          have hq3 := lpk_x hf hk3
          have hf := ex_y (f := fun y => V_turn_a3 N f_p1_root f_p1_joins g_p1_part g_p1_set f_made_root f_made_joins g_made_part g_made_set x2 x3 x4 y) hq3 hfo3
          have hf : V_turn_37 N f_p1_root f_p1_joins g_p1_part g_p1_set f_made_root f_made_joins g_split g_made_part g_made_set x2 x3 x4 = some res := hf
          exact hJ37 f_made_root f_made_joins g_split g_made_part g_made_set H locs ls ⟨hP, hD, hS⟩ (lv_sub hl [0, 1, 2, 3, 4] rfl) hf
        · have hf := di_f c1 hf
          refine lv_aload_n hx hb d_V_turn_12 rfl (lv_at hl 0 rfl) ?_
          refine va_get (D := G.1) (ci := 2) (v := .ref a_split) (C := n_V) (T := T_V) (N := 2) hx hb htl iw_V hown hK hP 1 rfl rfl 1 (by decide) (htl _ k_448) (fun _ h9 => h9) rfl d_V_turn_13 ?_
          refine lv_aload_n hx hb d_V_turn_16 rfl (lv_at hl 1 rfl) ?_
          refine va_get (D := G.1) (ci := 4) (v := .ref a_p1_set) (C := n_P) (T := T_P) (N := 4) hx hb htl iw_P hown hK hP 0 rfl rfl 2 (by decide) (htl _ k_192) (fun _ h9 => h9) rfl d_V_turn_17 ?_
          refine lv_iload hx hb d_V_turn_20 (lv_at hl 5 rfl) ?_
          obtain ⟨c2, hf⟩ := dk_e hf
          refine va_iald hx hb hK hP 3 1 rfl rfl c2 d_V_turn_22 ?_
          refine lv_aload_n hx hb d_V_turn_23 rfl (lv_at hl 1 rfl) ?_
          refine va_get (D := G.1) (ci := 4) (v := .ref a_p1_part) (C := n_P) (T := T_P) (N := 4) hx hb htl iw_P hown hK hP 0 rfl rfl 3 (by decide) (htl _ k_196) (fun _ h9 => h9) rfl d_V_turn_24 ?_
          refine lv_iload hx hb d_V_turn_27 (lv_at hl 5 rfl) ?_
          refine va_iald hx hb hK hP 2 1 rfl rfl c2 d_V_turn_29 ?_
          obtain ⟨c3, hf⟩ := dk_e hf
          refine nx_iast hx hb hK hP hD hS 5 1 rfl rfl c3 d_V_turn_30 (fun v4 ev4 H locs hP hD hS => ?_)
          have hf := dn_e ev4 hf
          have hP : va_P G.1 classes [(a_p1, O_P f_p1_root f_p1_joins a_p1_set a_p1_part), (h0, O_V a_made a_split), (a_p1_part, aI G 7 g_p1_part), (a_p1_set, aI G 7 g_p1_set), (a_made, O_P f_made_root f_made_joins a_made_set a_made_part), (a_split, aI G 256 v4), (a_made_part, aI G 7 g_made_part), (a_made_set, aI G 7 g_made_set)] H := hP
          have hD : va_D A [(a_p1, O_P f_p1_root f_p1_joins a_p1_set a_p1_part), (h0, O_V a_made a_split), (a_p1_part, aI G 7 g_p1_part), (a_p1_set, aI G 7 g_p1_set), (a_made, O_P f_made_root f_made_joins a_made_set a_made_part), (a_split, aI G 256 v4), (a_made_part, aI G 7 g_made_part), (a_made_set, aI G 7 g_made_set)] := hD
          obtain ⟨v5, ev5⟩ : ∃ z : Int32, z = x5 + (1 : Int32) := ⟨_, rfl⟩
          have hf := dn_e ev5 hf
          refine lv_iinc (v := v5) (lv' := [(5, .int v5), (0, .ref h0), (1, .ref a_p1), (2, .int x2), (3, .int x3), (4, .int x4)]) hx hb d_V_turn_31 hl (k := 5) rfl (by rw [ev5]; rfl) (by decide) rfl (fun ls hl => ?_)
          refine lv_goto (tgt := 3) hx hb d_V_turn_34 (by decide) ?_
          exact ih3 v4 v5 H locs ls (lpk_i hf hk3) ⟨hP, hD, hS⟩ (lv_sub hl [1, 2, 3, 4, 5, 0] rfl)
    exact hL3 N g_split x5 H locs ls hy3 ⟨hP, hD, hS⟩ hl
  refine lv_iconst (v := (0 : Int32)) hx hb d_V_turn_0 (by decide) ?_
  refine lv_istore (lv' := [(5, .int (0 : Int32)), (0, .ref h0), (1, .ref a_p1), (2, .int x2), (3, .int x3), (4, .int x4)]) hx hb d_V_turn_1 hl (by decide) rfl (fun ls hl => ?_)
  exact hJ3 f_made_root f_made_joins g_split g_made_part g_made_set (0 : Int32) H locs ls ⟨hP, hD, hS⟩ (lv_sub hl [1, 2, 3, 4, 5, 0] rfl) hf
set_option maxHeartbeats 4000000 in
set_option maxRecDepth 100000 in
theorem c_V_make (l : Launch) (G : va_G × (Nat → ClassId)) (Y : (Nat → Nat) × (Nat → Nat)) (h0 : Nat) (a_p1 : Nat) (a_p1_set : Nat) (a_p1_part : Nat) (a_made : Nat) (a_split : Nat) (a_made_set : Nat) (a_made_part : Nat) (f_p1_root : Int32) (f_p1_joins : Int32) (g_p1_part : Nat → Int32) (g_p1_set : Nat → Int32) (f_made_root : Int32) (f_made_joins : Int32) (g_split : Nat → Int32) (g_made_part : Nat → Int32) (g_made_set : Nat → Int32) (x2 : Int32) (N : Nat) (res : Int32 × Int32 × (Nat → Int32) × (Nat → Int32) × (Nat → Int32)) (hf : V_make N f_p1_root f_p1_joins g_p1_part g_p1_set f_made_root f_made_joins g_split g_made_part g_made_set x2 = some res) : Cv l classes y_V_make b_V_make 7 none (rmk 13) G.1 (tyL G) Y [.ref h0, .ref a_p1, .int x2] [(a_p1, O_P f_p1_root f_p1_joins a_p1_set a_p1_part), (h0, O_V a_made a_split), (a_p1_part, aI G 7 g_p1_part), (a_p1_set, aI G 7 g_p1_set), (a_made, O_P f_made_root f_made_joins a_made_set a_made_part), (a_split, aI G 256 g_split), (a_made_part, aI G 7 g_made_part), (a_made_set, aI G 7 g_made_set)] [(a_p1, O_P f_p1_root f_p1_joins a_p1_set a_p1_part), (h0, O_V a_made a_split), (a_p1_part, aI G 7 g_p1_part), (a_p1_set, aI G 7 g_p1_set), (a_made, O_P res.1 res.2.1 a_made_set a_made_part), (a_split, aI G 256 res.2.2.1), (a_made_part, aI G 7 res.2.2.2.1), (a_made_set, aI G 7 res.2.2.2.2)] := by
  refine entV (by decide) (Nat.le_of_ble_eq_true rfl) ?_
  intro p e s m args below meth c ls A Q hx hb hml hown htl hK hsk wq hl hret
  obtain ⟨hP, hD, hS⟩ := wq
  have hl : lv_has ls 7 [(0, .ref h0), (1, .ref a_p1), (2, .int x2)] := hl
  have hS : va_S A s.heap s.heap [] := hS
  obtain ⟨H, hH⟩ : ∃ H : Heap, H = s.heap := ⟨_, rfl⟩
  obtain ⟨locs, hlocs⟩ : ∃ z : List Loc, z = [] := ⟨_, rfl⟩
  rw [← hH] at hP
  replace hS : va_S A s.heap H locs := by rw [hH, hlocs]; exact hS
  suffices hgo : W p l e (rmk 13) s m args below meth c H locs 0 0 Q (F0 m 0 ls []) by rw [hH, hlocs] at hgo; exact hgo
  have hJ106 : ∀ (f_made_root : Int32) (f_made_joins : Int32) (g_split : Nat → Int32) (g_made_part : Nat → Int32) (g_made_set : Nat → Int32) (H : Heap) (locs : List Loc) (ls : Array Slot), PDS G.1 classes A s [(a_p1, O_P f_p1_root f_p1_joins a_p1_set a_p1_part), (h0, O_V a_made a_split), (a_p1_part, aI G 7 g_p1_part), (a_p1_set, aI G 7 g_p1_set), (a_made, O_P f_made_root f_made_joins a_made_set a_made_part), (a_split, aI G 256 g_split), (a_made_part, aI G 7 g_made_part), (a_made_set, aI G 7 g_made_set)] H locs → lv_has ls 7 [] → V_make_106 N f_p1_root f_p1_joins g_p1_part g_p1_set f_made_root f_made_joins g_split g_made_part g_made_set = some res → W p l e (rmk 13) s m args below meth c H locs 0 0 Q (F0 m 106 ls []) := by
    intro f_made_root f_made_joins g_split g_made_part g_made_set H locs ls wq hl hf
    obtain ⟨hP, hD, hS⟩ := wq
    cases hf
    exact hret 106 ls H locs hP hS d_V_make_106
  have hJ72 : ∀ (f_made_root : Int32) (f_made_joins : Int32) (g_split : Nat → Int32) (g_made_part : Nat → Int32) (g_made_set : Nat → Int32) (x4 : Int32) (x6 : Int32) (H : Heap) (locs : List Loc) (ls : Array Slot), PDS G.1 classes A s [(a_p1, O_P f_p1_root f_p1_joins a_p1_set a_p1_part), (h0, O_V a_made a_split), (a_p1_part, aI G 7 g_p1_part), (a_p1_set, aI G 7 g_p1_set), (a_made, O_P f_made_root f_made_joins a_made_set a_made_part), (a_split, aI G 256 g_split), (a_made_part, aI G 7 g_made_part), (a_made_set, aI G 7 g_made_set)] H locs → lv_has ls 7 [(0, .ref h0), (1, .ref a_p1), (2, .int x2), (4, .int x4), (6, .int x6)] → V_make_72 N f_p1_root f_p1_joins g_p1_part g_p1_set f_made_root f_made_joins g_split g_made_part g_made_set x2 x4 x6 = some res → W p l e (rmk 13) s m args below meth c H locs 0 0 Q (F0 m 72 ls []) := by
    intro f_made_root f_made_joins g_split g_made_part g_made_set x4 x6 H locs ls wq hl hf
    obtain ⟨hP, hD, hS⟩ := wq
    refine lv_aload_n hx hb d_V_make_72 rfl (lv_at hl 0 rfl) ?_
    refine lv_aload_n hx hb d_V_make_73 rfl (lv_at hl 1 rfl) ?_
    refine lv_aload_n hx hb d_V_make_74 rfl (lv_at hl 1 rfl) ?_
    refine va_get (D := G.1) (ci := 4) (v := .ref a_p1_set) (C := n_P) (T := T_P) (N := 4) hx hb htl iw_P hown hK hP 0 rfl rfl 2 (by decide) (htl _ k_192) (fun _ h9 => h9) rfl d_V_make_75 ?_
    refine lv_iload hx hb d_V_make_78 (lv_at hl 3 rfl) ?_
    obtain ⟨c13, hf⟩ := dk_e hf
    refine va_iald hx hb hK hP 3 1 rfl rfl c13 d_V_make_80 ?_
    refine lv_iload hx hb d_V_make_81 (lv_at hl 4 rfl) ?_
    refine lv_iload_n hx hb d_V_make_83 rfl (lv_at hl 2 rfl) ?_
    refine call_i (isC := []) (run_S (As := [.int x2]) (rest := [.int x6, .int (g_p1_set x4.toNatClampNeg), .ref a_p1, .ref h0]) hx hb hml hown htl (c_V_kindOf l G Y  x2 _ rfl) ms_V_kindOf k_977 (hRk (by decide) (by decide)) hK hsk hS hP hD (isC := []) rfl (by decide) rfl hl.1 rfl (lv_room (Nat.le_of_ble_eq_true rfl)) d_V_make_84) hP hD hS rfl rfl (fun H locs hP hD hS => ?_)
    have hP : va_P G.1 classes [(a_p1, O_P f_p1_root f_p1_joins a_p1_set a_p1_part), (h0, O_V a_made a_split), (a_p1_part, aI G 7 g_p1_part), (a_p1_set, aI G 7 g_p1_set), (a_made, O_P f_made_root f_made_joins a_made_set a_made_part), (a_split, aI G 256 g_split), (a_made_part, aI G 7 g_made_part), (a_made_set, aI G 7 g_made_set)] H := hP
    have hD : va_D A [(a_p1, O_P f_p1_root f_p1_joins a_p1_set a_p1_part), (h0, O_V a_made a_split), (a_p1_part, aI G 7 g_p1_part), (a_p1_set, aI G 7 g_p1_set), (a_made, O_P f_made_root f_made_joins a_made_set a_made_part), (a_split, aI G 256 g_split), (a_made_part, aI G 7 g_made_part), (a_made_set, aI G 7 g_made_set)] := hD
    obtain ⟨t14, hv15, hf⟩ := db_e hf
    refine call_v (isC := [0, 1, 2, 3, 4, 5, 6, 7]) (run_V (As := [.ref a_p1, .int (g_p1_set x4.toNatClampNeg), .int x6, .int (V_kindOf x2)]) (rest := []) (ci := 2) (q0 := 1) hx hb hml hown htl (c_V_turn l G Y  h0 a_p1 a_p1_set a_p1_part a_made a_split a_made_set a_made_part f_p1_root f_p1_joins g_p1_part g_p1_set f_made_root f_made_joins g_split g_made_part g_made_set (g_p1_set x4.toNatClampNeg) x6 (V_kindOf x2) N t14 hv15) mv_V_turn k_980 (hRk (by decide) (by decide)) hK hsk hS hP hD (isC := [0, 1, 2, 3, 4, 5, 6, 7]) rfl (by decide) rfl rfl rfl hl.1 rfl (lv_room (Nat.le_of_ble_eq_true rfl)) d_V_make_87) hP hD hS rfl rfl (fun H locs hP hD hS => ?_)
    have hP : va_P G.1 classes [(a_p1, O_P f_p1_root f_p1_joins a_p1_set a_p1_part), (h0, O_V a_made a_split), (a_p1_part, aI G 7 g_p1_part), (a_p1_set, aI G 7 g_p1_set), (a_made, O_P t14.1 t14.2.1 a_made_set a_made_part), (a_split, aI G 256 t14.2.2.1), (a_made_part, aI G 7 t14.2.2.2.1), (a_made_set, aI G 7 t14.2.2.2.2)] H := hP
    have hD : va_D A [(a_p1, O_P f_p1_root f_p1_joins a_p1_set a_p1_part), (h0, O_V a_made a_split), (a_p1_part, aI G 7 g_p1_part), (a_p1_set, aI G 7 g_p1_set), (a_made, O_P t14.1 t14.2.1 a_made_set a_made_part), (a_split, aI G 256 t14.2.2.1), (a_made_part, aI G 7 t14.2.2.2.1), (a_made_set, aI G 7 t14.2.2.2.2)] := hD
    cases hf
    exact hret 90 ls H locs hP hS d_V_make_90
  have hJ7 : ∀ (f_made_root : Int32) (f_made_joins : Int32) (g_split : Nat → Int32) (g_made_part : Nat → Int32) (g_made_set : Nat → Int32) (x3 : Int32) (x4 : Int32) (H : Heap) (locs : List Loc) (ls : Array Slot), PDS G.1 classes A s [(a_p1, O_P f_p1_root f_p1_joins a_p1_set a_p1_part), (h0, O_V a_made a_split), (a_p1_part, aI G 7 g_p1_part), (a_p1_set, aI G 7 g_p1_set), (a_made, O_P f_made_root f_made_joins a_made_set a_made_part), (a_split, aI G 256 g_split), (a_made_part, aI G 7 g_made_part), (a_made_set, aI G 7 g_made_set)] H locs → lv_has ls 7 [(0, .ref h0), (1, .ref a_p1), (2, .int x2), (3, .int x3), (4, .int x4)] → V_make_7 N f_p1_root f_p1_joins g_p1_part g_p1_set f_made_root f_made_joins g_split g_made_part g_made_set x2 x3 x4 = some res → W p l e (rmk 13) s m args below meth c H locs 0 0 Q (F0 m 7 ls []) := by
    intro f_made_root f_made_joins g_split g_made_part g_made_set x3 x4 H locs ls wq hl hf
    obtain ⟨hP, hD, hS⟩ := wq
    obtain ⟨y7, hy7, hfo7⟩ := db_e hf
    have hL7 : ∀ (n : Nat) (x3 : Int32) (x4 : Int32) (H : Heap) (locs : List Loc) (ls : Array Slot), lp (fun x => V_make_b7 N f_p1_root f_p1_joins g_p1_part g_p1_set f_made_root f_made_joins g_split g_made_part g_made_set x2 x.1 x.2) n (x3, x4) = some y7 → PDS G.1 classes A s [(a_p1, O_P f_p1_root f_p1_joins a_p1_set a_p1_part), (h0, O_V a_made a_split), (a_p1_part, aI G 7 g_p1_part), (a_p1_set, aI G 7 g_p1_set), (a_made, O_P f_made_root f_made_joins a_made_set a_made_part), (a_split, aI G 256 g_split), (a_made_part, aI G 7 g_made_part), (a_made_set, aI G 7 g_made_set)] H locs → lv_has ls 7 [(0, .ref h0), (1, .ref a_p1), (2, .int x2), (3, .int x3), (4, .int x4)] → W p l e (rmk 13) s m args below meth c H locs 0 0 Q (F0 m 7 ls []) := by
      intro n
      induction n with
      | zero =>
        intro x3 x4 H locs ls hf
        exact lp_0 hf
      | succ n ih7 =>
        intro x3 x4 H locs ls hf wq hl
        obtain ⟨hP, hD, hS⟩ := wq
        obtain ⟨r7, hf, hk7⟩ := lp_s hf
        have hf : V_make_b7 N f_p1_root f_p1_joins g_p1_part g_p1_set f_made_root f_made_joins g_split g_made_part g_made_set x2 x3 x4 = some r7 := hf
        have hJ100 : ∀ (x3 : Int32) (x4 : Int32) (H : Heap) (locs : List Loc) (ls : Array Slot), PDS G.1 classes A s [(a_p1, O_P f_p1_root f_p1_joins a_p1_set a_p1_part), (h0, O_V a_made a_split), (a_p1_part, aI G 7 g_p1_part), (a_p1_set, aI G 7 g_p1_set), (a_made, O_P f_made_root f_made_joins a_made_set a_made_part), (a_split, aI G 256 g_split), (a_made_part, aI G 7 g_made_part), (a_made_set, aI G 7 g_made_set)] H locs → lv_has ls 7 [(0, .ref h0), (1, .ref a_p1), (2, .int x2), (3, .int x3), (4, .int x4)] → V_make_100 N f_p1_root f_p1_joins g_p1_part g_p1_set f_made_root f_made_joins g_split g_made_part g_made_set x2 x3 x4 = some r7 → W p l e (rmk 13) s m args below meth c H locs 0 0 Q (F0 m 100 ls []) := by
          intro x3 x4 H locs ls wq hl hf
          obtain ⟨hP, hD, hS⟩ := wq
          obtain ⟨v12, ev12⟩ : ∃ z : Int32, z = x4 + (1 : Int32) := ⟨_, rfl⟩
          have hf := dn_e ev12 hf
          refine lv_iinc (v := v12) (lv' := [(4, .int v12), (0, .ref h0), (1, .ref a_p1), (2, .int x2), (3, .int x3)]) hx hb d_V_make_100 hl (k := 4) rfl (by rw [ev12]; rfl) (by decide) rfl (fun ls hl => ?_)
          refine lv_goto (tgt := 7) hx hb d_V_make_103 (by decide) ?_
          exact ih7 x3 v12 H locs ls (lpk_i hf hk7) ⟨hP, hD, hS⟩ (lv_sub hl [1, 2, 3, 4, 0] rfl)
        have hJ19 : ∀ (x3 : Int32) (x4 : Int32) (x5 : Int32) (H : Heap) (locs : List Loc) (ls : Array Slot), PDS G.1 classes A s [(a_p1, O_P f_p1_root f_p1_joins a_p1_set a_p1_part), (h0, O_V a_made a_split), (a_p1_part, aI G 7 g_p1_part), (a_p1_set, aI G 7 g_p1_set), (a_made, O_P f_made_root f_made_joins a_made_set a_made_part), (a_split, aI G 256 g_split), (a_made_part, aI G 7 g_made_part), (a_made_set, aI G 7 g_made_set)] H locs → lv_has ls 7 [(0, .ref h0), (1, .ref a_p1), (2, .int x2), (3, .int x3), (4, .int x4), (5, .int x5)] → V_make_19 N f_p1_root f_p1_joins g_p1_part g_p1_set f_made_root f_made_joins g_split g_made_part g_made_set x2 x3 x4 x5 = some r7 → W p l e (rmk 13) s m args below meth c H locs 0 0 Q (F0 m 19 ls []) := by
          intro x3 x4 x5 H locs ls wq hl hf
          obtain ⟨hP, hD, hS⟩ := wq
          obtain ⟨y19, hy19, hfo19⟩ := db_e hf
          have hL19 : ∀ (n : Nat) (x3 : Int32) (x5 : Int32) (H : Heap) (locs : List Loc) (ls : Array Slot), lp (fun x => V_make_b19 N f_p1_root f_p1_joins g_p1_part g_p1_set f_made_root f_made_joins g_split g_made_part g_made_set x2 x.1 x4 x.2) n (x3, x5) = some y19 → PDS G.1 classes A s [(a_p1, O_P f_p1_root f_p1_joins a_p1_set a_p1_part), (h0, O_V a_made a_split), (a_p1_part, aI G 7 g_p1_part), (a_p1_set, aI G 7 g_p1_set), (a_made, O_P f_made_root f_made_joins a_made_set a_made_part), (a_split, aI G 256 g_split), (a_made_part, aI G 7 g_made_part), (a_made_set, aI G 7 g_made_set)] H locs → lv_has ls 7 [(0, .ref h0), (1, .ref a_p1), (2, .int x2), (3, .int x3), (4, .int x4), (5, .int x5)] → W p l e (rmk 13) s m args below meth c H locs 0 0 Q (F0 m 19 ls []) := by
            intro n
            induction n with
            | zero =>
              intro x3 x5 H locs ls hf
              exact lp_0 hf
            | succ n ih19 =>
              intro x3 x5 H locs ls hf wq hl
              obtain ⟨hP, hD, hS⟩ := wq
              obtain ⟨r19, hf, hk19⟩ := lp_s hf
              have hf : V_make_b19 N f_p1_root f_p1_joins g_p1_part g_p1_set f_made_root f_made_joins g_split g_made_part g_made_set x2 x3 x4 x5 = some r19 := hf
              have hJ55 : ∀ (x3 : Int32) (x5 : Int32) (z0 : Int32) (H : Heap) (locs : List Loc) (ls : Array Slot), PDS G.1 classes A s [(a_p1, O_P f_p1_root f_p1_joins a_p1_set a_p1_part), (h0, O_V a_made a_split), (a_p1_part, aI G 7 g_p1_part), (a_p1_set, aI G 7 g_p1_set), (a_made, O_P f_made_root f_made_joins a_made_set a_made_part), (a_split, aI G 256 g_split), (a_made_part, aI G 7 g_made_part), (a_made_set, aI G 7 g_made_set)] H locs → lv_has ls 7 [(0, .ref h0), (1, .ref a_p1), (2, .int x2), (3, .int x3), (4, .int x4), (5, .int x5)] → V_make_55 N f_p1_root f_p1_joins g_p1_part g_p1_set f_made_root f_made_joins g_split g_made_part g_made_set x2 x3 x4 x5 z0 = some r19 → W p l e (rmk 13) s m args below meth c H locs 0 0 Q (F0 m 55 ls [.int z0]) := by
                intro x3 x5 z0 H locs ls wq hl hf
                obtain ⟨hP, hD, hS⟩ := wq
                refine lv_istore (lv' := [(6, .int z0), (0, .ref h0), (1, .ref a_p1), (2, .int x2), (3, .int x3), (4, .int x4), (5, .int x5)]) hx hb d_V_make_55 hl (by decide) rfl (fun ls hl => ?_)
                refine lv_iload hx hb d_V_make_57 (lv_at hl 0 rfl) ?_
                refine call_i (isC := []) (run_SN (As := [.int z0]) (rest := []) hx hb hml hown htl (c_J_isOne l G Y  z0 _ rfl) ms_J_isOne k_976 (hRk (by decide) (by decide)) hK hsk hS hP hD (isC := []) rfl (by decide) rfl hl.1 rfl (lv_room (Nat.le_of_ble_eq_true rfl)) d_V_make_59) hP hD hS rfl rfl (fun H locs hP hD hS => ?_)
                have hP : va_P G.1 classes [(a_p1, O_P f_p1_root f_p1_joins a_p1_set a_p1_part), (h0, O_V a_made a_split), (a_p1_part, aI G 7 g_p1_part), (a_p1_set, aI G 7 g_p1_set), (a_made, O_P f_made_root f_made_joins a_made_set a_made_part), (a_split, aI G 256 g_split), (a_made_part, aI G 7 g_made_part), (a_made_set, aI G 7 g_made_set)] H := hP
                have hD : va_D A [(a_p1, O_P f_p1_root f_p1_joins a_p1_set a_p1_part), (h0, O_V a_made a_split), (a_p1_part, aI G 7 g_p1_part), (a_p1_set, aI G 7 g_p1_set), (a_made, O_P f_made_root f_made_joins a_made_set a_made_part), (a_split, aI G 256 g_split), (a_made_part, aI G 7 g_made_part), (a_made_set, aI G 7 g_made_set)] := hD
                refine lv_if_eq (tgt := 68) hx hb d_V_make_62 (by decide) (fun c7 => ?_) (fun c7 => ?_)
                · have hf := di_t c7 hf
                  refine lv_iload_n hx hb d_V_make_68 rfl (lv_at hl 4 rfl) ?_
                  refine lv_if_ne (tgt := 91) hx hb d_V_make_69 (by decide) (fun c8 => ?_) (fun c8 => ?_)
                  · have hf := di_f c8 hf
                    obtain ⟨v9, ev9⟩ : ∃ z : Int32, z = x3 + (-1 : Int32) := ⟨_, rfl⟩
                    have hf := dn_e ev9 hf
                    refine lv_iinc (v := v9) (lv' := [(3, .int v9), (6, .int z0), (0, .ref h0), (1, .ref a_p1), (2, .int x2), (4, .int x4), (5, .int x5)]) hx hb d_V_make_91 hl (k := 4) rfl (by rw [ev9]; rfl) (by decide) rfl (fun ls hl => ?_)
                    obtain ⟨v10, ev10⟩ : ∃ z : Int32, z = x5 + (1 : Int32) := ⟨_, rfl⟩
                    have hf := dn_e ev10 hf
                    refine lv_iinc (v := v10) (lv' := [(5, .int v10), (3, .int v9), (6, .int z0), (0, .ref h0), (1, .ref a_p1), (2, .int x2), (4, .int x4)]) hx hb d_V_make_94 hl (k := 6) rfl (by rw [ev10]; rfl) (by decide) rfl (fun ls hl => ?_)
                    refine lv_goto (tgt := 19) hx hb d_V_make_97 (by decide) ?_
                    exact ih19 v9 v10 H locs ls (lpk_i hf hk19) ⟨hP, hD, hS⟩ (lv_sub hl [3, 4, 5, 1, 6, 0] rfl)
                  · have hf := di_t c8 hf
                    have hq19 := lpk_x hf hk19
                    have hf := ex_y (f := fun y => V_make_a19 N f_p1_root f_p1_joins g_p1_part g_p1_set f_made_root f_made_joins g_split g_made_part g_made_set x2 x4 y) hq19 hfo19
                    have hf : some (Sum.inr (Sum.inl (x4, z0))) = some r7 := hf
                    have hq7 := lpk_x hf hk7
                    have hf := ex_y (f := fun y => V_make_a7 N f_p1_root f_p1_joins g_p1_part g_p1_set f_made_root f_made_joins g_split g_made_part g_made_set x2 y) hq7 hfo7
                    have hf : V_make_72 N f_p1_root f_p1_joins g_p1_part g_p1_set f_made_root f_made_joins g_split g_made_part g_made_set x2 x4 z0 = some res := hf
                    exact hJ72 f_made_root f_made_joins g_split g_made_part g_made_set x4 z0 H locs ls ⟨hP, hD, hS⟩ (lv_sub hl [1, 2, 3, 5, 0] rfl) hf
                · have hf := di_f c7 hf
                  refine lv_goto (tgt := 94) hx hb d_V_make_65 (by decide) ?_
                  obtain ⟨v11, ev11⟩ : ∃ z : Int32, z = x5 + (1 : Int32) := ⟨_, rfl⟩
                  have hf := dn_e ev11 hf
                  refine lv_iinc (v := v11) (lv' := [(5, .int v11), (6, .int z0), (0, .ref h0), (1, .ref a_p1), (2, .int x2), (3, .int x3), (4, .int x4)]) hx hb d_V_make_94 hl (k := 6) rfl (by rw [ev11]; rfl) (by decide) rfl (fun ls hl => ?_)
                  refine lv_goto (tgt := 19) hx hb d_V_make_97 (by decide) ?_
                  exact ih19 x3 v11 H locs ls (lpk_i hf hk19) ⟨hP, hD, hS⟩ (lv_sub hl [2, 3, 4, 5, 6, 0] rfl)
              refine lv_iload hx hb d_V_make_19 (lv_at hl 5 rfl) ?_
              refine lv_iconst (v := (2 : Int32)) hx hb d_V_make_21 (by decide) ?_
              refine lv_icmp_ge (tgt := 100) hx hb d_V_make_22 (by decide) (fun c3 => ?_) (fun c3 => ?_)
              · have hf := di_t c3 hf
                have hq19 := lpk_x hf hk19
                have hf := ex_y (f := fun y => V_make_a19 N f_p1_root f_p1_joins g_p1_part g_p1_set f_made_root f_made_joins g_split g_made_part g_made_set x2 x4 y) hq19 hfo19
                have hf : V_make_100 N f_p1_root f_p1_joins g_p1_part g_p1_set f_made_root f_made_joins g_split g_made_part g_made_set x2 x3 x4 = some r7 := hf
                exact hJ100 x3 x4 H locs ls ⟨hP, hD, hS⟩ (lv_sub hl [0, 1, 2, 3, 4] rfl) hf
              · have hf := di_f c3 hf
                refine lv_iload hx hb d_V_make_25 (lv_at hl 5 rfl) ?_
                refine lv_if_ne (tgt := 40) hx hb d_V_make_27 (by decide) (fun c4 => ?_) (fun c4 => ?_)
                · have hf := di_f c4 hf
                  refine lv_aload_n hx hb d_V_make_40 rfl (lv_at hl 1 rfl) ?_
                  refine va_get (D := G.1) (ci := 4) (v := .ref a_p1_set) (C := n_P) (T := T_P) (N := 4) hx hb htl iw_P hown hK hP 0 rfl rfl 2 (by decide) (htl _ k_192) (fun _ h9 => h9) rfl d_V_make_41 ?_
                  refine lv_iload hx hb d_V_make_44 (lv_at hl 4 rfl) ?_
                  obtain ⟨c5, hf⟩ := dk_e hf
                  refine va_iald hx hb hK hP 3 1 rfl rfl c5 d_V_make_46 ?_
                  refine lv_aload_n hx hb d_V_make_47 rfl (lv_at hl 1 rfl) ?_
                  refine va_get (D := G.1) (ci := 4) (v := .ref a_p1_part) (C := n_P) (T := T_P) (N := 4) hx hb htl iw_P hown hK hP 0 rfl rfl 3 (by decide) (htl _ k_196) (fun _ h9 => h9) rfl d_V_make_48 ?_
                  refine lv_iload hx hb d_V_make_51 (lv_at hl 4 rfl) ?_
                  refine va_iald hx hb hK hP 2 1 rfl rfl c5 d_V_make_53 ?_
                  refine lv_ixor hx hb d_V_make_54 ?_
                  exact hJ55 x3 x5 ((g_p1_set x4.toNatClampNeg) ^^^ (g_p1_part x4.toNatClampNeg)) H locs ls ⟨hP, hD, hS⟩ (lv_sub hl [0, 1, 2, 3, 4, 5] rfl) hf
                · have hf := di_t c4 hf
                  refine lv_aload_n hx hb d_V_make_30 rfl (lv_at hl 1 rfl) ?_
                  refine va_get (D := G.1) (ci := 4) (v := .ref a_p1_part) (C := n_P) (T := T_P) (N := 4) hx hb htl iw_P hown hK hP 0 rfl rfl 3 (by decide) (htl _ k_196) (fun _ h9 => h9) rfl d_V_make_31 ?_
                  refine lv_iload hx hb d_V_make_34 (lv_at hl 4 rfl) ?_
                  obtain ⟨c6, hf⟩ := dk_e hf
                  refine va_iald hx hb hK hP 2 1 rfl rfl c6 d_V_make_36 ?_
                  refine lv_goto (tgt := 55) hx hb d_V_make_37 (by decide) ?_
                  exact hJ55 x3 x5 (g_p1_part x4.toNatClampNeg) H locs ls ⟨hP, hD, hS⟩ (lv_sub hl [0, 1, 2, 3, 4, 5] rfl) hf
          exact hL19 N x3 x5 H locs ls hy19 ⟨hP, hD, hS⟩ hl
        refine lv_iload hx hb d_V_make_7 (lv_at hl 4 rfl) ?_
        refine lv_aload_n hx hb d_V_make_9 rfl (lv_at hl 1 rfl) ?_
        refine va_get (D := G.1) (ci := 4) (v := .int f_p1_joins) (C := n_P) (T := T_P) (N := 4) hx hb htl iw_P hown hK hP 0 rfl rfl 1 (by decide) (htl _ k_187) (fun _ h9 => h9) rfl d_V_make_10 ?_
        refine lv_icmp_ge (tgt := 106) hx hb d_V_make_13 (by decide) (fun c2 => ?_) (fun c2 => ?_)
        · have hf := di_t c2 hf
          have hq7 := lpk_x hf hk7
          have hf := ex_y (f := fun y => V_make_a7 N f_p1_root f_p1_joins g_p1_part g_p1_set f_made_root f_made_joins g_split g_made_part g_made_set x2 y) hq7 hfo7
          have hf : V_make_106 N f_p1_root f_p1_joins g_p1_part g_p1_set f_made_root f_made_joins g_split g_made_part g_made_set = some res := hf
          exact hJ106 f_made_root f_made_joins g_split g_made_part g_made_set H locs ls ⟨hP, hD, hS⟩ (lv_sub hl [] rfl) hf
        · have hf := di_f c2 hf
          refine lv_iconst (v := (0 : Int32)) hx hb d_V_make_16 (by decide) ?_
          refine lv_istore (lv' := [(5, .int (0 : Int32)), (0, .ref h0), (1, .ref a_p1), (2, .int x2), (3, .int x3), (4, .int x4)]) hx hb d_V_make_17 hl (by decide) rfl (fun ls hl => ?_)
          exact hJ19 x3 x4 (0 : Int32) H locs ls ⟨hP, hD, hS⟩ (lv_sub hl [1, 2, 3, 4, 5, 0] rfl) hf
    exact hL7 N x3 x4 H locs ls hy7 ⟨hP, hD, hS⟩ hl
  refine lv_iload_n hx hb d_V_make_0 rfl (lv_at hl 2 rfl) ?_
  refine lv_iconst (v := (2 : Int32)) hx hb d_V_make_1 (by decide) ?_
  refine lv_idiv hx hb d_V_make_2 (by decide) ?_
  refine lv_topi (fun v1 ev1 => ?_)
  have hf := dn_e ev1 hf
  refine lv_istore_n (lv' := [(3, .int v1), (0, .ref h0), (1, .ref a_p1), (2, .int x2)]) hx hb d_V_make_3 rfl hl (by decide) rfl (fun ls hl => ?_)
  refine lv_iconst (v := (0 : Int32)) hx hb d_V_make_4 (by decide) ?_
  refine lv_istore (lv' := [(4, .int (0 : Int32)), (3, .int v1), (0, .ref h0), (1, .ref a_p1), (2, .int x2)]) hx hb d_V_make_5 hl (by decide) rfl (fun ls hl => ?_)
  exact hJ7 f_made_root f_made_joins g_split g_made_part g_made_set v1 (0 : Int32) H locs ls ⟨hP, hD, hS⟩ (lv_sub hl [2, 3, 4, 1, 0] rfl) hf
set_option maxHeartbeats 4000000 in
set_option maxRecDepth 100000 in
theorem c_V_stepOf (l : Launch) (G : va_G × (Nat → ClassId)) (Y : (Nat → Nat) × (Nat → Nat)) (h0 : Nat) (a_p1 : Nat) (a_p2 : Nat) (a_p1_set : Nat) (a_p1_part : Nat) (a_p2_sizes : Nat) (a_p2_capped : Nat) (a_p2_connected : Nat) (a_p2_leftIn : Nat) (a_p2_rightIn : Nat) (a_p2_pairs : Nat) (a_made : Nat) (a_split : Nat) (a_made_set : Nat) (a_made_part : Nat) (f_p1_root : Int32) (f_p1_joins : Int32) (f_p2_known : Int32) (f_p2_paired : Int32) (f_p2_cappedInAll : Int32) (f_p2_connectedInAll : Int32) (f_p2_pairsInAll : Int32) (f_p2_end : Int32) (g_p1_part : Nat → Int32) (g_p1_set : Nat → Int32) (g_p2_leftIn : Nat → Int32) (g_p2_rightIn : Nat → Int32) (g_p2_sizes : Nat → Int64) (f_made_root : Int32) (f_made_joins : Int32) (g_split : Nat → Int32) (g_made_part : Nat → Int32) (g_made_set : Nat → Int32) (N : Nat) (res : Int32 × Int32 × Int32 × (Nat → Int32) × (Nat → Int32) × (Nat → Int32)) (hf : V_stepOf N f_p1_root f_p1_joins g_p1_part g_p1_set g_p2_leftIn g_p2_rightIn g_p2_sizes f_made_root f_made_joins g_split g_made_part g_made_set = some res) : Ci l classes y_V_stepOf b_V_stepOf 12 (some .int) (rmk 14) G.1 (tyL G) Y [.ref h0, .ref a_p1, .ref a_p2] [(a_p1, O_P f_p1_root f_p1_joins a_p1_set a_p1_part), (a_p2, O_S f_p2_known f_p2_paired f_p2_cappedInAll f_p2_connectedInAll f_p2_pairsInAll a_p2_sizes a_p2_capped a_p2_connected f_p2_end a_p2_leftIn a_p2_rightIn a_p2_pairs), (h0, O_V a_made a_split), (a_p1_part, aI G 7 g_p1_part), (a_p1_set, aI G 7 g_p1_set), (a_p2_leftIn, aI G 256 g_p2_leftIn), (a_p2_rightIn, aI G 256 g_p2_rightIn), (a_p2_sizes, aJ G 256 g_p2_sizes), (a_made, O_P f_made_root f_made_joins a_made_set a_made_part), (a_split, aI G 256 g_split), (a_made_part, aI G 7 g_made_part), (a_made_set, aI G 7 g_made_set)] [(a_p1, O_P f_p1_root f_p1_joins a_p1_set a_p1_part), (a_p2, O_S f_p2_known f_p2_paired f_p2_cappedInAll f_p2_connectedInAll f_p2_pairsInAll a_p2_sizes a_p2_capped a_p2_connected f_p2_end a_p2_leftIn a_p2_rightIn a_p2_pairs), (h0, O_V a_made a_split), (a_p1_part, aI G 7 g_p1_part), (a_p1_set, aI G 7 g_p1_set), (a_p2_leftIn, aI G 256 g_p2_leftIn), (a_p2_rightIn, aI G 256 g_p2_rightIn), (a_p2_sizes, aJ G 256 g_p2_sizes), (a_made, O_P res.2.1 res.2.2.1 a_made_set a_made_part), (a_split, aI G 256 res.2.2.2.1), (a_made_part, aI G 7 res.2.2.2.2.1), (a_made_set, aI G 7 res.2.2.2.2.2)] res.1 := by
  refine entI (by decide) (Nat.le_of_ble_eq_true rfl) ?_
  intro p e s m args below meth c ls A Q hx hb hml hown htl hK hsk wq hl hret
  obtain ⟨hP, hD, hS⟩ := wq
  have hl : lv_has ls 12 [(0, .ref h0), (1, .ref a_p1), (2, .ref a_p2)] := hl
  have hS : va_S A s.heap s.heap [] := hS
  obtain ⟨H, hH⟩ : ∃ H : Heap, H = s.heap := ⟨_, rfl⟩
  obtain ⟨locs, hlocs⟩ : ∃ z : List Loc, z = [] := ⟨_, rfl⟩
  rw [← hH] at hP
  replace hS : va_S A s.heap H locs := by rw [hH, hlocs]; exact hS
  suffices hgo : W p l e (rmk 14) s m args below meth c H locs 0 0 Q (F0 m 0 ls []) by rw [hH, hlocs] at hgo; exact hgo
  have hJ101 : ∀ (f_made_root : Int32) (f_made_joins : Int32) (g_split : Nat → Int32) (g_made_part : Nat → Int32) (g_made_set : Nat → Int32) (x3 : Int32) (H : Heap) (locs : List Loc) (ls : Array Slot), PDS G.1 classes A s [(a_p1, O_P f_p1_root f_p1_joins a_p1_set a_p1_part), (a_p2, O_S f_p2_known f_p2_paired f_p2_cappedInAll f_p2_connectedInAll f_p2_pairsInAll a_p2_sizes a_p2_capped a_p2_connected f_p2_end a_p2_leftIn a_p2_rightIn a_p2_pairs), (h0, O_V a_made a_split), (a_p1_part, aI G 7 g_p1_part), (a_p1_set, aI G 7 g_p1_set), (a_p2_leftIn, aI G 256 g_p2_leftIn), (a_p2_rightIn, aI G 256 g_p2_rightIn), (a_p2_sizes, aJ G 256 g_p2_sizes), (a_made, O_P f_made_root f_made_joins a_made_set a_made_part), (a_split, aI G 256 g_split), (a_made_part, aI G 7 g_made_part), (a_made_set, aI G 7 g_made_set)] H locs → lv_has ls 12 [(3, .int x3)] → V_stepOf_101 N f_p1_root f_p1_joins g_p1_part g_p1_set g_p2_leftIn g_p2_rightIn g_p2_sizes f_made_root f_made_joins g_split g_made_part g_made_set x3 = some res → W p l e (rmk 14) s m args below meth c H locs 0 0 Q (F0 m 101 ls []) := by
    intro f_made_root f_made_joins g_split g_made_part g_made_set x3 H locs ls wq hl hf
    obtain ⟨hP, hD, hS⟩ := wq
    refine lv_iload_n hx hb d_V_stepOf_101 rfl (lv_at hl 0 rfl) ?_
    cases hf
    exact hret 102 ls H locs hP hS d_V_stepOf_102
  have hJ29 : ∀ (f_made_root : Int32) (f_made_joins : Int32) (g_split : Nat → Int32) (g_made_part : Nat → Int32) (g_made_set : Nat → Int32) (x3 : Int32) (x4 : Int32) (x5 : Int64) (x7 : Int32) (x8 : Int32) (H : Heap) (locs : List Loc) (ls : Array Slot), PDS G.1 classes A s [(a_p1, O_P f_p1_root f_p1_joins a_p1_set a_p1_part), (a_p2, O_S f_p2_known f_p2_paired f_p2_cappedInAll f_p2_connectedInAll f_p2_pairsInAll a_p2_sizes a_p2_capped a_p2_connected f_p2_end a_p2_leftIn a_p2_rightIn a_p2_pairs), (h0, O_V a_made a_split), (a_p1_part, aI G 7 g_p1_part), (a_p1_set, aI G 7 g_p1_set), (a_p2_leftIn, aI G 256 g_p2_leftIn), (a_p2_rightIn, aI G 256 g_p2_rightIn), (a_p2_sizes, aJ G 256 g_p2_sizes), (a_made, O_P f_made_root f_made_joins a_made_set a_made_part), (a_split, aI G 256 g_split), (a_made_part, aI G 7 g_made_part), (a_made_set, aI G 7 g_made_set)] H locs → lv_has ls 12 [(0, .ref h0), (1, .ref a_p1), (2, .ref a_p2), (3, .int x3), (4, .int x4), (5, .long x5), (7, .int x7), (8, .int x8)] → V_stepOf_29 N f_p1_root f_p1_joins g_p1_part g_p1_set g_p2_leftIn g_p2_rightIn g_p2_sizes f_made_root f_made_joins g_split g_made_part g_made_set x3 x4 x5 x7 x8 = some res → W p l e (rmk 14) s m args below meth c H locs 0 0 Q (F0 m 29 ls []) := by
    intro f_made_root f_made_joins g_split g_made_part g_made_set x3 x4 x5 x7 x8 H locs ls wq hl hf
    obtain ⟨hP, hD, hS⟩ := wq
    obtain ⟨y29, hy29, hfo29⟩ := db_e hf
    have hL29 : ∀ (n : Nat) (f_made_root : Int32) (f_made_joins : Int32) (g_split : Nat → Int32) (g_made_part : Nat → Int32) (g_made_set : Nat → Int32) (x3 : Int32) (x4 : Int32) (x5 : Int64) (x8 : Int32) (H : Heap) (locs : List Loc) (ls : Array Slot), lp (fun x => V_stepOf_b29 N f_p1_root f_p1_joins g_p1_part g_p1_set g_p2_leftIn g_p2_rightIn g_p2_sizes x.1 x.2.1 x.2.2.1 x.2.2.2.1 x.2.2.2.2.1 x.2.2.2.2.2.1 x.2.2.2.2.2.2.1 x.2.2.2.2.2.2.2.1 x7 x.2.2.2.2.2.2.2.2) n (f_made_root, f_made_joins, g_split, g_made_part, g_made_set, x3, x4, x5, x8) = some y29 → PDS G.1 classes A s [(a_p1, O_P f_p1_root f_p1_joins a_p1_set a_p1_part), (a_p2, O_S f_p2_known f_p2_paired f_p2_cappedInAll f_p2_connectedInAll f_p2_pairsInAll a_p2_sizes a_p2_capped a_p2_connected f_p2_end a_p2_leftIn a_p2_rightIn a_p2_pairs), (h0, O_V a_made a_split), (a_p1_part, aI G 7 g_p1_part), (a_p1_set, aI G 7 g_p1_set), (a_p2_leftIn, aI G 256 g_p2_leftIn), (a_p2_rightIn, aI G 256 g_p2_rightIn), (a_p2_sizes, aJ G 256 g_p2_sizes), (a_made, O_P f_made_root f_made_joins a_made_set a_made_part), (a_split, aI G 256 g_split), (a_made_part, aI G 7 g_made_part), (a_made_set, aI G 7 g_made_set)] H locs → lv_has ls 12 [(0, .ref h0), (1, .ref a_p1), (2, .ref a_p2), (3, .int x3), (4, .int x4), (5, .long x5), (7, .int x7), (8, .int x8)] → W p l e (rmk 14) s m args below meth c H locs 0 0 Q (F0 m 29 ls []) := by
      intro n
      induction n with
      | zero =>
        intro f_made_root f_made_joins g_split g_made_part g_made_set x3 x4 x5 x8 H locs ls hf
        exact lp_0 hf
      | succ n ih29 =>
        intro f_made_root f_made_joins g_split g_made_part g_made_set x3 x4 x5 x8 H locs ls hf wq hl
        obtain ⟨hP, hD, hS⟩ := wq
        obtain ⟨r29, hf, hk29⟩ := lp_s hf
        have hf : V_stepOf_b29 N f_p1_root f_p1_joins g_p1_part g_p1_set g_p2_leftIn g_p2_rightIn g_p2_sizes f_made_root f_made_joins g_split g_made_part g_made_set x3 x4 x5 x7 x8 = some r29 := hf
        refine lv_iload hx hb d_V_stepOf_29 (lv_at hl 7 rfl) ?_
        refine lv_iload hx hb d_V_stepOf_31 (lv_at hl 6 rfl) ?_
        refine lv_icmp_ge (tgt := 101) hx hb d_V_stepOf_33 (by decide) (fun c6 => ?_) (fun c6 => ?_)
        · have hf := di_t c6 hf
          have hq29 := lpk_x hf hk29
          have hf := ex_y (f := fun y => V_stepOf_a29 N f_p1_root f_p1_joins g_p1_part g_p1_set g_p2_leftIn g_p2_rightIn g_p2_sizes x7 y) hq29 hfo29
          have hf : V_stepOf_101 N f_p1_root f_p1_joins g_p1_part g_p1_set g_p2_leftIn g_p2_rightIn g_p2_sizes f_made_root f_made_joins g_split g_made_part g_made_set x3 = some res := hf
          exact hJ101 f_made_root f_made_joins g_split g_made_part g_made_set x3 H locs ls ⟨hP, hD, hS⟩ (lv_sub hl [3] rfl) hf
        · have hf := di_f c6 hf
          refine lv_aload_n hx hb d_V_stepOf_36 rfl (lv_at hl 0 rfl) ?_
          refine lv_aload_n hx hb d_V_stepOf_37 rfl (lv_at hl 1 rfl) ?_
          refine lv_iload hx hb d_V_stepOf_38 (lv_at hl 7 rfl) ?_
          obtain ⟨t7, hv8, hf⟩ := db_e hf
          refine call_v (isC := [0, 2, 3, 4, 8, 9, 10, 11]) (run_V (As := [.ref a_p1, .int x8]) (rest := []) (ci := 2) (q0 := 2) hx hb hml hown htl (c_V_make l G Y  h0 a_p1 a_p1_set a_p1_part a_made a_split a_made_set a_made_part f_p1_root f_p1_joins g_p1_part g_p1_set f_made_root f_made_joins g_split g_made_part g_made_set x8 N t7 hv8) mv_V_make k_972 (hRk (by decide) (by decide)) hK hsk hS hP hD (isC := [0, 2, 3, 4, 8, 9, 10, 11]) rfl (by decide) rfl rfl rfl hl.1 rfl (lv_room (Nat.le_of_ble_eq_true rfl)) d_V_stepOf_40) hP hD hS rfl rfl (fun H locs hP hD hS => ?_)
          have hP : va_P G.1 classes [(a_p1, O_P f_p1_root f_p1_joins a_p1_set a_p1_part), (a_p2, O_S f_p2_known f_p2_paired f_p2_cappedInAll f_p2_connectedInAll f_p2_pairsInAll a_p2_sizes a_p2_capped a_p2_connected f_p2_end a_p2_leftIn a_p2_rightIn a_p2_pairs), (h0, O_V a_made a_split), (a_p1_part, aI G 7 g_p1_part), (a_p1_set, aI G 7 g_p1_set), (a_p2_leftIn, aI G 256 g_p2_leftIn), (a_p2_rightIn, aI G 256 g_p2_rightIn), (a_p2_sizes, aJ G 256 g_p2_sizes), (a_made, O_P t7.1 t7.2.1 a_made_set a_made_part), (a_split, aI G 256 t7.2.2.1), (a_made_part, aI G 7 t7.2.2.2.1), (a_made_set, aI G 7 t7.2.2.2.2)] H := hP
          have hD : va_D A [(a_p1, O_P f_p1_root f_p1_joins a_p1_set a_p1_part), (a_p2, O_S f_p2_known f_p2_paired f_p2_cappedInAll f_p2_connectedInAll f_p2_pairsInAll a_p2_sizes a_p2_capped a_p2_connected f_p2_end a_p2_leftIn a_p2_rightIn a_p2_pairs), (h0, O_V a_made a_split), (a_p1_part, aI G 7 g_p1_part), (a_p1_set, aI G 7 g_p1_set), (a_p2_leftIn, aI G 256 g_p2_leftIn), (a_p2_rightIn, aI G 256 g_p2_rightIn), (a_p2_sizes, aJ G 256 g_p2_sizes), (a_made, O_P t7.1 t7.2.1 a_made_set a_made_part), (a_split, aI G 256 t7.2.2.1), (a_made_part, aI G 7 t7.2.2.2.1), (a_made_set, aI G 7 t7.2.2.2.2)] := hD
          refine lv_aload_n hx hb d_V_stepOf_43 rfl (lv_at hl 2 rfl) ?_
          refine lv_aload_n hx hb d_V_stepOf_44 rfl (lv_at hl 0 rfl) ?_
          refine va_get (D := G.1) (ci := 2) (v := .ref a_made) (C := n_V) (T := T_V) (N := 2) hx hb htl iw_V hown hK hP 2 rfl rfl 0 (by decide) (htl _ k_446) (fun _ h9 => h9) rfl d_V_stepOf_45 ?_
          obtain ⟨t9, hv10, hf⟩ := db_e hf
          refine call_i (isC := [8, 1, 10, 11, 5, 6]) (run_V (As := [.ref a_made]) (rest := []) (ci := 8) (q0 := 1) hx hb hml hown htl (c_S_crossesOf l G Y  a_p2 a_made a_made_set a_made_part a_p2_sizes a_p2_capped a_p2_connected a_p2_leftIn a_p2_rightIn a_p2_pairs t7.1 t7.2.1 f_p2_known f_p2_paired f_p2_cappedInAll f_p2_connectedInAll f_p2_pairsInAll f_p2_end t7.2.2.2.1 t7.2.2.2.2 g_p2_leftIn g_p2_rightIn N t9 hv10) mv_S_crossesOf k_956 (hRk (by decide) (by decide)) hK hsk hS hP hD (isC := [8, 1, 10, 11, 5, 6]) rfl (by decide) rfl rfl rfl hl.1 rfl (lv_room (Nat.le_of_ble_eq_true rfl)) d_V_stepOf_48) hP hD hS rfl rfl (fun H locs hP hD hS => ?_)
          have hP : va_P G.1 classes [(a_p1, O_P f_p1_root f_p1_joins a_p1_set a_p1_part), (a_p2, O_S f_p2_known f_p2_paired f_p2_cappedInAll f_p2_connectedInAll f_p2_pairsInAll a_p2_sizes a_p2_capped a_p2_connected f_p2_end a_p2_leftIn a_p2_rightIn a_p2_pairs), (h0, O_V a_made a_split), (a_p1_part, aI G 7 g_p1_part), (a_p1_set, aI G 7 g_p1_set), (a_p2_leftIn, aI G 256 g_p2_leftIn), (a_p2_rightIn, aI G 256 g_p2_rightIn), (a_p2_sizes, aJ G 256 g_p2_sizes), (a_made, O_P t7.1 t7.2.1 a_made_set a_made_part), (a_split, aI G 256 t7.2.2.1), (a_made_part, aI G 7 t7.2.2.2.1), (a_made_set, aI G 7 t7.2.2.2.2)] H := hP
          have hD : va_D A [(a_p1, O_P f_p1_root f_p1_joins a_p1_set a_p1_part), (a_p2, O_S f_p2_known f_p2_paired f_p2_cappedInAll f_p2_connectedInAll f_p2_pairsInAll a_p2_sizes a_p2_capped a_p2_connected f_p2_end a_p2_leftIn a_p2_rightIn a_p2_pairs), (h0, O_V a_made a_split), (a_p1_part, aI G 7 g_p1_part), (a_p1_set, aI G 7 g_p1_set), (a_p2_leftIn, aI G 256 g_p2_leftIn), (a_p2_rightIn, aI G 256 g_p2_rightIn), (a_p2_sizes, aJ G 256 g_p2_sizes), (a_made, O_P t7.1 t7.2.1 a_made_set a_made_part), (a_split, aI G 256 t7.2.2.1), (a_made_part, aI G 7 t7.2.2.2.1), (a_made_set, aI G 7 t7.2.2.2.2)] := hD
          refine lv_istore (lv' := [(9, .int t9), (0, .ref h0), (1, .ref a_p1), (2, .ref a_p2), (3, .int x3), (4, .int x4), (5, .long x5), (7, .int x7), (8, .int x8)]) hx hb d_V_stepOf_51 hl (by decide) rfl (fun ls hl => ?_)
          refine lv_aload_n hx hb d_V_stepOf_53 rfl (lv_at hl 3 rfl) ?_
          refine lv_aload_n hx hb d_V_stepOf_54 rfl (lv_at hl 1 rfl) ?_
          refine va_get (D := G.1) (ci := 2) (v := .ref a_made) (C := n_V) (T := T_V) (N := 2) hx hb htl iw_V hown hK hP 2 rfl rfl 0 (by decide) (htl _ k_446) (fun _ h9 => h9) rfl d_V_stepOf_55 ?_
          refine lv_aload_n hx hb d_V_stepOf_58 rfl (lv_at hl 1 rfl) ?_
          refine va_get (D := G.1) (ci := 2) (v := .ref a_made) (C := n_V) (T := T_V) (N := 2) hx hb htl iw_V hown hK hP 2 rfl rfl 0 (by decide) (htl _ k_446) (fun _ h9 => h9) rfl d_V_stepOf_59 ?_
          refine va_get (D := G.1) (ci := 4) (v := .int t7.1) (C := n_P) (T := T_P) (N := 4) hx hb htl iw_P hown hK hP 8 rfl rfl 0 (by decide) (htl _ k_185) (fun _ h9 => h9) rfl d_V_stepOf_62 ?_
          obtain ⟨t11, hv12, hf⟩ := db_e hf
          refine call_l (isC := [8, 1, 11, 7]) (run_V (As := [.ref a_made, .int t7.1]) (rest := []) (ci := 8) (q0 := 1) hx hb hml hown htl (c_S_costOf l G Y  a_p2 a_made a_made_set a_made_part a_p2_sizes a_p2_capped a_p2_connected a_p2_leftIn a_p2_rightIn a_p2_pairs t7.1 t7.2.1 f_p2_known f_p2_paired f_p2_cappedInAll f_p2_connectedInAll f_p2_pairsInAll f_p2_end t7.2.2.2.2 g_p2_sizes t7.1 N t11 hv12) mv_S_costOf k_964 (hRk (by decide) (by decide)) hK hsk hS hP hD (isC := [8, 1, 11, 7]) rfl (by decide) rfl rfl rfl hl.1 rfl (lv_room (Nat.le_of_ble_eq_true rfl)) d_V_stepOf_65) hP hD hS rfl rfl (fun H locs hP hD hS => ?_)
          have hP : va_P G.1 classes [(a_p1, O_P f_p1_root f_p1_joins a_p1_set a_p1_part), (a_p2, O_S f_p2_known f_p2_paired f_p2_cappedInAll f_p2_connectedInAll f_p2_pairsInAll a_p2_sizes a_p2_capped a_p2_connected f_p2_end a_p2_leftIn a_p2_rightIn a_p2_pairs), (h0, O_V a_made a_split), (a_p1_part, aI G 7 g_p1_part), (a_p1_set, aI G 7 g_p1_set), (a_p2_leftIn, aI G 256 g_p2_leftIn), (a_p2_rightIn, aI G 256 g_p2_rightIn), (a_p2_sizes, aJ G 256 g_p2_sizes), (a_made, O_P t7.1 t7.2.1 a_made_set a_made_part), (a_split, aI G 256 t7.2.2.1), (a_made_part, aI G 7 t7.2.2.2.1), (a_made_set, aI G 7 t7.2.2.2.2)] H := hP
          have hD : va_D A [(a_p1, O_P f_p1_root f_p1_joins a_p1_set a_p1_part), (a_p2, O_S f_p2_known f_p2_paired f_p2_cappedInAll f_p2_connectedInAll f_p2_pairsInAll a_p2_sizes a_p2_capped a_p2_connected f_p2_end a_p2_leftIn a_p2_rightIn a_p2_pairs), (h0, O_V a_made a_split), (a_p1_part, aI G 7 g_p1_part), (a_p1_set, aI G 7 g_p1_set), (a_p2_leftIn, aI G 256 g_p2_leftIn), (a_p2_rightIn, aI G 256 g_p2_rightIn), (a_p2_sizes, aJ G 256 g_p2_sizes), (a_made, O_P t7.1 t7.2.1 a_made_set a_made_part), (a_split, aI G 256 t7.2.2.1), (a_made_part, aI G 7 t7.2.2.2.1), (a_made_set, aI G 7 t7.2.2.2.2)] := hD
          refine lv_lstore (lv' := [(10, .long t11), (9, .int t9), (0, .ref h0), (1, .ref a_p1), (2, .ref a_p2), (3, .int x3), (4, .int x4), (5, .long x5), (7, .int x7), (8, .int x8)]) hx hb d_V_stepOf_68 hl (by decide) rfl (fun ls hl => ?_)
          refine lv_iload hx hb d_V_stepOf_70 (lv_at hl 1 rfl) ?_
          refine lv_lload hx hb d_V_stepOf_72 (lv_at hl 0 rfl) ?_
          refine lv_iload hx hb d_V_stepOf_74 (lv_at hl 6 rfl) ?_
          refine lv_lload hx hb d_V_stepOf_76 (lv_at hl 7 rfl) ?_
          refine call_i (isC := []) (run_SN (As := [.int t9, .long t11, .int x4, .long x5]) (rest := []) hx hb hml hown htl (c_J_isBetter l G Y  t9 t11 x4 x5 _ rfl) ms_J_isBetter k_986 (hRk (by decide) (by decide)) hK hsk hS hP hD (isC := []) rfl (by decide) rfl hl.1 rfl (lv_room (Nat.le_of_ble_eq_true rfl)) d_V_stepOf_78) hP hD hS rfl rfl (fun H locs hP hD hS => ?_)
          have hP : va_P G.1 classes [(a_p1, O_P f_p1_root f_p1_joins a_p1_set a_p1_part), (a_p2, O_S f_p2_known f_p2_paired f_p2_cappedInAll f_p2_connectedInAll f_p2_pairsInAll a_p2_sizes a_p2_capped a_p2_connected f_p2_end a_p2_leftIn a_p2_rightIn a_p2_pairs), (h0, O_V a_made a_split), (a_p1_part, aI G 7 g_p1_part), (a_p1_set, aI G 7 g_p1_set), (a_p2_leftIn, aI G 256 g_p2_leftIn), (a_p2_rightIn, aI G 256 g_p2_rightIn), (a_p2_sizes, aJ G 256 g_p2_sizes), (a_made, O_P t7.1 t7.2.1 a_made_set a_made_part), (a_split, aI G 256 t7.2.2.1), (a_made_part, aI G 7 t7.2.2.2.1), (a_made_set, aI G 7 t7.2.2.2.2)] H := hP
          have hD : va_D A [(a_p1, O_P f_p1_root f_p1_joins a_p1_set a_p1_part), (a_p2, O_S f_p2_known f_p2_paired f_p2_cappedInAll f_p2_connectedInAll f_p2_pairsInAll a_p2_sizes a_p2_capped a_p2_connected f_p2_end a_p2_leftIn a_p2_rightIn a_p2_pairs), (h0, O_V a_made a_split), (a_p1_part, aI G 7 g_p1_part), (a_p1_set, aI G 7 g_p1_set), (a_p2_leftIn, aI G 256 g_p2_leftIn), (a_p2_rightIn, aI G 256 g_p2_rightIn), (a_p2_sizes, aJ G 256 g_p2_sizes), (a_made, O_P t7.1 t7.2.1 a_made_set a_made_part), (a_split, aI G 256 t7.2.2.1), (a_made_part, aI G 7 t7.2.2.2.1), (a_made_set, aI G 7 t7.2.2.2.2)] := hD
          refine lv_if_eq (tgt := 95) hx hb d_V_stepOf_81 (by decide) (fun c13 => ?_) (fun c13 => ?_)
          · have hf := di_t c13 hf
            obtain ⟨v14, ev14⟩ : ∃ z : Int32, z = x8 + (1 : Int32) := ⟨_, rfl⟩
            have hf := dn_e ev14 hf
            refine lv_iinc (v := v14) (lv' := [(8, .int v14), (10, .long t11), (9, .int t9), (0, .ref h0), (1, .ref a_p1), (2, .ref a_p2), (3, .int x3), (4, .int x4), (5, .long x5), (7, .int x7)]) hx hb d_V_stepOf_95 hl (k := 9) rfl (by rw [ev14]; rfl) (by decide) rfl (fun ls hl => ?_)
            refine lv_goto (tgt := 29) hx hb d_V_stepOf_98 (by decide) ?_
            exact ih29 t7.1 t7.2.1 t7.2.2.1 t7.2.2.2.1 t7.2.2.2.2 x3 x4 x5 v14 H locs ls (lpk_i hf hk29) ⟨hP, hD, hS⟩ (lv_sub hl [3, 4, 5, 6, 7, 8, 9, 0] rfl)
          · have hf := di_f c13 hf
            refine lv_iload hx hb d_V_stepOf_84 (lv_at hl 9 rfl) ?_
            refine lv_istore_n (lv' := [(3, .int x8), (10, .long t11), (9, .int t9), (0, .ref h0), (1, .ref a_p1), (2, .ref a_p2), (4, .int x4), (5, .long x5), (7, .int x7), (8, .int x8)]) hx hb d_V_stepOf_86 rfl hl (by decide) rfl (fun ls hl => ?_)
            refine lv_iload hx hb d_V_stepOf_87 (lv_at hl 2 rfl) ?_
            refine lv_istore (lv' := [(4, .int t9), (3, .int x8), (10, .long t11), (9, .int t9), (0, .ref h0), (1, .ref a_p1), (2, .ref a_p2), (5, .long x5), (7, .int x7), (8, .int x8)]) hx hb d_V_stepOf_89 hl (by decide) rfl (fun ls hl => ?_)
            refine lv_lload hx hb d_V_stepOf_91 (lv_at hl 2 rfl) ?_
            refine lv_lstore (lv' := [(5, .long t11), (4, .int t9), (3, .int x8), (10, .long t11), (9, .int t9), (0, .ref h0), (1, .ref a_p1), (2, .ref a_p2), (7, .int x7), (8, .int x8)]) hx hb d_V_stepOf_93 hl (by decide) rfl (fun ls hl => ?_)
            obtain ⟨v15, ev15⟩ : ∃ z : Int32, z = x8 + (1 : Int32) := ⟨_, rfl⟩
            have hf := dn_e ev15 hf
            refine lv_iinc (v := v15) (lv' := [(8, .int v15), (5, .long t11), (4, .int t9), (3, .int x8), (10, .long t11), (9, .int t9), (0, .ref h0), (1, .ref a_p1), (2, .ref a_p2), (7, .int x7)]) hx hb d_V_stepOf_95 hl (k := 9) rfl (by rw [ev15]; rfl) (by decide) rfl (fun ls hl => ?_)
            refine lv_goto (tgt := 29) hx hb d_V_stepOf_98 (by decide) ?_
            exact ih29 t7.1 t7.2.1 t7.2.2.1 t7.2.2.2.1 t7.2.2.2.2 x8 t9 t11 v15 H locs ls (lpk_i hf hk29) ⟨hP, hD, hS⟩ (lv_sub hl [6, 7, 8, 3, 2, 1, 9, 0] rfl)
    exact hL29 N f_made_root f_made_joins g_split g_made_part g_made_set x3 x4 x5 x8 H locs ls hy29 ⟨hP, hD, hS⟩ hl
  refine lv_iconst (v := (-1 : Int32)) hx hb d_V_stepOf_0 (by decide) ?_
  refine lv_istore_n (lv' := [(3, .int (-1 : Int32)), (0, .ref h0), (1, .ref a_p1), (2, .ref a_p2)]) hx hb d_V_stepOf_1 rfl hl (by decide) rfl (fun ls hl => ?_)
  refine lv_aload_n hx hb d_V_stepOf_2 rfl (lv_at hl 3 rfl) ?_
  refine lv_aload_n hx hb d_V_stepOf_3 rfl (lv_at hl 2 rfl) ?_
  obtain ⟨t1, hv2, hf⟩ := db_e hf
  refine call_i (isC := [0, 1, 3, 4, 5, 6]) (run_V (As := [.ref a_p1]) (rest := []) (ci := 8) (q0 := 1) hx hb hml hown htl (c_S_crossesOf l G Y  a_p2 a_p1 a_p1_set a_p1_part a_p2_sizes a_p2_capped a_p2_connected a_p2_leftIn a_p2_rightIn a_p2_pairs f_p1_root f_p1_joins f_p2_known f_p2_paired f_p2_cappedInAll f_p2_connectedInAll f_p2_pairsInAll f_p2_end g_p1_part g_p1_set g_p2_leftIn g_p2_rightIn N t1 hv2) mv_S_crossesOf k_956 (hRk (by decide) (by decide)) hK hsk hS hP hD (isC := [0, 1, 3, 4, 5, 6]) rfl (by decide) rfl rfl rfl hl.1 rfl (lv_room (Nat.le_of_ble_eq_true rfl)) d_V_stepOf_4) hP hD hS rfl rfl (fun H locs hP hD hS => ?_)
  have hP : va_P G.1 classes [(a_p1, O_P f_p1_root f_p1_joins a_p1_set a_p1_part), (a_p2, O_S f_p2_known f_p2_paired f_p2_cappedInAll f_p2_connectedInAll f_p2_pairsInAll a_p2_sizes a_p2_capped a_p2_connected f_p2_end a_p2_leftIn a_p2_rightIn a_p2_pairs), (h0, O_V a_made a_split), (a_p1_part, aI G 7 g_p1_part), (a_p1_set, aI G 7 g_p1_set), (a_p2_leftIn, aI G 256 g_p2_leftIn), (a_p2_rightIn, aI G 256 g_p2_rightIn), (a_p2_sizes, aJ G 256 g_p2_sizes), (a_made, O_P f_made_root f_made_joins a_made_set a_made_part), (a_split, aI G 256 g_split), (a_made_part, aI G 7 g_made_part), (a_made_set, aI G 7 g_made_set)] H := hP
  have hD : va_D A [(a_p1, O_P f_p1_root f_p1_joins a_p1_set a_p1_part), (a_p2, O_S f_p2_known f_p2_paired f_p2_cappedInAll f_p2_connectedInAll f_p2_pairsInAll a_p2_sizes a_p2_capped a_p2_connected f_p2_end a_p2_leftIn a_p2_rightIn a_p2_pairs), (h0, O_V a_made a_split), (a_p1_part, aI G 7 g_p1_part), (a_p1_set, aI G 7 g_p1_set), (a_p2_leftIn, aI G 256 g_p2_leftIn), (a_p2_rightIn, aI G 256 g_p2_rightIn), (a_p2_sizes, aJ G 256 g_p2_sizes), (a_made, O_P f_made_root f_made_joins a_made_set a_made_part), (a_split, aI G 256 g_split), (a_made_part, aI G 7 g_made_part), (a_made_set, aI G 7 g_made_set)] := hD
  refine lv_istore (lv' := [(4, .int t1), (3, .int (-1 : Int32)), (0, .ref h0), (1, .ref a_p1), (2, .ref a_p2)]) hx hb d_V_stepOf_7 hl (by decide) rfl (fun ls hl => ?_)
  refine lv_aload_n hx hb d_V_stepOf_9 rfl (lv_at hl 4 rfl) ?_
  refine lv_aload_n hx hb d_V_stepOf_10 rfl (lv_at hl 3 rfl) ?_
  refine lv_aload_n hx hb d_V_stepOf_11 rfl (lv_at hl 3 rfl) ?_
  refine va_get (D := G.1) (ci := 4) (v := .int f_p1_root) (C := n_P) (T := T_P) (N := 4) hx hb htl iw_P hown hK hP 0 rfl rfl 0 (by decide) (htl _ k_185) (fun _ h9 => h9) rfl d_V_stepOf_12 ?_
  obtain ⟨t3, hv4, hf⟩ := db_e hf
  refine call_l (isC := [0, 1, 4, 7]) (run_V (As := [.ref a_p1, .int f_p1_root]) (rest := []) (ci := 8) (q0 := 1) hx hb hml hown htl (c_S_costOf l G Y  a_p2 a_p1 a_p1_set a_p1_part a_p2_sizes a_p2_capped a_p2_connected a_p2_leftIn a_p2_rightIn a_p2_pairs f_p1_root f_p1_joins f_p2_known f_p2_paired f_p2_cappedInAll f_p2_connectedInAll f_p2_pairsInAll f_p2_end g_p1_set g_p2_sizes f_p1_root N t3 hv4) mv_S_costOf k_964 (hRk (by decide) (by decide)) hK hsk hS hP hD (isC := [0, 1, 4, 7]) rfl (by decide) rfl rfl rfl hl.1 rfl (lv_room (Nat.le_of_ble_eq_true rfl)) d_V_stepOf_15) hP hD hS rfl rfl (fun H locs hP hD hS => ?_)
  have hP : va_P G.1 classes [(a_p1, O_P f_p1_root f_p1_joins a_p1_set a_p1_part), (a_p2, O_S f_p2_known f_p2_paired f_p2_cappedInAll f_p2_connectedInAll f_p2_pairsInAll a_p2_sizes a_p2_capped a_p2_connected f_p2_end a_p2_leftIn a_p2_rightIn a_p2_pairs), (h0, O_V a_made a_split), (a_p1_part, aI G 7 g_p1_part), (a_p1_set, aI G 7 g_p1_set), (a_p2_leftIn, aI G 256 g_p2_leftIn), (a_p2_rightIn, aI G 256 g_p2_rightIn), (a_p2_sizes, aJ G 256 g_p2_sizes), (a_made, O_P f_made_root f_made_joins a_made_set a_made_part), (a_split, aI G 256 g_split), (a_made_part, aI G 7 g_made_part), (a_made_set, aI G 7 g_made_set)] H := hP
  have hD : va_D A [(a_p1, O_P f_p1_root f_p1_joins a_p1_set a_p1_part), (a_p2, O_S f_p2_known f_p2_paired f_p2_cappedInAll f_p2_connectedInAll f_p2_pairsInAll a_p2_sizes a_p2_capped a_p2_connected f_p2_end a_p2_leftIn a_p2_rightIn a_p2_pairs), (h0, O_V a_made a_split), (a_p1_part, aI G 7 g_p1_part), (a_p1_set, aI G 7 g_p1_set), (a_p2_leftIn, aI G 256 g_p2_leftIn), (a_p2_rightIn, aI G 256 g_p2_rightIn), (a_p2_sizes, aJ G 256 g_p2_sizes), (a_made, O_P f_made_root f_made_joins a_made_set a_made_part), (a_split, aI G 256 g_split), (a_made_part, aI G 7 g_made_part), (a_made_set, aI G 7 g_made_set)] := hD
  refine lv_lstore (lv' := [(5, .long t3), (4, .int t1), (3, .int (-1 : Int32)), (0, .ref h0), (1, .ref a_p1), (2, .ref a_p2)]) hx hb d_V_stepOf_18 hl (by decide) rfl (fun ls hl => ?_)
  refine lv_aload_n hx hb d_V_stepOf_20 rfl (lv_at hl 4 rfl) ?_
  refine call_i (isC := [0]) (run_S (As := [.ref a_p1]) (rest := []) hx hb hml hown htl (c_V_movesOf l G Y  a_p1 a_p1_set a_p1_part f_p1_root f_p1_joins _ rfl) ms_V_movesOf k_969 (hRk (by decide) (by decide)) hK hsk hS hP hD (isC := [0]) rfl (by decide) rfl hl.1 rfl (lv_room (Nat.le_of_ble_eq_true rfl)) d_V_stepOf_21) hP hD hS rfl rfl (fun H locs hP hD hS => ?_)
  have hP : va_P G.1 classes [(a_p1, O_P f_p1_root f_p1_joins a_p1_set a_p1_part), (a_p2, O_S f_p2_known f_p2_paired f_p2_cappedInAll f_p2_connectedInAll f_p2_pairsInAll a_p2_sizes a_p2_capped a_p2_connected f_p2_end a_p2_leftIn a_p2_rightIn a_p2_pairs), (h0, O_V a_made a_split), (a_p1_part, aI G 7 g_p1_part), (a_p1_set, aI G 7 g_p1_set), (a_p2_leftIn, aI G 256 g_p2_leftIn), (a_p2_rightIn, aI G 256 g_p2_rightIn), (a_p2_sizes, aJ G 256 g_p2_sizes), (a_made, O_P f_made_root f_made_joins a_made_set a_made_part), (a_split, aI G 256 g_split), (a_made_part, aI G 7 g_made_part), (a_made_set, aI G 7 g_made_set)] H := hP
  have hD : va_D A [(a_p1, O_P f_p1_root f_p1_joins a_p1_set a_p1_part), (a_p2, O_S f_p2_known f_p2_paired f_p2_cappedInAll f_p2_connectedInAll f_p2_pairsInAll a_p2_sizes a_p2_capped a_p2_connected f_p2_end a_p2_leftIn a_p2_rightIn a_p2_pairs), (h0, O_V a_made a_split), (a_p1_part, aI G 7 g_p1_part), (a_p1_set, aI G 7 g_p1_set), (a_p2_leftIn, aI G 256 g_p2_leftIn), (a_p2_rightIn, aI G 256 g_p2_rightIn), (a_p2_sizes, aJ G 256 g_p2_sizes), (a_made, O_P f_made_root f_made_joins a_made_set a_made_part), (a_split, aI G 256 g_split), (a_made_part, aI G 7 g_made_part), (a_made_set, aI G 7 g_made_set)] := hD
  refine lv_topi (fun v5 ev5 => ?_)
  have hf := dn_e ev5 hf
  refine lv_istore (lv' := [(7, .int v5), (5, .long t3), (4, .int t1), (3, .int (-1 : Int32)), (0, .ref h0), (1, .ref a_p1), (2, .ref a_p2)]) hx hb d_V_stepOf_24 hl (by decide) rfl (fun ls hl => ?_)
  refine lv_iconst (v := (0 : Int32)) hx hb d_V_stepOf_26 (by decide) ?_
  refine lv_istore (lv' := [(8, .int (0 : Int32)), (7, .int v5), (5, .long t3), (4, .int t1), (3, .int (-1 : Int32)), (0, .ref h0), (1, .ref a_p1), (2, .ref a_p2)]) hx hb d_V_stepOf_27 hl (by decide) rfl (fun ls hl => ?_)
  exact hJ29 f_made_root f_made_joins g_split g_made_part g_made_set (-1 : Int32) t1 t3 v5 (0 : Int32) H locs ls ⟨hP, hD, hS⟩ (lv_sub hl [5, 6, 7, 4, 3, 2, 1, 0] rfl) hf
