set_option maxHeartbeats 4000000 in
set_option maxRecDepth 100000 in
theorem c_T_isWord (l : Launch) (G : va_G × (Nat → ClassId)) (Y : (Nat → Nat) × (Nat → Nat)) (h0 : Nat) (a_bytes : Nat) (f_length : Int32) (f_kind : Int32) (f_start : Int32) (f_number : Int32) (f_at : Int32) (g_bytes : Nat → Int32) (j : Nat) (hj : j < 4) (N : Nat) (res : Int32) (hf : T_isWord N j f_start f_at g_bytes = some res) : Ci l classes y_T_isWord b_T_isWord 3 (some .boolean) (rmk 5) G.1 (tyL G) Y [.ref h0, .ref (Y.1 j)] [(h0, O_T f_length a_bytes f_kind f_start f_number f_at), (a_bytes, aI G 500 g_bytes)] [(h0, O_T f_length a_bytes f_kind f_start f_number f_at), (a_bytes, aI G 500 g_bytes)] res := by
  refine entZ (by decide) (Nat.le_of_ble_eq_true rfl) ?_
  intro p e s m args below meth c ls A Q hx hb hml hown htl hK hsk wq hl hret
  obtain ⟨hP, hD, hS⟩ := wq
  have hl : lv_has ls 3 [(0, .ref h0), (1, .ref (Y.1 j))] := hl
  have hS : va_S A s.heap s.heap [] := hS
  obtain ⟨H, hH⟩ : ∃ H : Heap, H = s.heap := ⟨_, rfl⟩
  obtain ⟨locs, hlocs⟩ : ∃ z : List Loc, z = [] := ⟨_, rfl⟩
  rw [← hH] at hP
  replace hS : va_S A s.heap H locs := by rw [hH, hlocs]; exact hS
  suffices hgo : W p l e (rmk 5) s m args below meth c H locs 0 0 Q (F0 m 0 ls []) by rw [hH, hlocs] at hgo; exact hgo
  have hJ55 : ∀ (H : Heap) (locs : List Loc) (ls : Array Slot), PDS G.1 classes A s [(h0, O_T f_length a_bytes f_kind f_start f_number f_at), (a_bytes, aI G 500 g_bytes)] H locs → lv_has ls 3 [] → T_isWord_55 N j f_start f_at g_bytes = some res → W p l e (rmk 5) s m args below meth c H locs 0 0 Q (F0 m 55 ls []) := by
    intro H locs ls wq hl hf
    obtain ⟨hP, hD, hS⟩ := wq
    refine lv_iconst (v := (1 : Int32)) hx hb d_T_isWord_55 (by decide) ?_
    cases hf
    exact hret 56 ls H locs z_1 hP hS d_T_isWord_56
  have hJ47 : ∀ (H : Heap) (locs : List Loc) (ls : Array Slot), PDS G.1 classes A s [(h0, O_T f_length a_bytes f_kind f_start f_number f_at), (a_bytes, aI G 500 g_bytes)] H locs → lv_has ls 3 [] → T_isWord_47 N j f_start f_at g_bytes = some res → W p l e (rmk 5) s m args below meth c H locs 0 0 Q (F0 m 47 ls []) := by
    intro H locs ls wq hl hf
    obtain ⟨hP, hD, hS⟩ := wq
    refine lv_iconst (v := (0 : Int32)) hx hb d_T_isWord_47 (by decide) ?_
    cases hf
    exact hret 48 ls H locs z_0 hP hS d_T_isWord_48
  have hJ20 : ∀ (x2 : Int32) (H : Heap) (locs : List Loc) (ls : Array Slot), PDS G.1 classes A s [(h0, O_T f_length a_bytes f_kind f_start f_number f_at), (a_bytes, aI G 500 g_bytes)] H locs → lv_has ls 3 [(0, .ref h0), (1, .ref (Y.1 j)), (2, .int x2)] → T_isWord_20 N j f_start f_at g_bytes x2 = some res → W p l e (rmk 5) s m args below meth c H locs 0 0 Q (F0 m 20 ls []) := by
    intro x2 H locs ls wq hl hf
    obtain ⟨hP, hD, hS⟩ := wq
    obtain ⟨y20, hy20, hfo20⟩ := db_e hf
    have hL20 : ∀ (n : Nat) (x2 : Int32) (H : Heap) (locs : List Loc) (ls : Array Slot), lp (fun x => T_isWord_b20 N j f_start f_at g_bytes x) n x2 = some y20 → PDS G.1 classes A s [(h0, O_T f_length a_bytes f_kind f_start f_number f_at), (a_bytes, aI G 500 g_bytes)] H locs → lv_has ls 3 [(0, .ref h0), (1, .ref (Y.1 j)), (2, .int x2)] → W p l e (rmk 5) s m args below meth c H locs 0 0 Q (F0 m 20 ls []) := by
      intro n
      induction n with
      | zero =>
        intro x2 H locs ls hf
        exact lp_0 hf
      | succ n ih20 =>
        intro x2 H locs ls hf wq hl
        obtain ⟨hP, hD, hS⟩ := wq
        obtain ⟨r20, hf, hk20⟩ := lp_s hf
        have hf : T_isWord_b20 N j f_start f_at g_bytes x2 = some r20 := hf
        refine lv_iload_n hx hb d_T_isWord_20 rfl (lv_at hl 2 rfl) ?_
        refine lv_aload_n hx hb d_T_isWord_21 rfl (lv_at hl 1 rfl) ?_
        refine call_i (isC := []) (run_Vs (As := []) (rest := [.int x2]) hx hb hml hown htl (c_Sr_length l G Y j hj) mv_Sr_length k_574 (hRk (by decide) (by decide)) hK hsk hS hP hD (isC := []) rfl (by decide) (vk_recv hsk.1 hj hS) rfl hl.1 rfl (lv_room (Nat.le_of_ble_eq_true rfl)) d_T_isWord_22) hP hD hS rfl rfl (fun H locs hP hD hS => ?_)
        have hP : va_P G.1 classes [(h0, O_T f_length a_bytes f_kind f_start f_number f_at), (a_bytes, aI G 500 g_bytes)] H := hP
        have hD : va_D A [(h0, O_T f_length a_bytes f_kind f_start f_number f_at), (a_bytes, aI G 500 g_bytes)] := hD
        refine lv_icmp_ge (tgt := 55) hx hb d_T_isWord_25 (by decide) (fun c2 => ?_) (fun c2 => ?_)
        · have hf := di_t c2 hf
          have hq20 := lpk_x hf hk20
          have hf := ex_y (f := fun y => T_isWord_a20 N j f_start f_at g_bytes y) hq20 hfo20
          have hf : T_isWord_55 N j f_start f_at g_bytes = some res := hf
          exact hJ55  H locs ls ⟨hP, hD, hS⟩ (lv_sub hl [] rfl) hf
        · have hf := di_f c2 hf
          refine lv_aload_n hx hb d_T_isWord_28 rfl (lv_at hl 0 rfl) ?_
          refine va_get (D := G.1) (ci := 10) (v := .ref a_bytes) (C := n_T) (T := T_T) (N := 6) hx hb htl iw_T hown hK hP 0 rfl rfl 1 (by decide) (htl _ k_216) (fun _ h9 => h9) rfl d_T_isWord_29 ?_
          refine lv_aload_n hx hb d_T_isWord_32 rfl (lv_at hl 0 rfl) ?_
          refine va_get (D := G.1) (ci := 10) (v := .int f_start) (C := n_T) (T := T_T) (N := 6) hx hb htl iw_T hown hK hP 0 rfl rfl 3 (by decide) (htl _ k_222) (fun _ h9 => h9) rfl d_T_isWord_33 ?_
          refine lv_iload_n hx hb d_T_isWord_36 rfl (lv_at hl 2 rfl) ?_
          refine lv_iadd hx hb d_T_isWord_37 ?_
          obtain ⟨c3, hf⟩ := dk_e hf
          refine va_iald hx hb hK hP 1 1 rfl rfl c3 d_T_isWord_38 ?_
          refine lv_aload_n hx hb d_T_isWord_39 rfl (lv_at hl 1 rfl) ?_
          refine lv_iload_n hx hb d_T_isWord_40 rfl (lv_at hl 2 rfl) ?_
          obtain ⟨c4, hf⟩ := dk_e hf
          refine call_i (isC := []) (run_Vs (As := [.int x2]) (rest := [.int (g_bytes (f_start + x2).toNatClampNeg)]) hx hb hml hown htl (c_Sr_charAt l G Y j hj x2 c4) mv_Sr_charAt k_584 (hRk (by decide) (by decide)) hK hsk hS hP hD (isC := []) rfl (by decide) (vk_recv hsk.1 hj hS) rfl hl.1 rfl (lv_room (Nat.le_of_ble_eq_true rfl)) d_T_isWord_41) hP hD hS rfl rfl (fun H locs hP hD hS => ?_)
          have hP : va_P G.1 classes [(h0, O_T f_length a_bytes f_kind f_start f_number f_at), (a_bytes, aI G 500 g_bytes)] H := hP
          have hD : va_D A [(h0, O_T f_length a_bytes f_kind f_start f_number f_at), (a_bytes, aI G 500 g_bytes)] := hD
          refine lv_icmp_eq (tgt := 49) hx hb d_T_isWord_44 (by decide) (fun c5 => ?_) (fun c5 => ?_)
          · have hf := di_t c5 hf
            obtain ⟨v6, ev6⟩ : ∃ z : Int32, z = x2 + (1 : Int32) := ⟨_, rfl⟩
            have hf := dn_e ev6 hf
            refine lv_iinc (v := v6) (lv' := [(2, .int v6), (0, .ref h0), (1, .ref (Y.1 j))]) hx hb d_T_isWord_49 hl (k := 2) rfl (by rw [ev6]; rfl) (by decide) rfl (fun ls hl => ?_)
            refine lv_goto (tgt := 20) hx hb d_T_isWord_52 (by decide) ?_
            exact ih20 v6 H locs ls (lpk_i hf hk20) ⟨hP, hD, hS⟩ (lv_sub hl [1, 2, 0] rfl)
          · have hf := di_f c5 hf
            have hq20 := lpk_x hf hk20
            have hf := ex_y (f := fun y => T_isWord_a20 N j f_start f_at g_bytes y) hq20 hfo20
            have hf : T_isWord_47 N j f_start f_at g_bytes = some res := hf
            exact hJ47  H locs ls ⟨hP, hD, hS⟩ (lv_sub hl [] rfl) hf
    exact hL20 N x2 H locs ls hy20 ⟨hP, hD, hS⟩ hl
  refine lv_aload_n hx hb d_T_isWord_0 rfl (lv_at hl 0 rfl) ?_
  refine va_get (D := G.1) (ci := 10) (v := .int f_at) (C := n_T) (T := T_T) (N := 6) hx hb htl iw_T hown hK hP 0 rfl rfl 5 (by decide) (htl _ k_226) (fun _ h9 => h9) rfl d_T_isWord_1 ?_
  refine lv_aload_n hx hb d_T_isWord_4 rfl (lv_at hl 0 rfl) ?_
  refine va_get (D := G.1) (ci := 10) (v := .int f_start) (C := n_T) (T := T_T) (N := 6) hx hb htl iw_T hown hK hP 0 rfl rfl 3 (by decide) (htl _ k_222) (fun _ h9 => h9) rfl d_T_isWord_5 ?_
  refine lv_isub hx hb d_T_isWord_8 ?_
  refine lv_aload_n hx hb d_T_isWord_9 rfl (lv_at hl 1 rfl) ?_
  refine call_i (isC := []) (run_Vs (As := []) (rest := [.int (f_at - f_start)]) hx hb hml hown htl (c_Sr_length l G Y j hj) mv_Sr_length k_574 (hRk (by decide) (by decide)) hK hsk hS hP hD (isC := []) rfl (by decide) (vk_recv hsk.1 hj hS) rfl hl.1 rfl (lv_room (Nat.le_of_ble_eq_true rfl)) d_T_isWord_10) hP hD hS rfl rfl (fun H locs hP hD hS => ?_)
  have hP : va_P G.1 classes [(h0, O_T f_length a_bytes f_kind f_start f_number f_at), (a_bytes, aI G 500 g_bytes)] H := hP
  have hD : va_D A [(h0, O_T f_length a_bytes f_kind f_start f_number f_at), (a_bytes, aI G 500 g_bytes)] := hD
  refine lv_icmp_eq (tgt := 18) hx hb d_T_isWord_13 (by decide) (fun c1 => ?_) (fun c1 => ?_)
  · have hf := di_t c1 hf
    refine lv_iconst (v := (0 : Int32)) hx hb d_T_isWord_18 (by decide) ?_
    refine lv_istore_n (lv' := [(2, .int (0 : Int32)), (0, .ref h0), (1, .ref (Y.1 j))]) hx hb d_T_isWord_19 rfl hl (by decide) rfl (fun ls hl => ?_)
    exact hJ20 (0 : Int32) H locs ls ⟨hP, hD, hS⟩ (lv_sub hl [1, 2, 0] rfl) hf
  · have hf := di_f c1 hf
    refine lv_iconst (v := (0 : Int32)) hx hb d_T_isWord_16 (by decide) ?_
    cases hf
    exact hret 17 ls H locs z_0 hP hS d_T_isWord_17
set_option maxHeartbeats 4000000 in
set_option maxRecDepth 100000 in
theorem c_T_readWord (l : Launch) (G : va_G × (Nat → ClassId)) (Y : (Nat → Nat) × (Nat → Nat)) (h0 : Nat) (a_bytes : Nat) (f_length : Int32) (f_kind : Int32) (f_start : Int32) (f_number : Int32) (f_at : Int32) (g_bytes : Nat → Int32) (N : Nat) (res : Int32 × Int32) (hf : T_readWord N f_length f_kind f_start f_at g_bytes = some res) : Cv l classes y_T_readWord b_T_readWord 1 none (rmk 6) G.1 (tyL G) Y [.ref h0] [(h0, O_T f_length a_bytes f_kind f_start f_number f_at), (a_bytes, aI G 500 g_bytes)] [(h0, O_T f_length a_bytes res.1 f_start f_number res.2), (a_bytes, aI G 500 g_bytes)] := by
  refine entV (by decide) (Nat.le_of_ble_eq_true rfl) ?_
  intro p e s m args below meth c ls A Q hx hb hml hown htl hK hsk wq hl hret
  obtain ⟨hP, hD, hS⟩ := wq
  have hl : lv_has ls 1 [(0, .ref h0)] := hl
  have hS : va_S A s.heap s.heap [] := hS
  obtain ⟨H, hH⟩ : ∃ H : Heap, H = s.heap := ⟨_, rfl⟩
  obtain ⟨locs, hlocs⟩ : ∃ z : List Loc, z = [] := ⟨_, rfl⟩
  rw [← hH] at hP
  replace hS : va_S A s.heap H locs := by rw [hH, hlocs]; exact hS
  suffices hgo : W p l e (rmk 6) s m args below meth c H locs 0 0 Q (F0 m 0 ls []) by rw [hH, hlocs] at hgo; exact hgo
  have hJ110 : ∀ (f_kind : Int32) (f_at : Int32) (z1 : Int32) (H : Heap) (locs : List Loc) (ls : Array Slot), PDS G.1 classes A s [(h0, O_T f_length a_bytes f_kind f_start f_number f_at), (a_bytes, aI G 500 g_bytes)] H locs → lv_has ls 1 [] → T_readWord_110 N f_length f_kind f_start f_at g_bytes z1 = some res → W p l e (rmk 6) s m args below meth c H locs 0 0 Q (F0 m 110 ls [.int z1, .ref h0]) := by
    intro f_kind f_at z1 H locs ls wq hl hf
    obtain ⟨hP, hD, hS⟩ := wq
    refine va_put (D := G.1) (ci := 10) (v := .int z1) (ty := .int) (C := n_T) (T := T_T) (N := 6) hx hb htl iw_T ty_T ty_T_ok nm_T hown hK hP hD hS 0 rfl rfl 2 (by decide) (htl _ k_219) (fun _ h9 => h9) rfl (by decide +kernel) rfl rfl (Nat.le_of_ble_eq_true rfl) d_T_readWord_110 (fun H locs hP hD hS => ?_)
    have hP : va_P G.1 classes [(h0, O_T f_length a_bytes z1 f_start f_number f_at), (a_bytes, aI G 500 g_bytes)] H := hP
    have hD : va_D A [(h0, O_T f_length a_bytes z1 f_start f_number f_at), (a_bytes, aI G 500 g_bytes)] := hD
    cases hf
    exact hret 113 ls H locs hP hS d_T_readWord_113
  have hJ39 : ∀ (f_kind : Int32) (f_at : Int32) (H : Heap) (locs : List Loc) (ls : Array Slot), PDS G.1 classes A s [(h0, O_T f_length a_bytes f_kind f_start f_number f_at), (a_bytes, aI G 500 g_bytes)] H locs → lv_has ls 1 [(0, .ref h0)] → T_readWord_39 N f_length f_kind f_start f_at g_bytes = some res → W p l e (rmk 6) s m args below meth c H locs 0 0 Q (F0 m 39 ls []) := by
    intro f_kind f_at H locs ls wq hl hf
    obtain ⟨hP, hD, hS⟩ := wq
    refine lv_aload_n hx hb d_T_readWord_39 rfl (lv_at hl 0 rfl) ?_
    refine va_ldcS hx hb hown (hsk.2.1 0 (by decide)) d_T_readWord_40 ?_
    obtain ⟨t5, hv6, hf⟩ := db_e hf
    refine call_i (isC := [0, 1]) (run_V (As := [.ref (Y.1 0)]) (rest := []) (ci := 10) (q0 := 0) hx hb hml hown htl (c_T_isWord l G Y  h0 a_bytes f_length f_kind f_start f_number f_at g_bytes 0 (by decide) N t5 hv6) mv_T_isWord k_570 (hRk (by decide) (by decide)) hK hsk hS hP hD (isC := [0, 1]) rfl (by decide) rfl rfl rfl hl.1 rfl (lv_room (Nat.le_of_ble_eq_true rfl)) d_T_readWord_42) hP hD hS rfl rfl (fun H locs hP hD hS => ?_)
    have hP : va_P G.1 classes [(h0, O_T f_length a_bytes f_kind f_start f_number f_at), (a_bytes, aI G 500 g_bytes)] H := hP
    have hD : va_D A [(h0, O_T f_length a_bytes f_kind f_start f_number f_at), (a_bytes, aI G 500 g_bytes)] := hD
    refine lv_if_eq (tgt := 57) hx hb d_T_readWord_45 (by decide) (fun c7 => ?_) (fun c7 => ?_)
    · have hf := di_t c7 hf
      refine lv_aload_n hx hb d_T_readWord_57 rfl (lv_at hl 0 rfl) ?_
      refine va_ldcS hx hb hown (hsk.2.1 1 (by decide)) d_T_readWord_58 ?_
      obtain ⟨t8, hv9, hf⟩ := db_e hf
      refine call_i (isC := [0, 1]) (run_V (As := [.ref (Y.1 1)]) (rest := []) (ci := 10) (q0 := 0) hx hb hml hown htl (c_T_isWord l G Y  h0 a_bytes f_length f_kind f_start f_number f_at g_bytes 1 (by decide) N t8 hv9) mv_T_isWord k_570 (hRk (by decide) (by decide)) hK hsk hS hP hD (isC := [0, 1]) rfl (by decide) rfl rfl rfl hl.1 rfl (lv_room (Nat.le_of_ble_eq_true rfl)) d_T_readWord_60) hP hD hS rfl rfl (fun H locs hP hD hS => ?_)
      have hP : va_P G.1 classes [(h0, O_T f_length a_bytes f_kind f_start f_number f_at), (a_bytes, aI G 500 g_bytes)] H := hP
      have hD : va_D A [(h0, O_T f_length a_bytes f_kind f_start f_number f_at), (a_bytes, aI G 500 g_bytes)] := hD
      refine lv_if_eq (tgt := 75) hx hb d_T_readWord_63 (by decide) (fun c10 => ?_) (fun c10 => ?_)
      · have hf := di_t c10 hf
        refine lv_aload_n hx hb d_T_readWord_75 rfl (lv_at hl 0 rfl) ?_
        refine va_ldcS hx hb hown (hsk.2.1 2 (by decide)) d_T_readWord_76 ?_
        obtain ⟨t11, hv12, hf⟩ := db_e hf
        refine call_i (isC := [0, 1]) (run_V (As := [.ref (Y.1 2)]) (rest := []) (ci := 10) (q0 := 0) hx hb hml hown htl (c_T_isWord l G Y  h0 a_bytes f_length f_kind f_start f_number f_at g_bytes 2 (by decide) N t11 hv12) mv_T_isWord k_570 (hRk (by decide) (by decide)) hK hsk hS hP hD (isC := [0, 1]) rfl (by decide) rfl rfl rfl hl.1 rfl (lv_room (Nat.le_of_ble_eq_true rfl)) d_T_readWord_78) hP hD hS rfl rfl (fun H locs hP hD hS => ?_)
        have hP : va_P G.1 classes [(h0, O_T f_length a_bytes f_kind f_start f_number f_at), (a_bytes, aI G 500 g_bytes)] H := hP
        have hD : va_D A [(h0, O_T f_length a_bytes f_kind f_start f_number f_at), (a_bytes, aI G 500 g_bytes)] := hD
        refine lv_if_eq (tgt := 93) hx hb d_T_readWord_81 (by decide) (fun c13 => ?_) (fun c13 => ?_)
        · have hf := di_t c13 hf
          refine lv_aload_n hx hb d_T_readWord_93 rfl (lv_at hl 0 rfl) ?_
          refine lv_aload_n hx hb d_T_readWord_94 rfl (lv_at hl 0 rfl) ?_
          refine va_ldcS hx hb hown (hsk.2.1 3 (by decide)) d_T_readWord_95 ?_
          obtain ⟨t14, hv15, hf⟩ := db_e hf
          refine call_i (isC := [0, 1]) (run_V (As := [.ref (Y.1 3)]) (rest := [.ref h0]) (ci := 10) (q0 := 0) hx hb hml hown htl (c_T_isWord l G Y  h0 a_bytes f_length f_kind f_start f_number f_at g_bytes 3 (by decide) N t14 hv15) mv_T_isWord k_570 (hRk (by decide) (by decide)) hK hsk hS hP hD (isC := [0, 1]) rfl (by decide) rfl rfl rfl hl.1 rfl (lv_room (Nat.le_of_ble_eq_true rfl)) d_T_readWord_97) hP hD hS rfl rfl (fun H locs hP hD hS => ?_)
          have hP : va_P G.1 classes [(h0, O_T f_length a_bytes f_kind f_start f_number f_at), (a_bytes, aI G 500 g_bytes)] H := hP
          have hD : va_D A [(h0, O_T f_length a_bytes f_kind f_start f_number f_at), (a_bytes, aI G 500 g_bytes)] := hD
          refine lv_if_eq (tgt := 108) hx hb d_T_readWord_100 (by decide) (fun c16 => ?_) (fun c16 => ?_)
          · have hf := di_t c16 hf
            refine lv_bipush (v := (10 : Int32)) hx hb d_T_readWord_108 (by decide) ?_
            exact hJ110 f_kind f_at (10 : Int32) H locs ls ⟨hP, hD, hS⟩ (lv_sub hl [] rfl) hf
          · have hf := di_f c16 hf
            refine lv_bipush (v := (9 : Int32)) hx hb d_T_readWord_103 (by decide) ?_
            refine lv_goto (tgt := 110) hx hb d_T_readWord_105 (by decide) ?_
            exact hJ110 f_kind f_at (9 : Int32) H locs ls ⟨hP, hD, hS⟩ (lv_sub hl [] rfl) hf
        · have hf := di_f c13 hf
          refine lv_aload_n hx hb d_T_readWord_84 rfl (lv_at hl 0 rfl) ?_
          refine lv_bipush (v := (8 : Int32)) hx hb d_T_readWord_85 (by decide) ?_
          refine va_put (D := G.1) (ci := 10) (v := .int (8 : Int32)) (ty := .int) (C := n_T) (T := T_T) (N := 6) hx hb htl iw_T ty_T ty_T_ok nm_T hown hK hP hD hS 0 rfl rfl 2 (by decide) (htl _ k_219) (fun _ h9 => h9) rfl (by decide +kernel) rfl rfl (Nat.le_of_ble_eq_true rfl) d_T_readWord_87 (fun H locs hP hD hS => ?_)
          have hP : va_P G.1 classes [(h0, O_T f_length a_bytes (8 : Int32) f_start f_number f_at), (a_bytes, aI G 500 g_bytes)] H := hP
          have hD : va_D A [(h0, O_T f_length a_bytes (8 : Int32) f_start f_number f_at), (a_bytes, aI G 500 g_bytes)] := hD
          refine lv_goto (tgt := 113) hx hb d_T_readWord_90 (by decide) ?_
          cases hf
          exact hret 113 ls H locs hP hS d_T_readWord_113
      · have hf := di_f c10 hf
        refine lv_aload_n hx hb d_T_readWord_66 rfl (lv_at hl 0 rfl) ?_
        refine lv_bipush (v := (7 : Int32)) hx hb d_T_readWord_67 (by decide) ?_
        refine va_put (D := G.1) (ci := 10) (v := .int (7 : Int32)) (ty := .int) (C := n_T) (T := T_T) (N := 6) hx hb htl iw_T ty_T ty_T_ok nm_T hown hK hP hD hS 0 rfl rfl 2 (by decide) (htl _ k_219) (fun _ h9 => h9) rfl (by decide +kernel) rfl rfl (Nat.le_of_ble_eq_true rfl) d_T_readWord_69 (fun H locs hP hD hS => ?_)
        have hP : va_P G.1 classes [(h0, O_T f_length a_bytes (7 : Int32) f_start f_number f_at), (a_bytes, aI G 500 g_bytes)] H := hP
        have hD : va_D A [(h0, O_T f_length a_bytes (7 : Int32) f_start f_number f_at), (a_bytes, aI G 500 g_bytes)] := hD
        refine lv_goto (tgt := 113) hx hb d_T_readWord_72 (by decide) ?_
        cases hf
        exact hret 113 ls H locs hP hS d_T_readWord_113
    · have hf := di_f c7 hf
      refine lv_aload_n hx hb d_T_readWord_48 rfl (lv_at hl 0 rfl) ?_
      refine lv_bipush (v := (6 : Int32)) hx hb d_T_readWord_49 (by decide) ?_
      refine va_put (D := G.1) (ci := 10) (v := .int (6 : Int32)) (ty := .int) (C := n_T) (T := T_T) (N := 6) hx hb htl iw_T ty_T ty_T_ok nm_T hown hK hP hD hS 0 rfl rfl 2 (by decide) (htl _ k_219) (fun _ h9 => h9) rfl (by decide +kernel) rfl rfl (Nat.le_of_ble_eq_true rfl) d_T_readWord_51 (fun H locs hP hD hS => ?_)
      have hP : va_P G.1 classes [(h0, O_T f_length a_bytes (6 : Int32) f_start f_number f_at), (a_bytes, aI G 500 g_bytes)] H := hP
      have hD : va_D A [(h0, O_T f_length a_bytes (6 : Int32) f_start f_number f_at), (a_bytes, aI G 500 g_bytes)] := hD
      refine lv_goto (tgt := 113) hx hb d_T_readWord_54 (by decide) ?_
      cases hf
      exact hret 113 ls H locs hP hS d_T_readWord_113
  have hJ0 : ∀ (f_kind : Int32) (f_at : Int32) (H : Heap) (locs : List Loc) (ls : Array Slot), PDS G.1 classes A s [(h0, O_T f_length a_bytes f_kind f_start f_number f_at), (a_bytes, aI G 500 g_bytes)] H locs → lv_has ls 1 [(0, .ref h0)] → T_readWord_0 N f_length f_kind f_start f_at g_bytes = some res → W p l e (rmk 6) s m args below meth c H locs 0 0 Q (F0 m 0 ls []) := by
    intro f_kind f_at H locs ls wq hl hf
    obtain ⟨hP, hD, hS⟩ := wq
    obtain ⟨y0, hy0, hfo0⟩ := db_e hf
    have hL0 : ∀ (n : Nat) (f_at : Int32) (H : Heap) (locs : List Loc) (ls : Array Slot), lp (fun x => T_readWord_b0 N f_length f_kind f_start x g_bytes) n f_at = some y0 → PDS G.1 classes A s [(h0, O_T f_length a_bytes f_kind f_start f_number f_at), (a_bytes, aI G 500 g_bytes)] H locs → lv_has ls 1 [(0, .ref h0)] → W p l e (rmk 6) s m args below meth c H locs 0 0 Q (F0 m 0 ls []) := by
      intro n
      induction n with
      | zero =>
        intro f_at H locs ls hf
        exact lp_0 hf
      | succ n ih0 =>
        intro f_at H locs ls hf wq hl
        obtain ⟨hP, hD, hS⟩ := wq
        obtain ⟨r0, hf, hk0⟩ := lp_s hf
        have hf : T_readWord_b0 N f_length f_kind f_start f_at g_bytes = some r0 := hf
        refine lv_aload_n hx hb d_T_readWord_0 rfl (lv_at hl 0 rfl) ?_
        refine va_get (D := G.1) (ci := 10) (v := .int f_at) (C := n_T) (T := T_T) (N := 6) hx hb htl iw_T hown hK hP 0 rfl rfl 5 (by decide) (htl _ k_226) (fun _ h9 => h9) rfl d_T_readWord_1 ?_
        refine lv_aload_n hx hb d_T_readWord_4 rfl (lv_at hl 0 rfl) ?_
        refine va_get (D := G.1) (ci := 10) (v := .int f_length) (C := n_T) (T := T_T) (N := 6) hx hb htl iw_T hown hK hP 0 rfl rfl 0 (by decide) (htl _ k_214) (fun _ h9 => h9) rfl d_T_readWord_5 ?_
        refine lv_icmp_ge (tgt := 39) hx hb d_T_readWord_8 (by decide) (fun c1 => ?_) (fun c1 => ?_)
        · have hf := di_t c1 hf
          have hq0 := lpk_x hf hk0
          have hf := ex_y (f := fun y => T_readWord_a0 N f_length f_kind f_start g_bytes y) hq0 hfo0
          have hf : T_readWord_39 N f_length f_kind f_start f_at g_bytes = some res := hf
          exact hJ39 f_kind f_at H locs ls ⟨hP, hD, hS⟩ (lv_sub hl [0] rfl) hf
        · have hf := di_f c1 hf
          refine lv_aload_n hx hb d_T_readWord_11 rfl (lv_at hl 0 rfl) ?_
          refine va_get (D := G.1) (ci := 10) (v := .ref a_bytes) (C := n_T) (T := T_T) (N := 6) hx hb htl iw_T hown hK hP 0 rfl rfl 1 (by decide) (htl _ k_216) (fun _ h9 => h9) rfl d_T_readWord_12 ?_
          refine lv_aload_n hx hb d_T_readWord_15 rfl (lv_at hl 0 rfl) ?_
          refine va_get (D := G.1) (ci := 10) (v := .int f_at) (C := n_T) (T := T_T) (N := 6) hx hb htl iw_T hown hK hP 0 rfl rfl 5 (by decide) (htl _ k_226) (fun _ h9 => h9) rfl d_T_readWord_16 ?_
          obtain ⟨c2, hf⟩ := dk_e hf
          refine va_iald hx hb hK hP 1 1 rfl rfl c2 d_T_readWord_19 ?_
          refine call_i (isC := []) (run_S (As := [.int (g_bytes f_at.toNatClampNeg)]) (rest := []) hx hb hml hown htl (c_T_isLetter l G Y  (g_bytes f_at.toNatClampNeg) _ rfl) ms_T_isLetter k_562 (hRk (by decide) (by decide)) hK hsk hS hP hD (isC := []) rfl (by decide) rfl hl.1 rfl (lv_room (Nat.le_of_ble_eq_true rfl)) d_T_readWord_20) hP hD hS rfl rfl (fun H locs hP hD hS => ?_)
          have hP : va_P G.1 classes [(h0, O_T f_length a_bytes f_kind f_start f_number f_at), (a_bytes, aI G 500 g_bytes)] H := hP
          have hD : va_D A [(h0, O_T f_length a_bytes f_kind f_start f_number f_at), (a_bytes, aI G 500 g_bytes)] := hD
          refine lv_if_eq (tgt := 39) hx hb d_T_readWord_23 (by decide) (fun c3 => ?_) (fun c3 => ?_)
          · have hf := di_t c3 hf
            have hq0 := lpk_x hf hk0
            have hf := ex_y (f := fun y => T_readWord_a0 N f_length f_kind f_start g_bytes y) hq0 hfo0
            have hf : T_readWord_39 N f_length f_kind f_start f_at g_bytes = some res := hf
            exact hJ39 f_kind f_at H locs ls ⟨hP, hD, hS⟩ (lv_sub hl [0] rfl) hf
          · have hf := di_f c3 hf
            refine lv_aload_n hx hb d_T_readWord_26 rfl (lv_at hl 0 rfl) ?_
            refine lv_dup hx hb d_T_readWord_27 rfl ?_
            refine va_get (D := G.1) (ci := 10) (v := .int f_at) (C := n_T) (T := T_T) (N := 6) hx hb htl iw_T hown hK hP 0 rfl rfl 5 (by decide) (htl _ k_226) (fun _ h9 => h9) rfl d_T_readWord_28 ?_
            refine lv_iconst (v := (1 : Int32)) hx hb d_T_readWord_31 (by decide) ?_
            refine lv_iadd hx hb d_T_readWord_32 ?_
            refine lv_topi (fun v4 ev4 => ?_)
            have hf := dn_e ev4 hf
            refine va_put (D := G.1) (ci := 10) (v := .int v4) (ty := .int) (C := n_T) (T := T_T) (N := 6) hx hb htl iw_T ty_T ty_T_ok nm_T hown hK hP hD hS 0 rfl rfl 5 (by decide) (htl _ k_226) (fun _ h9 => h9) rfl (by decide +kernel) rfl rfl (Nat.le_of_ble_eq_true rfl) d_T_readWord_33 (fun H locs hP hD hS => ?_)
            have hP : va_P G.1 classes [(h0, O_T f_length a_bytes f_kind f_start f_number v4), (a_bytes, aI G 500 g_bytes)] H := hP
            have hD : va_D A [(h0, O_T f_length a_bytes f_kind f_start f_number v4), (a_bytes, aI G 500 g_bytes)] := hD
            refine lv_goto (tgt := 0) hx hb d_T_readWord_36 (by decide) ?_
            exact ih0 v4 H locs ls (lpk_i hf hk0) ⟨hP, hD, hS⟩ (lv_sub hl [0] rfl)
    exact hL0 N f_at H locs ls hy0 ⟨hP, hD, hS⟩ hl
  exact hJ0 f_kind f_at H locs ls ⟨hP, hD, hS⟩ (lv_sub hl [0] rfl) hf
set_option maxHeartbeats 4000000 in
set_option maxRecDepth 100000 in
theorem c_T_readToken (l : Launch) (G : va_G × (Nat → ClassId)) (Y : (Nat → Nat) × (Nat → Nat)) (h0 : Nat) (a_bytes : Nat) (f_length : Int32) (f_kind : Int32) (f_start : Int32) (f_number : Int32) (f_at : Int32) (g_bytes : Nat → Int32) (N : Nat) (res : Int32 × Int32 × Int32 × Int32) (hf : T_readToken N f_length f_kind f_start f_number f_at g_bytes = some res) : Cv l classes y_T_readToken b_T_readToken 1 none (rmk 7) G.1 (tyL G) Y [.ref h0] [(h0, O_T f_length a_bytes f_kind f_start f_number f_at), (a_bytes, aI G 500 g_bytes)] [(h0, O_T f_length a_bytes res.1 res.2.1 res.2.2.1 res.2.2.2), (a_bytes, aI G 500 g_bytes)] := by
  refine entV (by decide) (Nat.le_of_ble_eq_true rfl) ?_
  intro p e s m args below meth c ls A Q hx hb hml hown htl hK hsk wq hl hret
  obtain ⟨hP, hD, hS⟩ := wq
  have hl : lv_has ls 1 [(0, .ref h0)] := hl
  have hS : va_S A s.heap s.heap [] := hS
  obtain ⟨H, hH⟩ : ∃ H : Heap, H = s.heap := ⟨_, rfl⟩
  obtain ⟨locs, hlocs⟩ : ∃ z : List Loc, z = [] := ⟨_, rfl⟩
  rw [← hH] at hP
  replace hS : va_S A s.heap H locs := by rw [hH, hlocs]; exact hS
  suffices hgo : W p l e (rmk 7) s m args below meth c H locs 0 0 Q (F0 m 0 ls []) by rw [hH, hlocs] at hgo; exact hgo
  have hJ52 : ∀ (f_kind : Int32) (f_start : Int32) (f_number : Int32) (f_at : Int32) (H : Heap) (locs : List Loc) (ls : Array Slot), PDS G.1 classes A s [(h0, O_T f_length a_bytes f_kind f_start f_number f_at), (a_bytes, aI G 500 g_bytes)] H locs → lv_has ls 1 [(0, .ref h0)] → T_readToken_52 N f_length f_kind f_start f_number f_at g_bytes = some res → W p l e (rmk 7) s m args below meth c H locs 0 0 Q (F0 m 52 ls []) := by
    intro f_kind f_start f_number f_at H locs ls wq hl hf
    obtain ⟨hP, hD, hS⟩ := wq
    refine lv_aload_n hx hb d_T_readToken_52 rfl (lv_at hl 0 rfl) ?_
    refine lv_aload_n hx hb d_T_readToken_53 rfl (lv_at hl 0 rfl) ?_
    refine va_get (D := G.1) (ci := 10) (v := .int f_at) (C := n_T) (T := T_T) (N := 6) hx hb htl iw_T hown hK hP 0 rfl rfl 5 (by decide) (htl _ k_226) (fun _ h9 => h9) rfl d_T_readToken_54 ?_
    refine va_put (D := G.1) (ci := 10) (v := .int f_at) (ty := .int) (C := n_T) (T := T_T) (N := 6) hx hb htl iw_T ty_T ty_T_ok nm_T hown hK hP hD hS 0 rfl rfl 3 (by decide) (htl _ k_222) (fun _ h9 => h9) rfl (by decide +kernel) rfl rfl (Nat.le_of_ble_eq_true rfl) d_T_readToken_57 (fun H locs hP hD hS => ?_)
    have hP : va_P G.1 classes [(h0, O_T f_length a_bytes f_kind f_at f_number f_at), (a_bytes, aI G 500 g_bytes)] H := hP
    have hD : va_D A [(h0, O_T f_length a_bytes f_kind f_at f_number f_at), (a_bytes, aI G 500 g_bytes)] := hD
    refine lv_aload_n hx hb d_T_readToken_60 rfl (lv_at hl 0 rfl) ?_
    refine va_get (D := G.1) (ci := 10) (v := .int f_at) (C := n_T) (T := T_T) (N := 6) hx hb htl iw_T hown hK hP 0 rfl rfl 5 (by decide) (htl _ k_226) (fun _ h9 => h9) rfl d_T_readToken_61 ?_
    refine lv_aload_n hx hb d_T_readToken_64 rfl (lv_at hl 0 rfl) ?_
    refine va_get (D := G.1) (ci := 10) (v := .int f_length) (C := n_T) (T := T_T) (N := 6) hx hb htl iw_T hown hK hP 0 rfl rfl 0 (by decide) (htl _ k_214) (fun _ h9 => h9) rfl d_T_readToken_65 ?_
    refine lv_icmp_lt (tgt := 79) hx hb d_T_readToken_68 (by decide) (fun c6 => ?_) (fun c6 => ?_)
    · have hf := di_t c6 hf
      refine lv_aload_n hx hb d_T_readToken_79 rfl (lv_at hl 0 rfl) ?_
      refine va_get (D := G.1) (ci := 10) (v := .ref a_bytes) (C := n_T) (T := T_T) (N := 6) hx hb htl iw_T hown hK hP 0 rfl rfl 1 (by decide) (htl _ k_216) (fun _ h9 => h9) rfl d_T_readToken_80 ?_
      refine lv_aload_n hx hb d_T_readToken_83 rfl (lv_at hl 0 rfl) ?_
      refine va_get (D := G.1) (ci := 10) (v := .int f_at) (C := n_T) (T := T_T) (N := 6) hx hb htl iw_T hown hK hP 0 rfl rfl 5 (by decide) (htl _ k_226) (fun _ h9 => h9) rfl d_T_readToken_84 ?_
      obtain ⟨c7, hf⟩ := dk_e hf
      refine va_iald hx hb hK hP 1 1 rfl rfl c7 d_T_readToken_87 ?_
      refine call_i (isC := []) (run_S (As := [.int (g_bytes f_at.toNatClampNeg)]) (rest := []) hx hb hml hown htl (c_T_isDigit l G Y  (g_bytes f_at.toNatClampNeg) _ rfl) ms_T_isDigit k_555 (hRk (by decide) (by decide)) hK hsk hS hP hD (isC := []) rfl (by decide) rfl hl.1 rfl (lv_room (Nat.le_of_ble_eq_true rfl)) d_T_readToken_88) hP hD hS rfl rfl (fun H locs hP hD hS => ?_)
      have hP : va_P G.1 classes [(h0, O_T f_length a_bytes f_kind f_at f_number f_at), (a_bytes, aI G 500 g_bytes)] H := hP
      have hD : va_D A [(h0, O_T f_length a_bytes f_kind f_at f_number f_at), (a_bytes, aI G 500 g_bytes)] := hD
      refine lv_if_eq (tgt := 101) hx hb d_T_readToken_91 (by decide) (fun c8 => ?_) (fun c8 => ?_)
      · have hf := di_t c8 hf
        refine lv_aload_n hx hb d_T_readToken_101 rfl (lv_at hl 0 rfl) ?_
        refine va_get (D := G.1) (ci := 10) (v := .ref a_bytes) (C := n_T) (T := T_T) (N := 6) hx hb htl iw_T hown hK hP 0 rfl rfl 1 (by decide) (htl _ k_216) (fun _ h9 => h9) rfl d_T_readToken_102 ?_
        refine lv_aload_n hx hb d_T_readToken_105 rfl (lv_at hl 0 rfl) ?_
        refine va_get (D := G.1) (ci := 10) (v := .int f_at) (C := n_T) (T := T_T) (N := 6) hx hb htl iw_T hown hK hP 0 rfl rfl 5 (by decide) (htl _ k_226) (fun _ h9 => h9) rfl d_T_readToken_106 ?_
        refine va_iald hx hb hK hP 1 1 rfl rfl c7 d_T_readToken_109 ?_
        refine call_i (isC := []) (run_S (As := [.int (g_bytes f_at.toNatClampNeg)]) (rest := []) hx hb hml hown htl (c_T_isLetter l G Y  (g_bytes f_at.toNatClampNeg) _ rfl) ms_T_isLetter k_562 (hRk (by decide) (by decide)) hK hsk hS hP hD (isC := []) rfl (by decide) rfl hl.1 rfl (lv_room (Nat.le_of_ble_eq_true rfl)) d_T_readToken_110) hP hD hS rfl rfl (fun H locs hP hD hS => ?_)
        have hP : va_P G.1 classes [(h0, O_T f_length a_bytes f_kind f_at f_number f_at), (a_bytes, aI G 500 g_bytes)] H := hP
        have hD : va_D A [(h0, O_T f_length a_bytes f_kind f_at f_number f_at), (a_bytes, aI G 500 g_bytes)] := hD
        refine lv_if_eq (tgt := 123) hx hb d_T_readToken_113 (by decide) (fun c9 => ?_) (fun c9 => ?_)
        · have hf := di_t c9 hf
          refine lv_aload_n hx hb d_T_readToken_123 rfl (lv_at hl 0 rfl) ?_
          refine lv_aload_n hx hb d_T_readToken_124 rfl (lv_at hl 0 rfl) ?_
          refine va_get (D := G.1) (ci := 10) (v := .ref a_bytes) (C := n_T) (T := T_T) (N := 6) hx hb htl iw_T hown hK hP 0 rfl rfl 1 (by decide) (htl _ k_216) (fun _ h9 => h9) rfl d_T_readToken_125 ?_
          refine lv_aload_n hx hb d_T_readToken_128 rfl (lv_at hl 0 rfl) ?_
          refine va_get (D := G.1) (ci := 10) (v := .int f_at) (C := n_T) (T := T_T) (N := 6) hx hb htl iw_T hown hK hP 0 rfl rfl 5 (by decide) (htl _ k_226) (fun _ h9 => h9) rfl d_T_readToken_129 ?_
          refine va_iald hx hb hK hP 1 1 rfl rfl c7 d_T_readToken_132 ?_
          refine call_i (isC := []) (run_S (As := [.int (g_bytes f_at.toNatClampNeg)]) (rest := [.ref h0]) hx hb hml hown htl (c_T_signKind l G Y  (g_bytes f_at.toNatClampNeg) _ rfl) ms_T_signKind k_625 (hRk (by decide) (by decide)) hK hsk hS hP hD (isC := []) rfl (by decide) rfl hl.1 rfl (lv_room (Nat.le_of_ble_eq_true rfl)) d_T_readToken_133) hP hD hS rfl rfl (fun H locs hP hD hS => ?_)
          have hP : va_P G.1 classes [(h0, O_T f_length a_bytes f_kind f_at f_number f_at), (a_bytes, aI G 500 g_bytes)] H := hP
          have hD : va_D A [(h0, O_T f_length a_bytes f_kind f_at f_number f_at), (a_bytes, aI G 500 g_bytes)] := hD
          refine lv_topi (fun v10 ev10 => ?_)
          have hf := dn_e ev10 hf
          refine va_put (D := G.1) (ci := 10) (v := .int v10) (ty := .int) (C := n_T) (T := T_T) (N := 6) hx hb htl iw_T ty_T ty_T_ok nm_T hown hK hP hD hS 0 rfl rfl 2 (by decide) (htl _ k_219) (fun _ h9 => h9) rfl (by decide +kernel) rfl rfl (Nat.le_of_ble_eq_true rfl) d_T_readToken_136 (fun H locs hP hD hS => ?_)
          have hP : va_P G.1 classes [(h0, O_T f_length a_bytes v10 f_at f_number f_at), (a_bytes, aI G 500 g_bytes)] H := hP
          have hD : va_D A [(h0, O_T f_length a_bytes v10 f_at f_number f_at), (a_bytes, aI G 500 g_bytes)] := hD
          refine lv_aload_n hx hb d_T_readToken_139 rfl (lv_at hl 0 rfl) ?_
          refine lv_dup hx hb d_T_readToken_140 rfl ?_
          refine va_get (D := G.1) (ci := 10) (v := .int f_at) (C := n_T) (T := T_T) (N := 6) hx hb htl iw_T hown hK hP 0 rfl rfl 5 (by decide) (htl _ k_226) (fun _ h9 => h9) rfl d_T_readToken_141 ?_
          refine lv_iconst (v := (1 : Int32)) hx hb d_T_readToken_144 (by decide) ?_
          refine lv_iadd hx hb d_T_readToken_145 ?_
          refine lv_topi (fun v11 ev11 => ?_)
          have hf := dn_e ev11 hf
          refine va_put (D := G.1) (ci := 10) (v := .int v11) (ty := .int) (C := n_T) (T := T_T) (N := 6) hx hb htl iw_T ty_T ty_T_ok nm_T hown hK hP hD hS 0 rfl rfl 5 (by decide) (htl _ k_226) (fun _ h9 => h9) rfl (by decide +kernel) rfl rfl (Nat.le_of_ble_eq_true rfl) d_T_readToken_146 (fun H locs hP hD hS => ?_)
          have hP : va_P G.1 classes [(h0, O_T f_length a_bytes v10 f_at f_number v11), (a_bytes, aI G 500 g_bytes)] H := hP
          have hD : va_D A [(h0, O_T f_length a_bytes v10 f_at f_number v11), (a_bytes, aI G 500 g_bytes)] := hD
          cases hf
          exact hret 149 ls H locs hP hS d_T_readToken_149
        · have hf := di_f c9 hf
          refine lv_aload_n hx hb d_T_readToken_116 rfl (lv_at hl 0 rfl) ?_
          obtain ⟨t12, hv13, hf⟩ := db_e hf
          refine call_v (isC := [0, 1]) (run_V (As := []) (rest := []) (ci := 10) (q0 := 0) hx hb hml hown htl (c_T_readWord l G Y  h0 a_bytes f_length f_kind f_at f_number f_at g_bytes N t12 hv13) mv_T_readWord k_565 (hRk (by decide) (by decide)) hK hsk hS hP hD (isC := [0, 1]) rfl (by decide) rfl rfl rfl hl.1 rfl (lv_room (Nat.le_of_ble_eq_true rfl)) d_T_readToken_117) hP hD hS rfl rfl (fun H locs hP hD hS => ?_)
          have hP : va_P G.1 classes [(h0, O_T f_length a_bytes t12.1 f_at f_number t12.2), (a_bytes, aI G 500 g_bytes)] H := hP
          have hD : va_D A [(h0, O_T f_length a_bytes t12.1 f_at f_number t12.2), (a_bytes, aI G 500 g_bytes)] := hD
          refine lv_goto (tgt := 149) hx hb d_T_readToken_120 (by decide) ?_
          cases hf
          exact hret 149 ls H locs hP hS d_T_readToken_149
      · have hf := di_f c8 hf
        refine lv_aload_n hx hb d_T_readToken_94 rfl (lv_at hl 0 rfl) ?_
        obtain ⟨t14, hv15, hf⟩ := db_e hf
        refine call_v (isC := [0, 1]) (run_V (As := []) (rest := []) (ci := 10) (q0 := 0) hx hb hml hown htl (c_T_readNumber l G Y  h0 a_bytes f_length f_kind f_at f_number f_at g_bytes N t14 hv15) mv_T_readNumber k_558 (hRk (by decide) (by decide)) hK hsk hS hP hD (isC := [0, 1]) rfl (by decide) rfl rfl rfl hl.1 rfl (lv_room (Nat.le_of_ble_eq_true rfl)) d_T_readToken_95) hP hD hS rfl rfl (fun H locs hP hD hS => ?_)
        have hP : va_P G.1 classes [(h0, O_T f_length a_bytes t14.1 f_at t14.2.1 t14.2.2), (a_bytes, aI G 500 g_bytes)] H := hP
        have hD : va_D A [(h0, O_T f_length a_bytes t14.1 f_at t14.2.1 t14.2.2), (a_bytes, aI G 500 g_bytes)] := hD
        refine lv_goto (tgt := 149) hx hb d_T_readToken_98 (by decide) ?_
        cases hf
        exact hret 149 ls H locs hP hS d_T_readToken_149
    · have hf := di_f c6 hf
      refine lv_aload_n hx hb d_T_readToken_71 rfl (lv_at hl 0 rfl) ?_
      refine lv_iconst (v := (0 : Int32)) hx hb d_T_readToken_72 (by decide) ?_
      refine va_put (D := G.1) (ci := 10) (v := .int (0 : Int32)) (ty := .int) (C := n_T) (T := T_T) (N := 6) hx hb htl iw_T ty_T ty_T_ok nm_T hown hK hP hD hS 0 rfl rfl 2 (by decide) (htl _ k_219) (fun _ h9 => h9) rfl (by decide +kernel) rfl rfl (Nat.le_of_ble_eq_true rfl) d_T_readToken_73 (fun H locs hP hD hS => ?_)
      have hP : va_P G.1 classes [(h0, O_T f_length a_bytes (0 : Int32) f_at f_number f_at), (a_bytes, aI G 500 g_bytes)] H := hP
      have hD : va_D A [(h0, O_T f_length a_bytes (0 : Int32) f_at f_number f_at), (a_bytes, aI G 500 g_bytes)] := hD
      refine lv_goto (tgt := 149) hx hb d_T_readToken_76 (by decide) ?_
      cases hf
      exact hret 149 ls H locs hP hS d_T_readToken_149
  have hJ0 : ∀ (f_kind : Int32) (f_start : Int32) (f_number : Int32) (f_at : Int32) (H : Heap) (locs : List Loc) (ls : Array Slot), PDS G.1 classes A s [(h0, O_T f_length a_bytes f_kind f_start f_number f_at), (a_bytes, aI G 500 g_bytes)] H locs → lv_has ls 1 [(0, .ref h0)] → T_readToken_0 N f_length f_kind f_start f_number f_at g_bytes = some res → W p l e (rmk 7) s m args below meth c H locs 0 0 Q (F0 m 0 ls []) := by
    intro f_kind f_start f_number f_at H locs ls wq hl hf
    obtain ⟨hP, hD, hS⟩ := wq
    obtain ⟨y0, hy0, hfo0⟩ := db_e hf
    have hL0 : ∀ (n : Nat) (f_at : Int32) (H : Heap) (locs : List Loc) (ls : Array Slot), lp (fun x => T_readToken_b0 N f_length f_kind f_start f_number x g_bytes) n f_at = some y0 → PDS G.1 classes A s [(h0, O_T f_length a_bytes f_kind f_start f_number f_at), (a_bytes, aI G 500 g_bytes)] H locs → lv_has ls 1 [(0, .ref h0)] → W p l e (rmk 7) s m args below meth c H locs 0 0 Q (F0 m 0 ls []) := by
      intro n
      induction n with
      | zero =>
        intro f_at H locs ls hf
        exact lp_0 hf
      | succ n ih0 =>
        intro f_at H locs ls hf wq hl
        obtain ⟨hP, hD, hS⟩ := wq
        obtain ⟨r0, hf, hk0⟩ := lp_s hf
        have hf : T_readToken_b0 N f_length f_kind f_start f_number f_at g_bytes = some r0 := hf
        have hJ39 : ∀ (f_at : Int32) (H : Heap) (locs : List Loc) (ls : Array Slot), PDS G.1 classes A s [(h0, O_T f_length a_bytes f_kind f_start f_number f_at), (a_bytes, aI G 500 g_bytes)] H locs → lv_has ls 1 [(0, .ref h0)] → T_readToken_39 N f_length f_kind f_start f_number f_at g_bytes = some r0 → W p l e (rmk 7) s m args below meth c H locs 0 0 Q (F0 m 39 ls []) := by
          intro f_at H locs ls wq hl hf
          obtain ⟨hP, hD, hS⟩ := wq
          refine lv_aload_n hx hb d_T_readToken_39 rfl (lv_at hl 0 rfl) ?_
          refine lv_dup hx hb d_T_readToken_40 rfl ?_
          refine va_get (D := G.1) (ci := 10) (v := .int f_at) (C := n_T) (T := T_T) (N := 6) hx hb htl iw_T hown hK hP 0 rfl rfl 5 (by decide) (htl _ k_226) (fun _ h9 => h9) rfl d_T_readToken_41 ?_
          refine lv_iconst (v := (1 : Int32)) hx hb d_T_readToken_44 (by decide) ?_
          refine lv_iadd hx hb d_T_readToken_45 ?_
          refine lv_topi (fun v5 ev5 => ?_)
          have hf := dn_e ev5 hf
          refine va_put (D := G.1) (ci := 10) (v := .int v5) (ty := .int) (C := n_T) (T := T_T) (N := 6) hx hb htl iw_T ty_T ty_T_ok nm_T hown hK hP hD hS 0 rfl rfl 5 (by decide) (htl _ k_226) (fun _ h9 => h9) rfl (by decide +kernel) rfl rfl (Nat.le_of_ble_eq_true rfl) d_T_readToken_46 (fun H locs hP hD hS => ?_)
          have hP : va_P G.1 classes [(h0, O_T f_length a_bytes f_kind f_start f_number v5), (a_bytes, aI G 500 g_bytes)] H := hP
          have hD : va_D A [(h0, O_T f_length a_bytes f_kind f_start f_number v5), (a_bytes, aI G 500 g_bytes)] := hD
          refine lv_goto (tgt := 0) hx hb d_T_readToken_49 (by decide) ?_
          exact ih0 v5 H locs ls (lpk_i hf hk0) ⟨hP, hD, hS⟩ (lv_sub hl [0] rfl)
        refine lv_aload_n hx hb d_T_readToken_0 rfl (lv_at hl 0 rfl) ?_
        refine va_get (D := G.1) (ci := 10) (v := .int f_at) (C := n_T) (T := T_T) (N := 6) hx hb htl iw_T hown hK hP 0 rfl rfl 5 (by decide) (htl _ k_226) (fun _ h9 => h9) rfl d_T_readToken_1 ?_
        refine lv_aload_n hx hb d_T_readToken_4 rfl (lv_at hl 0 rfl) ?_
        refine va_get (D := G.1) (ci := 10) (v := .int f_length) (C := n_T) (T := T_T) (N := 6) hx hb htl iw_T hown hK hP 0 rfl rfl 0 (by decide) (htl _ k_214) (fun _ h9 => h9) rfl d_T_readToken_5 ?_
        refine lv_icmp_ge (tgt := 52) hx hb d_T_readToken_8 (by decide) (fun c1 => ?_) (fun c1 => ?_)
        · have hf := di_t c1 hf
          have hq0 := lpk_x hf hk0
          have hf := ex_y (f := fun y => T_readToken_a0 N f_length f_kind f_start f_number g_bytes y) hq0 hfo0
          have hf : T_readToken_52 N f_length f_kind f_start f_number f_at g_bytes = some res := hf
          exact hJ52 f_kind f_start f_number f_at H locs ls ⟨hP, hD, hS⟩ (lv_sub hl [0] rfl) hf
        · have hf := di_f c1 hf
          refine lv_aload_n hx hb d_T_readToken_11 rfl (lv_at hl 0 rfl) ?_
          refine va_get (D := G.1) (ci := 10) (v := .ref a_bytes) (C := n_T) (T := T_T) (N := 6) hx hb htl iw_T hown hK hP 0 rfl rfl 1 (by decide) (htl _ k_216) (fun _ h9 => h9) rfl d_T_readToken_12 ?_
          refine lv_aload_n hx hb d_T_readToken_15 rfl (lv_at hl 0 rfl) ?_
          refine va_get (D := G.1) (ci := 10) (v := .int f_at) (C := n_T) (T := T_T) (N := 6) hx hb htl iw_T hown hK hP 0 rfl rfl 5 (by decide) (htl _ k_226) (fun _ h9 => h9) rfl d_T_readToken_16 ?_
          obtain ⟨c2, hf⟩ := dk_e hf
          refine va_iald hx hb hK hP 1 1 rfl rfl c2 d_T_readToken_19 ?_
          refine lv_bipush (v := (32 : Int32)) hx hb d_T_readToken_20 (by decide) ?_
          refine lv_icmp_eq (tgt := 39) hx hb d_T_readToken_22 (by decide) (fun c3 => ?_) (fun c3 => ?_)
          · have hf := di_t c3 hf
            exact hJ39 f_at H locs ls ⟨hP, hD, hS⟩ (lv_sub hl [0] rfl) hf
          · have hf := di_f c3 hf
            refine lv_aload_n hx hb d_T_readToken_25 rfl (lv_at hl 0 rfl) ?_
            refine va_get (D := G.1) (ci := 10) (v := .ref a_bytes) (C := n_T) (T := T_T) (N := 6) hx hb htl iw_T hown hK hP 0 rfl rfl 1 (by decide) (htl _ k_216) (fun _ h9 => h9) rfl d_T_readToken_26 ?_
            refine lv_aload_n hx hb d_T_readToken_29 rfl (lv_at hl 0 rfl) ?_
            refine va_get (D := G.1) (ci := 10) (v := .int f_at) (C := n_T) (T := T_T) (N := 6) hx hb htl iw_T hown hK hP 0 rfl rfl 5 (by decide) (htl _ k_226) (fun _ h9 => h9) rfl d_T_readToken_30 ?_
            refine va_iald hx hb hK hP 1 1 rfl rfl c2 d_T_readToken_33 ?_
            refine lv_bipush (v := (10 : Int32)) hx hb d_T_readToken_34 (by decide) ?_
            refine lv_icmp_ne (tgt := 52) hx hb d_T_readToken_36 (by decide) (fun c4 => ?_) (fun c4 => ?_)
            · have hf := di_f c4 hf
              have hq0 := lpk_x hf hk0
              have hf := ex_y (f := fun y => T_readToken_a0 N f_length f_kind f_start f_number g_bytes y) hq0 hfo0
              have hf : T_readToken_52 N f_length f_kind f_start f_number f_at g_bytes = some res := hf
              exact hJ52 f_kind f_start f_number f_at H locs ls ⟨hP, hD, hS⟩ (lv_sub hl [0] rfl) hf
            · have hf := di_t c4 hf
              exact hJ39 f_at H locs ls ⟨hP, hD, hS⟩ (lv_sub hl [0] rfl) hf
    exact hL0 N f_at H locs ls hy0 ⟨hP, hD, hS⟩ hl
  exact hJ0 f_kind f_start f_number f_at H locs ls ⟨hP, hD, hS⟩ (lv_sub hl [0] rfl) hf
set_option maxHeartbeats 4000000 in
set_option maxRecDepth 100000 in
theorem c_Q_read (l : Launch) (G : va_G × (Nat → ClassId)) (Y : (Nat → Nat) × (Nat → Nat)) (h0 : Nat) (a_p1 : Nat) (a_p1_bytes : Nat) (a_graph : Nat) (a_graph_rows : Nat) (a_graph_left : Nat) (a_graph_right : Nat) (a_graph_by : Nat) (f_p1_length : Int32) (f_p1_kind : Int32) (f_p1_start : Int32) (f_p1_number : Int32) (f_p1_at : Int32) (f_fault : Int32) (f_place : Int32) (f_awaited : Int32) (f_left : Int32) (f_right : Int32) (g_p1_bytes : Nat → Int32) (f_graph_relations : Int32) (f_graph_edges : Int32) (f_graph_limit : Int32) (g_graph_by : Nat → Int32) (g_graph_left : Nat → Int32) (g_graph_right : Nat → Int32) (g_graph_rows : Nat → Int32) (N : Nat) (res : Int32 × Int32 × Int32 × Int32 × Int32 × Int32 × Int32 × Int32 × Int32 × Int32 × Int32 × Int32 × (Nat → Int32) × (Nat → Int32) × (Nat → Int32) × (Nat → Int32)) (hf : Q_read N f_p1_length f_p1_kind f_p1_start f_p1_number f_p1_at f_fault f_place f_awaited f_left f_right g_p1_bytes f_graph_relations f_graph_edges f_graph_limit g_graph_by g_graph_left g_graph_right g_graph_rows = some res) : Cv l classes y_E_read b_E_read 3 none (rmk 8) G.1 (tyL G) Y [.ref h0, .ref a_p1] [(a_p1, O_T f_p1_length a_p1_bytes f_p1_kind f_p1_start f_p1_number f_p1_at), (h0, O_Q f_fault f_place a_graph f_awaited f_left f_right), (a_p1_bytes, aI G 500 g_p1_bytes), (a_graph, O_G f_graph_relations f_graph_edges f_graph_limit a_graph_rows a_graph_left a_graph_right a_graph_by), (a_graph_by, aI G 16 g_graph_by), (a_graph_left, aI G 16 g_graph_left), (a_graph_right, aI G 16 g_graph_right), (a_graph_rows, aI G 8 g_graph_rows)] [(a_p1, O_T f_p1_length a_p1_bytes res.1 res.2.1 res.2.2.1 res.2.2.2.1), (h0, O_Q res.2.2.2.2.1 res.2.2.2.2.2.1 a_graph res.2.2.2.2.2.2.1 res.2.2.2.2.2.2.2.1 res.2.2.2.2.2.2.2.2.1), (a_p1_bytes, aI G 500 g_p1_bytes), (a_graph, O_G res.2.2.2.2.2.2.2.2.2.1 res.2.2.2.2.2.2.2.2.2.2.1 res.2.2.2.2.2.2.2.2.2.2.2.1 a_graph_rows a_graph_left a_graph_right a_graph_by), (a_graph_by, aI G 16 res.2.2.2.2.2.2.2.2.2.2.2.2.1), (a_graph_left, aI G 16 res.2.2.2.2.2.2.2.2.2.2.2.2.2.1), (a_graph_right, aI G 16 res.2.2.2.2.2.2.2.2.2.2.2.2.2.2.1), (a_graph_rows, aI G 8 res.2.2.2.2.2.2.2.2.2.2.2.2.2.2.2)] := by
  refine entV (by decide) (Nat.le_of_ble_eq_true rfl) ?_
  intro p e s m args below meth c ls A Q hx hb hml hown htl hK hsk wq hl hret
  obtain ⟨hP, hD, hS⟩ := wq
  have hl : lv_has ls 3 [(0, .ref h0), (1, .ref a_p1)] := hl
  have hS : va_S A s.heap s.heap [] := hS
  obtain ⟨H, hH⟩ : ∃ H : Heap, H = s.heap := ⟨_, rfl⟩
  obtain ⟨locs, hlocs⟩ : ∃ z : List Loc, z = [] := ⟨_, rfl⟩
  rw [← hH] at hP
  replace hS : va_S A s.heap H locs := by rw [hH, hlocs]; exact hS
  suffices hgo : W p l e (rmk 8) s m args below meth c H locs 0 0 Q (F0 m 0 ls []) by rw [hH, hlocs] at hgo; exact hgo
  have hJ113 : ∀ (f_p1_kind : Int32) (f_p1_start : Int32) (f_p1_number : Int32) (f_p1_at : Int32) (f_fault : Int32) (f_place : Int32) (f_awaited : Int32) (f_left : Int32) (f_right : Int32) (f_graph_relations : Int32) (f_graph_edges : Int32) (f_graph_limit : Int32) (g_graph_by : Nat → Int32) (g_graph_left : Nat → Int32) (g_graph_right : Nat → Int32) (g_graph_rows : Nat → Int32) (H : Heap) (locs : List Loc) (ls : Array Slot), PDS G.1 classes A s [(a_p1, O_T f_p1_length a_p1_bytes f_p1_kind f_p1_start f_p1_number f_p1_at), (h0, O_Q f_fault f_place a_graph f_awaited f_left f_right), (a_p1_bytes, aI G 500 g_p1_bytes), (a_graph, O_G f_graph_relations f_graph_edges f_graph_limit a_graph_rows a_graph_left a_graph_right a_graph_by), (a_graph_by, aI G 16 g_graph_by), (a_graph_left, aI G 16 g_graph_left), (a_graph_right, aI G 16 g_graph_right), (a_graph_rows, aI G 8 g_graph_rows)] H locs → lv_has ls 3 [] → Q_read_113 N f_p1_length f_p1_kind f_p1_start f_p1_number f_p1_at f_fault f_place f_awaited f_left f_right g_p1_bytes f_graph_relations f_graph_edges f_graph_limit g_graph_by g_graph_left g_graph_right g_graph_rows = some res → W p l e (rmk 8) s m args below meth c H locs 0 0 Q (F0 m 113 ls []) := by
    intro f_p1_kind f_p1_start f_p1_number f_p1_at f_fault f_place f_awaited f_left f_right f_graph_relations f_graph_edges f_graph_limit g_graph_by g_graph_left g_graph_right g_graph_rows H locs ls wq hl hf
    obtain ⟨hP, hD, hS⟩ := wq
    cases hf
    exact hret 113 ls H locs hP hS d_E_read_113
  have hJ106 : ∀ (f_p1_kind : Int32) (f_p1_start : Int32) (f_p1_number : Int32) (f_p1_at : Int32) (f_fault : Int32) (f_place : Int32) (f_awaited : Int32) (f_left : Int32) (f_right : Int32) (f_graph_relations : Int32) (f_graph_edges : Int32) (f_graph_limit : Int32) (g_graph_by : Nat → Int32) (g_graph_left : Nat → Int32) (g_graph_right : Nat → Int32) (g_graph_rows : Nat → Int32) (H : Heap) (locs : List Loc) (ls : Array Slot), PDS G.1 classes A s [(a_p1, O_T f_p1_length a_p1_bytes f_p1_kind f_p1_start f_p1_number f_p1_at), (h0, O_Q f_fault f_place a_graph f_awaited f_left f_right), (a_p1_bytes, aI G 500 g_p1_bytes), (a_graph, O_G f_graph_relations f_graph_edges f_graph_limit a_graph_rows a_graph_left a_graph_right a_graph_by), (a_graph_by, aI G 16 g_graph_by), (a_graph_left, aI G 16 g_graph_left), (a_graph_right, aI G 16 g_graph_right), (a_graph_rows, aI G 8 g_graph_rows)] H locs → lv_has ls 3 [] → Q_read_106 N f_p1_length f_p1_kind f_p1_start f_p1_number f_p1_at f_fault f_place f_awaited f_left f_right g_p1_bytes f_graph_relations f_graph_edges f_graph_limit g_graph_by g_graph_left g_graph_right g_graph_rows = some res → W p l e (rmk 8) s m args below meth c H locs 0 0 Q (F0 m 106 ls []) := by
    intro f_p1_kind f_p1_start f_p1_number f_p1_at f_fault f_place f_awaited f_left f_right f_graph_relations f_graph_edges f_graph_limit g_graph_by g_graph_left g_graph_right g_graph_rows H locs ls wq hl hf
    obtain ⟨hP, hD, hS⟩ := wq
    cases hf
    exact hret 106 ls H locs hP hS d_E_read_106
  have hJ42 : ∀ (f_p1_kind : Int32) (f_p1_start : Int32) (f_p1_number : Int32) (f_p1_at : Int32) (f_fault : Int32) (f_place : Int32) (f_awaited : Int32) (f_left : Int32) (f_right : Int32) (f_graph_relations : Int32) (f_graph_edges : Int32) (f_graph_limit : Int32) (g_graph_by : Nat → Int32) (g_graph_left : Nat → Int32) (g_graph_right : Nat → Int32) (g_graph_rows : Nat → Int32) (H : Heap) (locs : List Loc) (ls : Array Slot), PDS G.1 classes A s [(a_p1, O_T f_p1_length a_p1_bytes f_p1_kind f_p1_start f_p1_number f_p1_at), (h0, O_Q f_fault f_place a_graph f_awaited f_left f_right), (a_p1_bytes, aI G 500 g_p1_bytes), (a_graph, O_G f_graph_relations f_graph_edges f_graph_limit a_graph_rows a_graph_left a_graph_right a_graph_by), (a_graph_by, aI G 16 g_graph_by), (a_graph_left, aI G 16 g_graph_left), (a_graph_right, aI G 16 g_graph_right), (a_graph_rows, aI G 8 g_graph_rows)] H locs → lv_has ls 3 [(0, .ref h0), (1, .ref a_p1)] → Q_read_42 N f_p1_length f_p1_kind f_p1_start f_p1_number f_p1_at f_fault f_place f_awaited f_left f_right g_p1_bytes f_graph_relations f_graph_edges f_graph_limit g_graph_by g_graph_left g_graph_right g_graph_rows = some res → W p l e (rmk 8) s m args below meth c H locs 0 0 Q (F0 m 42 ls []) := by
    intro f_p1_kind f_p1_start f_p1_number f_p1_at f_fault f_place f_awaited f_left f_right f_graph_relations f_graph_edges f_graph_limit g_graph_by g_graph_left g_graph_right g_graph_rows H locs ls wq hl hf
    obtain ⟨hP, hD, hS⟩ := wq
    refine lv_aload_n hx hb d_E_read_42 rfl (lv_at hl 0 rfl) ?_
    refine lv_iconst (v := (1 : Int32)) hx hb d_E_read_43 (by decide) ?_
    refine va_put (D := G.1) (ci := 6) (v := .int (1 : Int32)) (ty := .int) (C := n_Q) (T := T_Q) (N := 6) hx hb htl iw_Q ty_Q ty_Q_ok nm_Q hown hK hP hD hS 1 rfl rfl 0 (by decide) (htl _ k_287) (fun _ h9 => h9) rfl (by decide +kernel) rfl rfl (Nat.le_of_ble_eq_true rfl) d_E_read_44 (fun H locs hP hD hS => ?_)
    have hP : va_P G.1 classes [(a_p1, O_T f_p1_length a_p1_bytes f_p1_kind f_p1_start f_p1_number f_p1_at), (h0, O_Q (1 : Int32) f_place a_graph f_awaited f_left f_right), (a_p1_bytes, aI G 500 g_p1_bytes), (a_graph, O_G f_graph_relations f_graph_edges f_graph_limit a_graph_rows a_graph_left a_graph_right a_graph_by), (a_graph_by, aI G 16 g_graph_by), (a_graph_left, aI G 16 g_graph_left), (a_graph_right, aI G 16 g_graph_right), (a_graph_rows, aI G 8 g_graph_rows)] H := hP
    have hD : va_D A [(a_p1, O_T f_p1_length a_p1_bytes f_p1_kind f_p1_start f_p1_number f_p1_at), (h0, O_Q (1 : Int32) f_place a_graph f_awaited f_left f_right), (a_p1_bytes, aI G 500 g_p1_bytes), (a_graph, O_G f_graph_relations f_graph_edges f_graph_limit a_graph_rows a_graph_left a_graph_right a_graph_by), (a_graph_by, aI G 16 g_graph_by), (a_graph_left, aI G 16 g_graph_left), (a_graph_right, aI G 16 g_graph_right), (a_graph_rows, aI G 8 g_graph_rows)] := hD
    refine lv_aload_n hx hb d_E_read_47 rfl (lv_at hl 0 rfl) ?_
    refine lv_aload_n hx hb d_E_read_48 rfl (lv_at hl 1 rfl) ?_
    refine va_get (D := G.1) (ci := 10) (v := .int f_p1_start) (C := n_T) (T := T_T) (N := 6) hx hb htl iw_T hown hK hP 0 rfl rfl 3 (by decide) (htl _ k_221) (fun _ h9 => h9) rfl d_E_read_49 ?_
    refine va_put (D := G.1) (ci := 6) (v := .int f_p1_start) (ty := .int) (C := n_Q) (T := T_Q) (N := 6) hx hb htl iw_Q ty_Q ty_Q_ok nm_Q hown hK hP hD hS 1 rfl rfl 1 (by decide) (htl _ k_289) (fun _ h9 => h9) rfl (by decide +kernel) rfl rfl (Nat.le_of_ble_eq_true rfl) d_E_read_52 (fun H locs hP hD hS => ?_)
    have hP : va_P G.1 classes [(a_p1, O_T f_p1_length a_p1_bytes f_p1_kind f_p1_start f_p1_number f_p1_at), (h0, O_Q (1 : Int32) f_p1_start a_graph f_awaited f_left f_right), (a_p1_bytes, aI G 500 g_p1_bytes), (a_graph, O_G f_graph_relations f_graph_edges f_graph_limit a_graph_rows a_graph_left a_graph_right a_graph_by), (a_graph_by, aI G 16 g_graph_by), (a_graph_left, aI G 16 g_graph_left), (a_graph_right, aI G 16 g_graph_right), (a_graph_rows, aI G 8 g_graph_rows)] H := hP
    have hD : va_D A [(a_p1, O_T f_p1_length a_p1_bytes f_p1_kind f_p1_start f_p1_number f_p1_at), (h0, O_Q (1 : Int32) f_p1_start a_graph f_awaited f_left f_right), (a_p1_bytes, aI G 500 g_p1_bytes), (a_graph, O_G f_graph_relations f_graph_edges f_graph_limit a_graph_rows a_graph_left a_graph_right a_graph_by), (a_graph_by, aI G 16 g_graph_by), (a_graph_left, aI G 16 g_graph_left), (a_graph_right, aI G 16 g_graph_right), (a_graph_rows, aI G 8 g_graph_rows)] := hD
    cases hf
    exact hret 55 ls H locs hP hS d_E_read_55
  have hJ20 : ∀ (f_p1_kind : Int32) (f_p1_start : Int32) (f_p1_number : Int32) (f_p1_at : Int32) (f_fault : Int32) (f_place : Int32) (f_awaited : Int32) (f_left : Int32) (f_right : Int32) (f_graph_relations : Int32) (f_graph_edges : Int32) (f_graph_limit : Int32) (g_graph_by : Nat → Int32) (g_graph_left : Nat → Int32) (g_graph_right : Nat → Int32) (g_graph_rows : Nat → Int32) (x2 : Int32) (H : Heap) (locs : List Loc) (ls : Array Slot), PDS G.1 classes A s [(a_p1, O_T f_p1_length a_p1_bytes f_p1_kind f_p1_start f_p1_number f_p1_at), (h0, O_Q f_fault f_place a_graph f_awaited f_left f_right), (a_p1_bytes, aI G 500 g_p1_bytes), (a_graph, O_G f_graph_relations f_graph_edges f_graph_limit a_graph_rows a_graph_left a_graph_right a_graph_by), (a_graph_by, aI G 16 g_graph_by), (a_graph_left, aI G 16 g_graph_left), (a_graph_right, aI G 16 g_graph_right), (a_graph_rows, aI G 8 g_graph_rows)] H locs → lv_has ls 3 [(0, .ref h0), (1, .ref a_p1), (2, .int x2)] → Q_read_20 N f_p1_length f_p1_kind f_p1_start f_p1_number f_p1_at f_fault f_place f_awaited f_left f_right g_p1_bytes f_graph_relations f_graph_edges f_graph_limit g_graph_by g_graph_left g_graph_right g_graph_rows x2 = some res → W p l e (rmk 8) s m args below meth c H locs 0 0 Q (F0 m 20 ls []) := by
    intro f_p1_kind f_p1_start f_p1_number f_p1_at f_fault f_place f_awaited f_left f_right f_graph_relations f_graph_edges f_graph_limit g_graph_by g_graph_left g_graph_right g_graph_rows x2 H locs ls wq hl hf
    obtain ⟨hP, hD, hS⟩ := wq
    obtain ⟨y20, hy20, hfo20⟩ := db_e hf
    have hL20 : ∀ (n : Nat) (f_p1_kind : Int32) (f_p1_start : Int32) (f_p1_number : Int32) (f_p1_at : Int32) (f_fault : Int32) (f_place : Int32) (f_awaited : Int32) (f_left : Int32) (f_right : Int32) (f_graph_relations : Int32) (f_graph_edges : Int32) (f_graph_limit : Int32) (g_graph_by : Nat → Int32) (g_graph_left : Nat → Int32) (g_graph_right : Nat → Int32) (g_graph_rows : Nat → Int32) (x2 : Int32) (H : Heap) (locs : List Loc) (ls : Array Slot), lp (fun x => Q_read_b20 N f_p1_length x.1 x.2.1 x.2.2.1 x.2.2.2.1 x.2.2.2.2.1 x.2.2.2.2.2.1 x.2.2.2.2.2.2.1 x.2.2.2.2.2.2.2.1 x.2.2.2.2.2.2.2.2.1 g_p1_bytes x.2.2.2.2.2.2.2.2.2.1 x.2.2.2.2.2.2.2.2.2.2.1 x.2.2.2.2.2.2.2.2.2.2.2.1 x.2.2.2.2.2.2.2.2.2.2.2.2.1 x.2.2.2.2.2.2.2.2.2.2.2.2.2.1 x.2.2.2.2.2.2.2.2.2.2.2.2.2.2.1 x.2.2.2.2.2.2.2.2.2.2.2.2.2.2.2.1 x.2.2.2.2.2.2.2.2.2.2.2.2.2.2.2.2) n (f_p1_kind, f_p1_start, f_p1_number, f_p1_at, f_fault, f_place, f_awaited, f_left, f_right, f_graph_relations, f_graph_edges, f_graph_limit, g_graph_by, g_graph_left, g_graph_right, g_graph_rows, x2) = some y20 → PDS G.1 classes A s [(a_p1, O_T f_p1_length a_p1_bytes f_p1_kind f_p1_start f_p1_number f_p1_at), (h0, O_Q f_fault f_place a_graph f_awaited f_left f_right), (a_p1_bytes, aI G 500 g_p1_bytes), (a_graph, O_G f_graph_relations f_graph_edges f_graph_limit a_graph_rows a_graph_left a_graph_right a_graph_by), (a_graph_by, aI G 16 g_graph_by), (a_graph_left, aI G 16 g_graph_left), (a_graph_right, aI G 16 g_graph_right), (a_graph_rows, aI G 8 g_graph_rows)] H locs → lv_has ls 3 [(0, .ref h0), (1, .ref a_p1), (2, .int x2)] → W p l e (rmk 8) s m args below meth c H locs 0 0 Q (F0 m 20 ls []) := by
      intro n
      induction n with
      | zero =>
        intro f_p1_kind f_p1_start f_p1_number f_p1_at f_fault f_place f_awaited f_left f_right f_graph_relations f_graph_edges f_graph_limit g_graph_by g_graph_left g_graph_right g_graph_rows x2 H locs ls hf
        exact lp_0 hf
      | succ n ih20 =>
        intro f_p1_kind f_p1_start f_p1_number f_p1_at f_fault f_place f_awaited f_left f_right f_graph_relations f_graph_edges f_graph_limit g_graph_by g_graph_left g_graph_right g_graph_rows x2 H locs ls hf wq hl
        obtain ⟨hP, hD, hS⟩ := wq
        obtain ⟨r20, hf, hk20⟩ := lp_s hf
        have hf : Q_read_b20 N f_p1_length f_p1_kind f_p1_start f_p1_number f_p1_at f_fault f_place f_awaited f_left f_right g_p1_bytes f_graph_relations f_graph_edges f_graph_limit g_graph_by g_graph_left g_graph_right g_graph_rows x2 = some r20 := hf
        have hJ91 : ∀ (f_p1_kind : Int32) (f_p1_start : Int32) (f_p1_number : Int32) (f_p1_at : Int32) (f_fault : Int32) (f_place : Int32) (f_awaited : Int32) (f_left : Int32) (f_right : Int32) (f_graph_relations : Int32) (f_graph_edges : Int32) (f_graph_limit : Int32) (g_graph_by : Nat → Int32) (g_graph_left : Nat → Int32) (g_graph_right : Nat → Int32) (g_graph_rows : Nat → Int32) (x2 : Int32) (H : Heap) (locs : List Loc) (ls : Array Slot), PDS G.1 classes A s [(a_p1, O_T f_p1_length a_p1_bytes f_p1_kind f_p1_start f_p1_number f_p1_at), (h0, O_Q f_fault f_place a_graph f_awaited f_left f_right), (a_p1_bytes, aI G 500 g_p1_bytes), (a_graph, O_G f_graph_relations f_graph_edges f_graph_limit a_graph_rows a_graph_left a_graph_right a_graph_by), (a_graph_by, aI G 16 g_graph_by), (a_graph_left, aI G 16 g_graph_left), (a_graph_right, aI G 16 g_graph_right), (a_graph_rows, aI G 8 g_graph_rows)] H locs → lv_has ls 3 [(0, .ref h0), (1, .ref a_p1), (2, .int x2)] → Q_read_91 N f_p1_length f_p1_kind f_p1_start f_p1_number f_p1_at f_fault f_place f_awaited f_left f_right g_p1_bytes f_graph_relations f_graph_edges f_graph_limit g_graph_by g_graph_left g_graph_right g_graph_rows x2 = some r20 → W p l e (rmk 8) s m args below meth c H locs 0 0 Q (F0 m 91 ls []) := by
          intro f_p1_kind f_p1_start f_p1_number f_p1_at f_fault f_place f_awaited f_left f_right f_graph_relations f_graph_edges f_graph_limit g_graph_by g_graph_left g_graph_right g_graph_rows x2 H locs ls wq hl hf
          obtain ⟨hP, hD, hS⟩ := wq
          refine lv_aload_n hx hb d_E_read_91 rfl (lv_at hl 0 rfl) ?_
          refine lv_aload_n hx hb d_E_read_92 rfl (lv_at hl 1 rfl) ?_
          refine va_get (D := G.1) (ci := 10) (v := .int f_p1_kind) (C := n_T) (T := T_T) (N := 6) hx hb htl iw_T hown hK hP 0 rfl rfl 2 (by decide) (htl _ k_218) (fun _ h9 => h9) rfl d_E_read_93 ?_
          obtain ⟨t13, hv14, hf⟩ := db_e hf
          refine call_v (isC := [1]) (run_U (As := [.int f_p1_kind]) (rest := []) (ci := 6) (q0 := 1) hx hb hml hown htl (c_Q_pass l G Y  h0 a_graph f_fault f_place f_awaited f_left f_right f_p1_kind t13 hv14) mu_Q_pass k_710 (hRk (by decide) (by decide)) hK hsk hS hP hD (isC := [1]) rfl (by decide) rfl rfl rfl hl.1 rfl (lv_room (Nat.le_of_ble_eq_true rfl)) d_E_read_96) hP hD hS rfl rfl (fun H locs hP hD hS => ?_)
          have hP : va_P G.1 classes [(a_p1, O_T f_p1_length a_p1_bytes f_p1_kind f_p1_start f_p1_number f_p1_at), (h0, O_Q f_fault f_place a_graph t13 f_left f_right), (a_p1_bytes, aI G 500 g_p1_bytes), (a_graph, O_G f_graph_relations f_graph_edges f_graph_limit a_graph_rows a_graph_left a_graph_right a_graph_by), (a_graph_by, aI G 16 g_graph_by), (a_graph_left, aI G 16 g_graph_left), (a_graph_right, aI G 16 g_graph_right), (a_graph_rows, aI G 8 g_graph_rows)] H := hP
          have hD : va_D A [(a_p1, O_T f_p1_length a_p1_bytes f_p1_kind f_p1_start f_p1_number f_p1_at), (h0, O_Q f_fault f_place a_graph t13 f_left f_right), (a_p1_bytes, aI G 500 g_p1_bytes), (a_graph, O_G f_graph_relations f_graph_edges f_graph_limit a_graph_rows a_graph_left a_graph_right a_graph_by), (a_graph_by, aI G 16 g_graph_by), (a_graph_left, aI G 16 g_graph_left), (a_graph_right, aI G 16 g_graph_right), (a_graph_rows, aI G 8 g_graph_rows)] := hD
          refine lv_aload_n hx hb d_E_read_99 rfl (lv_at hl 1 rfl) ?_
          refine va_get (D := G.1) (ci := 10) (v := .int f_p1_kind) (C := n_T) (T := T_T) (N := 6) hx hb htl iw_T hown hK hP 0 rfl rfl 2 (by decide) (htl _ k_218) (fun _ h9 => h9) rfl d_E_read_100 ?_
          refine lv_if_ne (tgt := 107) hx hb d_E_read_103 (by decide) (fun c15 => ?_) (fun c15 => ?_)
          · have hf := di_f c15 hf
            obtain ⟨v16, ev16⟩ : ∃ z : Int32, z = x2 + (1 : Int32) := ⟨_, rfl⟩
            have hf := dn_e ev16 hf
            refine lv_iinc (v := v16) (lv' := [(2, .int v16), (0, .ref h0), (1, .ref a_p1)]) hx hb d_E_read_107 hl (k := 2) rfl (by rw [ev16]; rfl) (by decide) rfl (fun ls hl => ?_)
            refine lv_goto (tgt := 20) hx hb d_E_read_110 (by decide) ?_
            exact ih20 f_p1_kind f_p1_start f_p1_number f_p1_at f_fault f_place t13 f_left f_right f_graph_relations f_graph_edges f_graph_limit g_graph_by g_graph_left g_graph_right g_graph_rows v16 H locs ls (lpk_i hf hk20) ⟨hP, hD, hS⟩ (lv_sub hl [1, 2, 0] rfl)
          · have hf := di_t c15 hf
            have hq20 := lpk_x hf hk20
            have hf := ex_y (f := fun y => Q_read_a20 N f_p1_length g_p1_bytes y) hq20 hfo20
            have hf : Q_read_106 N f_p1_length f_p1_kind f_p1_start f_p1_number f_p1_at f_fault f_place t13 f_left f_right g_p1_bytes f_graph_relations f_graph_edges f_graph_limit g_graph_by g_graph_left g_graph_right g_graph_rows = some res := hf
            exact hJ106 f_p1_kind f_p1_start f_p1_number f_p1_at f_fault f_place t13 f_left f_right f_graph_relations f_graph_edges f_graph_limit g_graph_by g_graph_left g_graph_right g_graph_rows H locs ls ⟨hP, hD, hS⟩ (lv_sub hl [] rfl) hf
        have hJ88 : ∀ (f_p1_kind : Int32) (f_p1_start : Int32) (f_p1_number : Int32) (f_p1_at : Int32) (f_fault : Int32) (f_place : Int32) (f_awaited : Int32) (f_left : Int32) (f_right : Int32) (f_graph_relations : Int32) (f_graph_edges : Int32) (f_graph_limit : Int32) (g_graph_by : Nat → Int32) (g_graph_left : Nat → Int32) (g_graph_right : Nat → Int32) (g_graph_rows : Nat → Int32) (x2 : Int32) (z1 : Int32) (H : Heap) (locs : List Loc) (ls : Array Slot), PDS G.1 classes A s [(a_p1, O_T f_p1_length a_p1_bytes f_p1_kind f_p1_start f_p1_number f_p1_at), (h0, O_Q f_fault f_place a_graph f_awaited f_left f_right), (a_p1_bytes, aI G 500 g_p1_bytes), (a_graph, O_G f_graph_relations f_graph_edges f_graph_limit a_graph_rows a_graph_left a_graph_right a_graph_by), (a_graph_by, aI G 16 g_graph_by), (a_graph_left, aI G 16 g_graph_left), (a_graph_right, aI G 16 g_graph_right), (a_graph_rows, aI G 8 g_graph_rows)] H locs → lv_has ls 3 [(0, .ref h0), (1, .ref a_p1), (2, .int x2)] → Q_read_88 N f_p1_length f_p1_kind f_p1_start f_p1_number f_p1_at f_fault f_place f_awaited f_left f_right g_p1_bytes f_graph_relations f_graph_edges f_graph_limit g_graph_by g_graph_left g_graph_right g_graph_rows x2 z1 = some r20 → W p l e (rmk 8) s m args below meth c H locs 0 0 Q (F0 m 88 ls [.int z1, .ref h0]) := by
          intro f_p1_kind f_p1_start f_p1_number f_p1_at f_fault f_place f_awaited f_left f_right f_graph_relations f_graph_edges f_graph_limit g_graph_by g_graph_left g_graph_right g_graph_rows x2 z1 H locs ls wq hl hf
          obtain ⟨hP, hD, hS⟩ := wq
          refine va_put (D := G.1) (ci := 6) (v := .int z1) (ty := .int) (C := n_Q) (T := T_Q) (N := 6) hx hb htl iw_Q ty_Q ty_Q_ok nm_Q hown hK hP hD hS 1 rfl rfl 1 (by decide) (htl _ k_289) (fun _ h9 => h9) rfl (by decide +kernel) rfl rfl (Nat.le_of_ble_eq_true rfl) d_E_read_88 (fun H locs hP hD hS => ?_)
          have hP : va_P G.1 classes [(a_p1, O_T f_p1_length a_p1_bytes f_p1_kind f_p1_start f_p1_number f_p1_at), (h0, O_Q f_fault z1 a_graph f_awaited f_left f_right), (a_p1_bytes, aI G 500 g_p1_bytes), (a_graph, O_G f_graph_relations f_graph_edges f_graph_limit a_graph_rows a_graph_left a_graph_right a_graph_by), (a_graph_by, aI G 16 g_graph_by), (a_graph_left, aI G 16 g_graph_left), (a_graph_right, aI G 16 g_graph_right), (a_graph_rows, aI G 8 g_graph_rows)] H := hP
          have hD : va_D A [(a_p1, O_T f_p1_length a_p1_bytes f_p1_kind f_p1_start f_p1_number f_p1_at), (h0, O_Q f_fault z1 a_graph f_awaited f_left f_right), (a_p1_bytes, aI G 500 g_p1_bytes), (a_graph, O_G f_graph_relations f_graph_edges f_graph_limit a_graph_rows a_graph_left a_graph_right a_graph_by), (a_graph_by, aI G 16 g_graph_by), (a_graph_left, aI G 16 g_graph_left), (a_graph_right, aI G 16 g_graph_right), (a_graph_rows, aI G 8 g_graph_rows)] := hD
          exact hJ91 f_p1_kind f_p1_start f_p1_number f_p1_at f_fault z1 f_awaited f_left f_right f_graph_relations f_graph_edges f_graph_limit g_graph_by g_graph_left g_graph_right g_graph_rows x2 H locs ls ⟨hP, hD, hS⟩ (lv_sub hl [0, 1, 2] rfl) hf
        refine lv_iload_n hx hb d_E_read_20 rfl (lv_at hl 2 rfl) ?_
        refine lv_sipush (v := (500 : Int32)) hx hb d_E_read_21 (by decide) ?_
        refine lv_icmp_gt (tgt := 113) hx hb d_E_read_24 (by decide) (fun c5 => ?_) (fun c5 => ?_)
        · have hf := di_t c5 hf
          have hq20 := lpk_x hf hk20
          have hf := ex_y (f := fun y => Q_read_a20 N f_p1_length g_p1_bytes y) hq20 hfo20
          have hf : Q_read_113 N f_p1_length f_p1_kind f_p1_start f_p1_number f_p1_at f_fault f_place f_awaited f_left f_right g_p1_bytes f_graph_relations f_graph_edges f_graph_limit g_graph_by g_graph_left g_graph_right g_graph_rows = some res := hf
          exact hJ113 f_p1_kind f_p1_start f_p1_number f_p1_at f_fault f_place f_awaited f_left f_right f_graph_relations f_graph_edges f_graph_limit g_graph_by g_graph_left g_graph_right g_graph_rows H locs ls ⟨hP, hD, hS⟩ (lv_sub hl [] rfl) hf
        · have hf := di_f c5 hf
          refine lv_aload_n hx hb d_E_read_27 rfl (lv_at hl 1 rfl) ?_
          obtain ⟨t6, hv7, hf⟩ := db_e hf
          refine call_v (isC := [0, 2]) (run_V (As := []) (rest := []) (ci := 10) (q0 := 0) hx hb hml hown htl (c_T_readToken l G Y  a_p1 a_p1_bytes f_p1_length f_p1_kind f_p1_start f_p1_number f_p1_at g_p1_bytes N t6 hv7) mv_T_readToken k_551 (hRk (by decide) (by decide)) hK hsk hS hP hD (isC := [0, 2]) rfl (by decide) rfl rfl rfl hl.1 rfl (lv_room (Nat.le_of_ble_eq_true rfl)) d_E_read_28) hP hD hS rfl rfl (fun H locs hP hD hS => ?_)
          have hP : va_P G.1 classes [(a_p1, O_T f_p1_length a_p1_bytes t6.1 t6.2.1 t6.2.2.1 t6.2.2.2), (h0, O_Q f_fault f_place a_graph f_awaited f_left f_right), (a_p1_bytes, aI G 500 g_p1_bytes), (a_graph, O_G f_graph_relations f_graph_edges f_graph_limit a_graph_rows a_graph_left a_graph_right a_graph_by), (a_graph_by, aI G 16 g_graph_by), (a_graph_left, aI G 16 g_graph_left), (a_graph_right, aI G 16 g_graph_right), (a_graph_rows, aI G 8 g_graph_rows)] H := hP
          have hD : va_D A [(a_p1, O_T f_p1_length a_p1_bytes t6.1 t6.2.1 t6.2.2.1 t6.2.2.2), (h0, O_Q f_fault f_place a_graph f_awaited f_left f_right), (a_p1_bytes, aI G 500 g_p1_bytes), (a_graph, O_G f_graph_relations f_graph_edges f_graph_limit a_graph_rows a_graph_left a_graph_right a_graph_by), (a_graph_by, aI G 16 g_graph_by), (a_graph_left, aI G 16 g_graph_left), (a_graph_right, aI G 16 g_graph_right), (a_graph_rows, aI G 8 g_graph_rows)] := hD
          refine lv_aload_n hx hb d_E_read_31 rfl (lv_at hl 0 rfl) ?_
          refine lv_aload_n hx hb d_E_read_32 rfl (lv_at hl 1 rfl) ?_
          refine va_get (D := G.1) (ci := 10) (v := .int t6.1) (C := n_T) (T := T_T) (N := 6) hx hb htl iw_T hown hK hP 0 rfl rfl 2 (by decide) (htl _ k_218) (fun _ h9 => h9) rfl d_E_read_33 ?_
          refine call_i (isC := [1]) (run_U (As := [.int t6.1]) (rest := []) (ci := 6) (q0 := 1) hx hb hml hown htl (c_Q_canStand l G Y  h0 a_graph f_fault f_place f_awaited f_left f_right t6.1 _ rfl) mu_Q_canStand k_628 (hRk (by decide) (by decide)) hK hsk hS hP hD (isC := [1]) rfl (by decide) rfl rfl rfl hl.1 rfl (lv_room (Nat.le_of_ble_eq_true rfl)) d_E_read_36) hP hD hS rfl rfl (fun H locs hP hD hS => ?_)
          have hP : va_P G.1 classes [(a_p1, O_T f_p1_length a_p1_bytes t6.1 t6.2.1 t6.2.2.1 t6.2.2.2), (h0, O_Q f_fault f_place a_graph f_awaited f_left f_right), (a_p1_bytes, aI G 500 g_p1_bytes), (a_graph, O_G f_graph_relations f_graph_edges f_graph_limit a_graph_rows a_graph_left a_graph_right a_graph_by), (a_graph_by, aI G 16 g_graph_by), (a_graph_left, aI G 16 g_graph_left), (a_graph_right, aI G 16 g_graph_right), (a_graph_rows, aI G 8 g_graph_rows)] H := hP
          have hD : va_D A [(a_p1, O_T f_p1_length a_p1_bytes t6.1 t6.2.1 t6.2.2.1 t6.2.2.2), (h0, O_Q f_fault f_place a_graph f_awaited f_left f_right), (a_p1_bytes, aI G 500 g_p1_bytes), (a_graph, O_G f_graph_relations f_graph_edges f_graph_limit a_graph_rows a_graph_left a_graph_right a_graph_by), (a_graph_by, aI G 16 g_graph_by), (a_graph_left, aI G 16 g_graph_left), (a_graph_right, aI G 16 g_graph_right), (a_graph_rows, aI G 8 g_graph_rows)] := hD
          refine lv_if_ne (tgt := 56) hx hb d_E_read_39 (by decide) (fun c8 => ?_) (fun c8 => ?_)
          · have hf := di_f c8 hf
            refine lv_aload_n hx hb d_E_read_56 rfl (lv_at hl 0 rfl) ?_
            refine va_get (D := G.1) (ci := 6) (v := .int f_fault) (C := n_Q) (T := T_Q) (N := 6) hx hb htl iw_Q hown hK hP 1 rfl rfl 0 (by decide) (htl _ k_287) (fun _ h9 => h9) rfl d_E_read_57 ?_
            refine lv_if_ne (tgt := 91) hx hb d_E_read_60 (by decide) (fun c9 => ?_) (fun c9 => ?_)
            · have hf := di_f c9 hf
              exact hJ91 t6.1 t6.2.1 t6.2.2.1 t6.2.2.2 f_fault f_place f_awaited f_left f_right f_graph_relations f_graph_edges f_graph_limit g_graph_by g_graph_left g_graph_right g_graph_rows x2 H locs ls ⟨hP, hD, hS⟩ (lv_sub hl [0, 1, 2] rfl) hf
            · have hf := di_t c9 hf
              refine lv_aload_n hx hb d_E_read_63 rfl (lv_at hl 0 rfl) ?_
              refine lv_aload_n hx hb d_E_read_64 rfl (lv_at hl 0 rfl) ?_
              refine lv_aload_n hx hb d_E_read_65 rfl (lv_at hl 1 rfl) ?_
              obtain ⟨t10, hv11, hf⟩ := db_e hf
              refine call_i (isC := [0, 1, 3, 4, 5, 6, 7]) (run_U (As := [.ref a_p1]) (rest := [.ref h0]) (ci := 6) (q0 := 1) hx hb hml hown htl (c_Q_absorb l G Y  h0 a_p1 a_p1_bytes a_graph a_graph_rows a_graph_left a_graph_right a_graph_by f_p1_length t6.1 t6.2.1 t6.2.2.1 t6.2.2.2 f_fault f_place f_awaited f_left f_right f_graph_relations f_graph_edges f_graph_limit g_graph_by g_graph_left g_graph_right g_graph_rows t10 hv11) mu_Q_absorb k_644 (hRk (by decide) (by decide)) hK hsk hS hP hD (isC := [0, 1, 3, 4, 5, 6, 7]) rfl (by decide) rfl rfl rfl hl.1 rfl (lv_room (Nat.le_of_ble_eq_true rfl)) d_E_read_66) hP hD hS rfl rfl (fun H locs hP hD hS => ?_)
              have hP : va_P G.1 classes [(a_p1, O_T f_p1_length a_p1_bytes t6.1 t6.2.1 t6.2.2.1 t6.2.2.2), (h0, O_Q f_fault f_place a_graph f_awaited t10.2.1 t10.2.2.1), (a_p1_bytes, aI G 500 g_p1_bytes), (a_graph, O_G t10.2.2.2.1 t10.2.2.2.2.1 t10.2.2.2.2.2.1 a_graph_rows a_graph_left a_graph_right a_graph_by), (a_graph_by, aI G 16 t10.2.2.2.2.2.2.1), (a_graph_left, aI G 16 t10.2.2.2.2.2.2.2.1), (a_graph_right, aI G 16 t10.2.2.2.2.2.2.2.2.1), (a_graph_rows, aI G 8 t10.2.2.2.2.2.2.2.2.2)] H := hP
              have hD : va_D A [(a_p1, O_T f_p1_length a_p1_bytes t6.1 t6.2.1 t6.2.2.1 t6.2.2.2), (h0, O_Q f_fault f_place a_graph f_awaited t10.2.1 t10.2.2.1), (a_p1_bytes, aI G 500 g_p1_bytes), (a_graph, O_G t10.2.2.2.1 t10.2.2.2.2.1 t10.2.2.2.2.2.1 a_graph_rows a_graph_left a_graph_right a_graph_by), (a_graph_by, aI G 16 t10.2.2.2.2.2.2.1), (a_graph_left, aI G 16 t10.2.2.2.2.2.2.2.1), (a_graph_right, aI G 16 t10.2.2.2.2.2.2.2.2.1), (a_graph_rows, aI G 8 t10.2.2.2.2.2.2.2.2.2)] := hD
              refine va_put (D := G.1) (ci := 6) (v := .int t10.1) (ty := .int) (C := n_Q) (T := T_Q) (N := 6) hx hb htl iw_Q ty_Q ty_Q_ok nm_Q hown hK hP hD hS 1 rfl rfl 0 (by decide) (htl _ k_287) (fun _ h9 => h9) rfl (by decide +kernel) rfl rfl (Nat.le_of_ble_eq_true rfl) d_E_read_69 (fun H locs hP hD hS => ?_)
              have hP : va_P G.1 classes [(a_p1, O_T f_p1_length a_p1_bytes t6.1 t6.2.1 t6.2.2.1 t6.2.2.2), (h0, O_Q t10.1 f_place a_graph f_awaited t10.2.1 t10.2.2.1), (a_p1_bytes, aI G 500 g_p1_bytes), (a_graph, O_G t10.2.2.2.1 t10.2.2.2.2.1 t10.2.2.2.2.2.1 a_graph_rows a_graph_left a_graph_right a_graph_by), (a_graph_by, aI G 16 t10.2.2.2.2.2.2.1), (a_graph_left, aI G 16 t10.2.2.2.2.2.2.2.1), (a_graph_right, aI G 16 t10.2.2.2.2.2.2.2.2.1), (a_graph_rows, aI G 8 t10.2.2.2.2.2.2.2.2.2)] H := hP
              have hD : va_D A [(a_p1, O_T f_p1_length a_p1_bytes t6.1 t6.2.1 t6.2.2.1 t6.2.2.2), (h0, O_Q t10.1 f_place a_graph f_awaited t10.2.1 t10.2.2.1), (a_p1_bytes, aI G 500 g_p1_bytes), (a_graph, O_G t10.2.2.2.1 t10.2.2.2.2.1 t10.2.2.2.2.2.1 a_graph_rows a_graph_left a_graph_right a_graph_by), (a_graph_by, aI G 16 t10.2.2.2.2.2.2.1), (a_graph_left, aI G 16 t10.2.2.2.2.2.2.2.1), (a_graph_right, aI G 16 t10.2.2.2.2.2.2.2.2.1), (a_graph_rows, aI G 8 t10.2.2.2.2.2.2.2.2.2)] := hD
              refine lv_aload_n hx hb d_E_read_72 rfl (lv_at hl 0 rfl) ?_
              refine lv_aload_n hx hb d_E_read_73 rfl (lv_at hl 0 rfl) ?_
              refine va_get (D := G.1) (ci := 6) (v := .int t10.1) (C := n_Q) (T := T_Q) (N := 6) hx hb htl iw_Q hown hK hP 1 rfl rfl 0 (by decide) (htl _ k_287) (fun _ h9 => h9) rfl d_E_read_74 ?_
              refine lv_if_ne (tgt := 84) hx hb d_E_read_77 (by decide) (fun c12 => ?_) (fun c12 => ?_)
              · have hf := di_f c12 hf
                refine lv_aload_n hx hb d_E_read_84 rfl (lv_at hl 1 rfl) ?_
                refine va_get (D := G.1) (ci := 10) (v := .int t6.2.1) (C := n_T) (T := T_T) (N := 6) hx hb htl iw_T hown hK hP 0 rfl rfl 3 (by decide) (htl _ k_221) (fun _ h9 => h9) rfl d_E_read_85 ?_
                exact hJ88 t6.1 t6.2.1 t6.2.2.1 t6.2.2.2 t10.1 f_place f_awaited t10.2.1 t10.2.2.1 t10.2.2.2.1 t10.2.2.2.2.1 t10.2.2.2.2.2.1 t10.2.2.2.2.2.2.1 t10.2.2.2.2.2.2.2.1 t10.2.2.2.2.2.2.2.2.1 t10.2.2.2.2.2.2.2.2.2 x2 t6.2.1 H locs ls ⟨hP, hD, hS⟩ (lv_sub hl [0, 1, 2] rfl) hf
              · have hf := di_t c12 hf
                refine lv_iconst (v := (-1 : Int32)) hx hb d_E_read_80 (by decide) ?_
                refine lv_goto (tgt := 88) hx hb d_E_read_81 (by decide) ?_
                exact hJ88 t6.1 t6.2.1 t6.2.2.1 t6.2.2.2 t10.1 f_place f_awaited t10.2.1 t10.2.2.1 t10.2.2.2.1 t10.2.2.2.2.1 t10.2.2.2.2.2.1 t10.2.2.2.2.2.2.1 t10.2.2.2.2.2.2.2.1 t10.2.2.2.2.2.2.2.2.1 t10.2.2.2.2.2.2.2.2.2 x2 (-1 : Int32) H locs ls ⟨hP, hD, hS⟩ (lv_sub hl [0, 1, 2] rfl) hf
          · have hf := di_t c8 hf
            have hq20 := lpk_x hf hk20
            have hf := ex_y (f := fun y => Q_read_a20 N f_p1_length g_p1_bytes y) hq20 hfo20
            have hf : Q_read_42 N f_p1_length t6.1 t6.2.1 t6.2.2.1 t6.2.2.2 f_fault f_place f_awaited f_left f_right g_p1_bytes f_graph_relations f_graph_edges f_graph_limit g_graph_by g_graph_left g_graph_right g_graph_rows = some res := hf
            exact hJ42 t6.1 t6.2.1 t6.2.2.1 t6.2.2.2 f_fault f_place f_awaited f_left f_right f_graph_relations f_graph_edges f_graph_limit g_graph_by g_graph_left g_graph_right g_graph_rows H locs ls ⟨hP, hD, hS⟩ (lv_sub hl [0, 1] rfl) hf
    exact hL20 N f_p1_kind f_p1_start f_p1_number f_p1_at f_fault f_place f_awaited f_left f_right f_graph_relations f_graph_edges f_graph_limit g_graph_by g_graph_left g_graph_right g_graph_rows x2 H locs ls hy20 ⟨hP, hD, hS⟩ hl
  refine lv_aload_n hx hb d_E_read_0 rfl (lv_at hl 0 rfl) ?_
  refine lv_iconst (v := (0 : Int32)) hx hb d_E_read_1 (by decide) ?_
  refine va_put (D := G.1) (ci := 6) (v := .int (0 : Int32)) (ty := .int) (C := n_Q) (T := T_Q) (N := 6) hx hb htl iw_Q ty_Q ty_Q_ok nm_Q hown hK hP hD hS 1 rfl rfl 0 (by decide) (htl _ k_287) (fun _ h9 => h9) rfl (by decide +kernel) rfl rfl (Nat.le_of_ble_eq_true rfl) d_E_read_2 (fun H locs hP hD hS => ?_)
  have hP : va_P G.1 classes [(a_p1, O_T f_p1_length a_p1_bytes f_p1_kind f_p1_start f_p1_number f_p1_at), (h0, O_Q (0 : Int32) f_place a_graph f_awaited f_left f_right), (a_p1_bytes, aI G 500 g_p1_bytes), (a_graph, O_G f_graph_relations f_graph_edges f_graph_limit a_graph_rows a_graph_left a_graph_right a_graph_by), (a_graph_by, aI G 16 g_graph_by), (a_graph_left, aI G 16 g_graph_left), (a_graph_right, aI G 16 g_graph_right), (a_graph_rows, aI G 8 g_graph_rows)] H := hP
  have hD : va_D A [(a_p1, O_T f_p1_length a_p1_bytes f_p1_kind f_p1_start f_p1_number f_p1_at), (h0, O_Q (0 : Int32) f_place a_graph f_awaited f_left f_right), (a_p1_bytes, aI G 500 g_p1_bytes), (a_graph, O_G f_graph_relations f_graph_edges f_graph_limit a_graph_rows a_graph_left a_graph_right a_graph_by), (a_graph_by, aI G 16 g_graph_by), (a_graph_left, aI G 16 g_graph_left), (a_graph_right, aI G 16 g_graph_right), (a_graph_rows, aI G 8 g_graph_rows)] := hD
  refine lv_aload_n hx hb d_E_read_5 rfl (lv_at hl 0 rfl) ?_
  refine lv_iconst (v := (-1 : Int32)) hx hb d_E_read_6 (by decide) ?_
  refine va_put (D := G.1) (ci := 6) (v := .int (-1 : Int32)) (ty := .int) (C := n_Q) (T := T_Q) (N := 6) hx hb htl iw_Q ty_Q ty_Q_ok nm_Q hown hK hP hD hS 1 rfl rfl 1 (by decide) (htl _ k_289) (fun _ h9 => h9) rfl (by decide +kernel) rfl rfl (Nat.le_of_ble_eq_true rfl) d_E_read_7 (fun H locs hP hD hS => ?_)
  have hP : va_P G.1 classes [(a_p1, O_T f_p1_length a_p1_bytes f_p1_kind f_p1_start f_p1_number f_p1_at), (h0, O_Q (0 : Int32) (-1 : Int32) a_graph f_awaited f_left f_right), (a_p1_bytes, aI G 500 g_p1_bytes), (a_graph, O_G f_graph_relations f_graph_edges f_graph_limit a_graph_rows a_graph_left a_graph_right a_graph_by), (a_graph_by, aI G 16 g_graph_by), (a_graph_left, aI G 16 g_graph_left), (a_graph_right, aI G 16 g_graph_right), (a_graph_rows, aI G 8 g_graph_rows)] H := hP
  have hD : va_D A [(a_p1, O_T f_p1_length a_p1_bytes f_p1_kind f_p1_start f_p1_number f_p1_at), (h0, O_Q (0 : Int32) (-1 : Int32) a_graph f_awaited f_left f_right), (a_p1_bytes, aI G 500 g_p1_bytes), (a_graph, O_G f_graph_relations f_graph_edges f_graph_limit a_graph_rows a_graph_left a_graph_right a_graph_by), (a_graph_by, aI G 16 g_graph_by), (a_graph_left, aI G 16 g_graph_left), (a_graph_right, aI G 16 g_graph_right), (a_graph_rows, aI G 8 g_graph_rows)] := hD
  refine lv_aload_n hx hb d_E_read_10 rfl (lv_at hl 0 rfl) ?_
  obtain ⟨t1, hv2, hf⟩ := db_e hf
  refine call_v (isC := [1, 3]) (run_U (As := []) (rest := []) (ci := 6) (q0 := 1) hx hb hml hown htl (c_Q_begin l G Y  h0 a_graph a_graph_rows a_graph_left a_graph_right a_graph_by (0 : Int32) (-1 : Int32) f_awaited f_left f_right f_graph_relations f_graph_edges f_graph_limit t1 hv2) mu_Q_begin k_534 (hRk (by decide) (by decide)) hK hsk hS hP hD (isC := [1, 3]) rfl (by decide) rfl rfl rfl hl.1 rfl (lv_room (Nat.le_of_ble_eq_true rfl)) d_E_read_11) hP hD hS rfl rfl (fun H locs hP hD hS => ?_)
  have hP : va_P G.1 classes [(a_p1, O_T f_p1_length a_p1_bytes f_p1_kind f_p1_start f_p1_number f_p1_at), (h0, O_Q (0 : Int32) (-1 : Int32) a_graph t1.1 t1.2.1 t1.2.2.1), (a_p1_bytes, aI G 500 g_p1_bytes), (a_graph, O_G t1.2.2.2.1 t1.2.2.2.2.1 t1.2.2.2.2.2 a_graph_rows a_graph_left a_graph_right a_graph_by), (a_graph_by, aI G 16 g_graph_by), (a_graph_left, aI G 16 g_graph_left), (a_graph_right, aI G 16 g_graph_right), (a_graph_rows, aI G 8 g_graph_rows)] H := hP
  have hD : va_D A [(a_p1, O_T f_p1_length a_p1_bytes f_p1_kind f_p1_start f_p1_number f_p1_at), (h0, O_Q (0 : Int32) (-1 : Int32) a_graph t1.1 t1.2.1 t1.2.2.1), (a_p1_bytes, aI G 500 g_p1_bytes), (a_graph, O_G t1.2.2.2.1 t1.2.2.2.2.1 t1.2.2.2.2.2 a_graph_rows a_graph_left a_graph_right a_graph_by), (a_graph_by, aI G 16 g_graph_by), (a_graph_left, aI G 16 g_graph_left), (a_graph_right, aI G 16 g_graph_right), (a_graph_rows, aI G 8 g_graph_rows)] := hD
  refine lv_aload_n hx hb d_E_read_14 rfl (lv_at hl 1 rfl) ?_
  obtain ⟨t3, hv4, hf⟩ := db_e hf
  refine call_v (isC := [0]) (run_V (As := []) (rest := []) (ci := 10) (q0 := 0) hx hb hml hown htl (c_T_startOver l G Y  a_p1 a_p1_bytes f_p1_length f_p1_kind f_p1_start f_p1_number f_p1_at t3 hv4) mv_T_startOver k_547 (hRk (by decide) (by decide)) hK hsk hS hP hD (isC := [0]) rfl (by decide) rfl rfl rfl hl.1 rfl (lv_room (Nat.le_of_ble_eq_true rfl)) d_E_read_15) hP hD hS rfl rfl (fun H locs hP hD hS => ?_)
  have hP : va_P G.1 classes [(a_p1, O_T f_p1_length a_p1_bytes f_p1_kind f_p1_start f_p1_number t3), (h0, O_Q (0 : Int32) (-1 : Int32) a_graph t1.1 t1.2.1 t1.2.2.1), (a_p1_bytes, aI G 500 g_p1_bytes), (a_graph, O_G t1.2.2.2.1 t1.2.2.2.2.1 t1.2.2.2.2.2 a_graph_rows a_graph_left a_graph_right a_graph_by), (a_graph_by, aI G 16 g_graph_by), (a_graph_left, aI G 16 g_graph_left), (a_graph_right, aI G 16 g_graph_right), (a_graph_rows, aI G 8 g_graph_rows)] H := hP
  have hD : va_D A [(a_p1, O_T f_p1_length a_p1_bytes f_p1_kind f_p1_start f_p1_number t3), (h0, O_Q (0 : Int32) (-1 : Int32) a_graph t1.1 t1.2.1 t1.2.2.1), (a_p1_bytes, aI G 500 g_p1_bytes), (a_graph, O_G t1.2.2.2.1 t1.2.2.2.2.1 t1.2.2.2.2.2 a_graph_rows a_graph_left a_graph_right a_graph_by), (a_graph_by, aI G 16 g_graph_by), (a_graph_left, aI G 16 g_graph_left), (a_graph_right, aI G 16 g_graph_right), (a_graph_rows, aI G 8 g_graph_rows)] := hD
  refine lv_iconst (v := (0 : Int32)) hx hb d_E_read_18 (by decide) ?_
  refine lv_istore_n (lv' := [(2, .int (0 : Int32)), (0, .ref h0), (1, .ref a_p1)]) hx hb d_E_read_19 rfl hl (by decide) rfl (fun ls hl => ?_)
  exact hJ20 f_p1_kind f_p1_start f_p1_number t3 (0 : Int32) (-1 : Int32) t1.1 t1.2.1 t1.2.2.1 t1.2.2.2.1 t1.2.2.2.2.1 t1.2.2.2.2.2 g_graph_by g_graph_left g_graph_right g_graph_rows (0 : Int32) H locs ls ⟨hP, hD, hS⟩ (lv_sub hl [1, 2, 0] rfl) hf
set_option maxHeartbeats 4000000 in
set_option maxRecDepth 100000 in
theorem c_L_read (l : Launch) (G : va_G × (Nat → ClassId)) (Y : (Nat → Nat) × (Nat → Nat)) (h0 : Nat) (a_p1 : Nat) (a_p1_bytes : Nat) (a_split : Nat) (a_within : Nat) (a_waiting : Nat) (f_p1_length : Int32) (f_p1_kind : Int32) (f_p1_start : Int32) (f_p1_number : Int32) (f_p1_at : Int32) (f_fault : Int32) (f_place : Int32) (f_relations : Int32) (f_depth : Int32) (f_waitingMany : Int32) (f_taken : Int32) (g_p1_bytes : Nat → Int32) (g_split : Nat → Int32) (g_waiting : Nat → Int32) (g_within : Nat → Int32) (N : Nat) (res : Int32 × Int32 × Int32 × Int32 × Int32 × Int32 × Int32 × Int32 × Int32 × (Nat → Int32) × (Nat → Int32) × (Nat → Int32)) (hf : L_read N f_p1_length f_p1_kind f_p1_start f_p1_number f_p1_at f_fault f_place f_relations f_depth f_waitingMany f_taken g_p1_bytes g_split g_waiting g_within = some res) : Cv l classes y_E_read b_E_read 3 none (rmk 8) G.1 (tyL G) Y [.ref h0, .ref a_p1] [(a_p1, O_T f_p1_length a_p1_bytes f_p1_kind f_p1_start f_p1_number f_p1_at), (h0, O_L f_fault f_place f_relations a_split a_within f_depth a_waiting f_waitingMany f_taken), (a_p1_bytes, aI G 500 g_p1_bytes), (a_split, aI G 256 g_split), (a_waiting, aI G 8 g_waiting), (a_within, aI G 501 g_within)] [(a_p1, O_T f_p1_length a_p1_bytes res.1 res.2.1 res.2.2.1 res.2.2.2.1), (h0, O_L res.2.2.2.2.1 res.2.2.2.2.2.1 f_relations a_split a_within res.2.2.2.2.2.2.1 a_waiting res.2.2.2.2.2.2.2.1 res.2.2.2.2.2.2.2.2.1), (a_p1_bytes, aI G 500 g_p1_bytes), (a_split, aI G 256 res.2.2.2.2.2.2.2.2.2.1), (a_waiting, aI G 8 res.2.2.2.2.2.2.2.2.2.2.1), (a_within, aI G 501 res.2.2.2.2.2.2.2.2.2.2.2)] := by
  refine entV (by decide) (Nat.le_of_ble_eq_true rfl) ?_
  intro p e s m args below meth c ls A Q hx hb hml hown htl hK hsk wq hl hret
  obtain ⟨hP, hD, hS⟩ := wq
  have hl : lv_has ls 3 [(0, .ref h0), (1, .ref a_p1)] := hl
  have hS : va_S A s.heap s.heap [] := hS
  obtain ⟨H, hH⟩ : ∃ H : Heap, H = s.heap := ⟨_, rfl⟩
  obtain ⟨locs, hlocs⟩ : ∃ z : List Loc, z = [] := ⟨_, rfl⟩
  rw [← hH] at hP
  replace hS : va_S A s.heap H locs := by rw [hH, hlocs]; exact hS
  suffices hgo : W p l e (rmk 8) s m args below meth c H locs 0 0 Q (F0 m 0 ls []) by rw [hH, hlocs] at hgo; exact hgo
  have hJ113 : ∀ (f_p1_kind : Int32) (f_p1_start : Int32) (f_p1_number : Int32) (f_p1_at : Int32) (f_fault : Int32) (f_place : Int32) (f_depth : Int32) (f_waitingMany : Int32) (f_taken : Int32) (g_split : Nat → Int32) (g_waiting : Nat → Int32) (g_within : Nat → Int32) (H : Heap) (locs : List Loc) (ls : Array Slot), PDS G.1 classes A s [(a_p1, O_T f_p1_length a_p1_bytes f_p1_kind f_p1_start f_p1_number f_p1_at), (h0, O_L f_fault f_place f_relations a_split a_within f_depth a_waiting f_waitingMany f_taken), (a_p1_bytes, aI G 500 g_p1_bytes), (a_split, aI G 256 g_split), (a_waiting, aI G 8 g_waiting), (a_within, aI G 501 g_within)] H locs → lv_has ls 3 [] → L_read_113 N f_p1_length f_p1_kind f_p1_start f_p1_number f_p1_at f_fault f_place f_relations f_depth f_waitingMany f_taken g_p1_bytes g_split g_waiting g_within = some res → W p l e (rmk 8) s m args below meth c H locs 0 0 Q (F0 m 113 ls []) := by
    intro f_p1_kind f_p1_start f_p1_number f_p1_at f_fault f_place f_depth f_waitingMany f_taken g_split g_waiting g_within H locs ls wq hl hf
    obtain ⟨hP, hD, hS⟩ := wq
    cases hf
    exact hret 113 ls H locs hP hS d_E_read_113
  have hJ106 : ∀ (f_p1_kind : Int32) (f_p1_start : Int32) (f_p1_number : Int32) (f_p1_at : Int32) (f_fault : Int32) (f_place : Int32) (f_depth : Int32) (f_waitingMany : Int32) (f_taken : Int32) (g_split : Nat → Int32) (g_waiting : Nat → Int32) (g_within : Nat → Int32) (H : Heap) (locs : List Loc) (ls : Array Slot), PDS G.1 classes A s [(a_p1, O_T f_p1_length a_p1_bytes f_p1_kind f_p1_start f_p1_number f_p1_at), (h0, O_L f_fault f_place f_relations a_split a_within f_depth a_waiting f_waitingMany f_taken), (a_p1_bytes, aI G 500 g_p1_bytes), (a_split, aI G 256 g_split), (a_waiting, aI G 8 g_waiting), (a_within, aI G 501 g_within)] H locs → lv_has ls 3 [] → L_read_106 N f_p1_length f_p1_kind f_p1_start f_p1_number f_p1_at f_fault f_place f_relations f_depth f_waitingMany f_taken g_p1_bytes g_split g_waiting g_within = some res → W p l e (rmk 8) s m args below meth c H locs 0 0 Q (F0 m 106 ls []) := by
    intro f_p1_kind f_p1_start f_p1_number f_p1_at f_fault f_place f_depth f_waitingMany f_taken g_split g_waiting g_within H locs ls wq hl hf
    obtain ⟨hP, hD, hS⟩ := wq
    cases hf
    exact hret 106 ls H locs hP hS d_E_read_106
  have hJ42 : ∀ (f_p1_kind : Int32) (f_p1_start : Int32) (f_p1_number : Int32) (f_p1_at : Int32) (f_fault : Int32) (f_place : Int32) (f_depth : Int32) (f_waitingMany : Int32) (f_taken : Int32) (g_split : Nat → Int32) (g_waiting : Nat → Int32) (g_within : Nat → Int32) (H : Heap) (locs : List Loc) (ls : Array Slot), PDS G.1 classes A s [(a_p1, O_T f_p1_length a_p1_bytes f_p1_kind f_p1_start f_p1_number f_p1_at), (h0, O_L f_fault f_place f_relations a_split a_within f_depth a_waiting f_waitingMany f_taken), (a_p1_bytes, aI G 500 g_p1_bytes), (a_split, aI G 256 g_split), (a_waiting, aI G 8 g_waiting), (a_within, aI G 501 g_within)] H locs → lv_has ls 3 [(0, .ref h0), (1, .ref a_p1)] → L_read_42 N f_p1_length f_p1_kind f_p1_start f_p1_number f_p1_at f_fault f_place f_relations f_depth f_waitingMany f_taken g_p1_bytes g_split g_waiting g_within = some res → W p l e (rmk 8) s m args below meth c H locs 0 0 Q (F0 m 42 ls []) := by
    intro f_p1_kind f_p1_start f_p1_number f_p1_at f_fault f_place f_depth f_waitingMany f_taken g_split g_waiting g_within H locs ls wq hl hf
    obtain ⟨hP, hD, hS⟩ := wq
    refine lv_aload_n hx hb d_E_read_42 rfl (lv_at hl 0 rfl) ?_
    refine lv_iconst (v := (1 : Int32)) hx hb d_E_read_43 (by decide) ?_
    refine va_put (D := G.1) (ci := 5) (v := .int (1 : Int32)) (ty := .int) (C := n_L) (T := T_L) (N := 9) hx hb htl iw_L ty_L ty_L_ok nm_L hown hK hP hD hS 1 rfl rfl 0 (by decide) (htl _ k_287) (fun _ h9 => h9) rfl (by decide +kernel) rfl rfl (Nat.le_of_ble_eq_true rfl) d_E_read_44 (fun H locs hP hD hS => ?_)
    have hP : va_P G.1 classes [(a_p1, O_T f_p1_length a_p1_bytes f_p1_kind f_p1_start f_p1_number f_p1_at), (h0, O_L (1 : Int32) f_place f_relations a_split a_within f_depth a_waiting f_waitingMany f_taken), (a_p1_bytes, aI G 500 g_p1_bytes), (a_split, aI G 256 g_split), (a_waiting, aI G 8 g_waiting), (a_within, aI G 501 g_within)] H := hP
    have hD : va_D A [(a_p1, O_T f_p1_length a_p1_bytes f_p1_kind f_p1_start f_p1_number f_p1_at), (h0, O_L (1 : Int32) f_place f_relations a_split a_within f_depth a_waiting f_waitingMany f_taken), (a_p1_bytes, aI G 500 g_p1_bytes), (a_split, aI G 256 g_split), (a_waiting, aI G 8 g_waiting), (a_within, aI G 501 g_within)] := hD
    refine lv_aload_n hx hb d_E_read_47 rfl (lv_at hl 0 rfl) ?_
    refine lv_aload_n hx hb d_E_read_48 rfl (lv_at hl 1 rfl) ?_
    refine va_get (D := G.1) (ci := 10) (v := .int f_p1_start) (C := n_T) (T := T_T) (N := 6) hx hb htl iw_T hown hK hP 0 rfl rfl 3 (by decide) (htl _ k_221) (fun _ h9 => h9) rfl d_E_read_49 ?_
    refine va_put (D := G.1) (ci := 5) (v := .int f_p1_start) (ty := .int) (C := n_L) (T := T_L) (N := 9) hx hb htl iw_L ty_L ty_L_ok nm_L hown hK hP hD hS 1 rfl rfl 1 (by decide) (htl _ k_289) (fun _ h9 => h9) rfl (by decide +kernel) rfl rfl (Nat.le_of_ble_eq_true rfl) d_E_read_52 (fun H locs hP hD hS => ?_)
    have hP : va_P G.1 classes [(a_p1, O_T f_p1_length a_p1_bytes f_p1_kind f_p1_start f_p1_number f_p1_at), (h0, O_L (1 : Int32) f_p1_start f_relations a_split a_within f_depth a_waiting f_waitingMany f_taken), (a_p1_bytes, aI G 500 g_p1_bytes), (a_split, aI G 256 g_split), (a_waiting, aI G 8 g_waiting), (a_within, aI G 501 g_within)] H := hP
    have hD : va_D A [(a_p1, O_T f_p1_length a_p1_bytes f_p1_kind f_p1_start f_p1_number f_p1_at), (h0, O_L (1 : Int32) f_p1_start f_relations a_split a_within f_depth a_waiting f_waitingMany f_taken), (a_p1_bytes, aI G 500 g_p1_bytes), (a_split, aI G 256 g_split), (a_waiting, aI G 8 g_waiting), (a_within, aI G 501 g_within)] := hD
    cases hf
    exact hret 55 ls H locs hP hS d_E_read_55
  have hJ20 : ∀ (f_p1_kind : Int32) (f_p1_start : Int32) (f_p1_number : Int32) (f_p1_at : Int32) (f_fault : Int32) (f_place : Int32) (f_depth : Int32) (f_waitingMany : Int32) (f_taken : Int32) (g_split : Nat → Int32) (g_waiting : Nat → Int32) (g_within : Nat → Int32) (x2 : Int32) (H : Heap) (locs : List Loc) (ls : Array Slot), PDS G.1 classes A s [(a_p1, O_T f_p1_length a_p1_bytes f_p1_kind f_p1_start f_p1_number f_p1_at), (h0, O_L f_fault f_place f_relations a_split a_within f_depth a_waiting f_waitingMany f_taken), (a_p1_bytes, aI G 500 g_p1_bytes), (a_split, aI G 256 g_split), (a_waiting, aI G 8 g_waiting), (a_within, aI G 501 g_within)] H locs → lv_has ls 3 [(0, .ref h0), (1, .ref a_p1), (2, .int x2)] → L_read_20 N f_p1_length f_p1_kind f_p1_start f_p1_number f_p1_at f_fault f_place f_relations f_depth f_waitingMany f_taken g_p1_bytes g_split g_waiting g_within x2 = some res → W p l e (rmk 8) s m args below meth c H locs 0 0 Q (F0 m 20 ls []) := by
    intro f_p1_kind f_p1_start f_p1_number f_p1_at f_fault f_place f_depth f_waitingMany f_taken g_split g_waiting g_within x2 H locs ls wq hl hf
    obtain ⟨hP, hD, hS⟩ := wq
    obtain ⟨y20, hy20, hfo20⟩ := db_e hf
    have hL20 : ∀ (n : Nat) (f_p1_kind : Int32) (f_p1_start : Int32) (f_p1_number : Int32) (f_p1_at : Int32) (f_fault : Int32) (f_place : Int32) (f_depth : Int32) (f_waitingMany : Int32) (f_taken : Int32) (g_split : Nat → Int32) (g_waiting : Nat → Int32) (g_within : Nat → Int32) (x2 : Int32) (H : Heap) (locs : List Loc) (ls : Array Slot), lp (fun x => L_read_b20 N f_p1_length x.1 x.2.1 x.2.2.1 x.2.2.2.1 x.2.2.2.2.1 x.2.2.2.2.2.1 f_relations x.2.2.2.2.2.2.1 x.2.2.2.2.2.2.2.1 x.2.2.2.2.2.2.2.2.1 g_p1_bytes x.2.2.2.2.2.2.2.2.2.1 x.2.2.2.2.2.2.2.2.2.2.1 x.2.2.2.2.2.2.2.2.2.2.2.1 x.2.2.2.2.2.2.2.2.2.2.2.2) n (f_p1_kind, f_p1_start, f_p1_number, f_p1_at, f_fault, f_place, f_depth, f_waitingMany, f_taken, g_split, g_waiting, g_within, x2) = some y20 → PDS G.1 classes A s [(a_p1, O_T f_p1_length a_p1_bytes f_p1_kind f_p1_start f_p1_number f_p1_at), (h0, O_L f_fault f_place f_relations a_split a_within f_depth a_waiting f_waitingMany f_taken), (a_p1_bytes, aI G 500 g_p1_bytes), (a_split, aI G 256 g_split), (a_waiting, aI G 8 g_waiting), (a_within, aI G 501 g_within)] H locs → lv_has ls 3 [(0, .ref h0), (1, .ref a_p1), (2, .int x2)] → W p l e (rmk 8) s m args below meth c H locs 0 0 Q (F0 m 20 ls []) := by
      intro n
      induction n with
      | zero =>
        intro f_p1_kind f_p1_start f_p1_number f_p1_at f_fault f_place f_depth f_waitingMany f_taken g_split g_waiting g_within x2 H locs ls hf
        exact lp_0 hf
      | succ n ih20 =>
        intro f_p1_kind f_p1_start f_p1_number f_p1_at f_fault f_place f_depth f_waitingMany f_taken g_split g_waiting g_within x2 H locs ls hf wq hl
        obtain ⟨hP, hD, hS⟩ := wq
        obtain ⟨r20, hf, hk20⟩ := lp_s hf
        have hf : L_read_b20 N f_p1_length f_p1_kind f_p1_start f_p1_number f_p1_at f_fault f_place f_relations f_depth f_waitingMany f_taken g_p1_bytes g_split g_waiting g_within x2 = some r20 := hf
        have hJ91 : ∀ (f_p1_kind : Int32) (f_p1_start : Int32) (f_p1_number : Int32) (f_p1_at : Int32) (f_fault : Int32) (f_place : Int32) (f_depth : Int32) (f_waitingMany : Int32) (f_taken : Int32) (g_split : Nat → Int32) (g_waiting : Nat → Int32) (g_within : Nat → Int32) (x2 : Int32) (H : Heap) (locs : List Loc) (ls : Array Slot), PDS G.1 classes A s [(a_p1, O_T f_p1_length a_p1_bytes f_p1_kind f_p1_start f_p1_number f_p1_at), (h0, O_L f_fault f_place f_relations a_split a_within f_depth a_waiting f_waitingMany f_taken), (a_p1_bytes, aI G 500 g_p1_bytes), (a_split, aI G 256 g_split), (a_waiting, aI G 8 g_waiting), (a_within, aI G 501 g_within)] H locs → lv_has ls 3 [(0, .ref h0), (1, .ref a_p1), (2, .int x2)] → L_read_91 N f_p1_length f_p1_kind f_p1_start f_p1_number f_p1_at f_fault f_place f_relations f_depth f_waitingMany f_taken g_p1_bytes g_split g_waiting g_within x2 = some r20 → W p l e (rmk 8) s m args below meth c H locs 0 0 Q (F0 m 91 ls []) := by
          intro f_p1_kind f_p1_start f_p1_number f_p1_at f_fault f_place f_depth f_waitingMany f_taken g_split g_waiting g_within x2 H locs ls wq hl hf
          obtain ⟨hP, hD, hS⟩ := wq
          refine lv_aload_n hx hb d_E_read_91 rfl (lv_at hl 0 rfl) ?_
          refine lv_aload_n hx hb d_E_read_92 rfl (lv_at hl 1 rfl) ?_
          refine va_get (D := G.1) (ci := 10) (v := .int f_p1_kind) (C := n_T) (T := T_T) (N := 6) hx hb htl iw_T hown hK hP 0 rfl rfl 2 (by decide) (htl _ k_218) (fun _ h9 => h9) rfl d_E_read_93 ?_
          obtain ⟨t15, hv16, hf⟩ := db_e hf
          refine call_v (isC := [1, 5]) (run_U (As := [.int f_p1_kind]) (rest := []) (ci := 5) (q0 := 1) hx hb hml hown htl (c_L_pass l G Y  h0 a_split a_within a_waiting f_fault f_place f_relations f_depth f_waitingMany f_taken g_within f_p1_kind t15 hv16) mu_L_pass k_710 (hRk (by decide) (by decide)) hK hsk hS hP hD (isC := [1, 5]) rfl (by decide) rfl rfl rfl hl.1 rfl (lv_room (Nat.le_of_ble_eq_true rfl)) d_E_read_96) hP hD hS rfl rfl (fun H locs hP hD hS => ?_)
          have hP : va_P G.1 classes [(a_p1, O_T f_p1_length a_p1_bytes f_p1_kind f_p1_start f_p1_number f_p1_at), (h0, O_L f_fault f_place f_relations a_split a_within t15.1 a_waiting f_waitingMany f_taken), (a_p1_bytes, aI G 500 g_p1_bytes), (a_split, aI G 256 g_split), (a_waiting, aI G 8 g_waiting), (a_within, aI G 501 t15.2)] H := hP
          have hD : va_D A [(a_p1, O_T f_p1_length a_p1_bytes f_p1_kind f_p1_start f_p1_number f_p1_at), (h0, O_L f_fault f_place f_relations a_split a_within t15.1 a_waiting f_waitingMany f_taken), (a_p1_bytes, aI G 500 g_p1_bytes), (a_split, aI G 256 g_split), (a_waiting, aI G 8 g_waiting), (a_within, aI G 501 t15.2)] := hD
          refine lv_aload_n hx hb d_E_read_99 rfl (lv_at hl 1 rfl) ?_
          refine va_get (D := G.1) (ci := 10) (v := .int f_p1_kind) (C := n_T) (T := T_T) (N := 6) hx hb htl iw_T hown hK hP 0 rfl rfl 2 (by decide) (htl _ k_218) (fun _ h9 => h9) rfl d_E_read_100 ?_
          refine lv_if_ne (tgt := 107) hx hb d_E_read_103 (by decide) (fun c17 => ?_) (fun c17 => ?_)
          · have hf := di_f c17 hf
            obtain ⟨v18, ev18⟩ : ∃ z : Int32, z = x2 + (1 : Int32) := ⟨_, rfl⟩
            have hf := dn_e ev18 hf
            refine lv_iinc (v := v18) (lv' := [(2, .int v18), (0, .ref h0), (1, .ref a_p1)]) hx hb d_E_read_107 hl (k := 2) rfl (by rw [ev18]; rfl) (by decide) rfl (fun ls hl => ?_)
            refine lv_goto (tgt := 20) hx hb d_E_read_110 (by decide) ?_
            exact ih20 f_p1_kind f_p1_start f_p1_number f_p1_at f_fault f_place t15.1 f_waitingMany f_taken g_split g_waiting t15.2 v18 H locs ls (lpk_i hf hk20) ⟨hP, hD, hS⟩ (lv_sub hl [1, 2, 0] rfl)
          · have hf := di_t c17 hf
            have hq20 := lpk_x hf hk20
            have hf := ex_y (f := fun y => L_read_a20 N f_p1_length f_relations g_p1_bytes y) hq20 hfo20
            have hf : L_read_106 N f_p1_length f_p1_kind f_p1_start f_p1_number f_p1_at f_fault f_place f_relations t15.1 f_waitingMany f_taken g_p1_bytes g_split g_waiting t15.2 = some res := hf
            exact hJ106 f_p1_kind f_p1_start f_p1_number f_p1_at f_fault f_place t15.1 f_waitingMany f_taken g_split g_waiting t15.2 H locs ls ⟨hP, hD, hS⟩ (lv_sub hl [] rfl) hf
        have hJ88 : ∀ (f_p1_kind : Int32) (f_p1_start : Int32) (f_p1_number : Int32) (f_p1_at : Int32) (f_fault : Int32) (f_place : Int32) (f_depth : Int32) (f_waitingMany : Int32) (f_taken : Int32) (g_split : Nat → Int32) (g_waiting : Nat → Int32) (g_within : Nat → Int32) (x2 : Int32) (z1 : Int32) (H : Heap) (locs : List Loc) (ls : Array Slot), PDS G.1 classes A s [(a_p1, O_T f_p1_length a_p1_bytes f_p1_kind f_p1_start f_p1_number f_p1_at), (h0, O_L f_fault f_place f_relations a_split a_within f_depth a_waiting f_waitingMany f_taken), (a_p1_bytes, aI G 500 g_p1_bytes), (a_split, aI G 256 g_split), (a_waiting, aI G 8 g_waiting), (a_within, aI G 501 g_within)] H locs → lv_has ls 3 [(0, .ref h0), (1, .ref a_p1), (2, .int x2)] → L_read_88 N f_p1_length f_p1_kind f_p1_start f_p1_number f_p1_at f_fault f_place f_relations f_depth f_waitingMany f_taken g_p1_bytes g_split g_waiting g_within x2 z1 = some r20 → W p l e (rmk 8) s m args below meth c H locs 0 0 Q (F0 m 88 ls [.int z1, .ref h0]) := by
          intro f_p1_kind f_p1_start f_p1_number f_p1_at f_fault f_place f_depth f_waitingMany f_taken g_split g_waiting g_within x2 z1 H locs ls wq hl hf
          obtain ⟨hP, hD, hS⟩ := wq
          refine va_put (D := G.1) (ci := 5) (v := .int z1) (ty := .int) (C := n_L) (T := T_L) (N := 9) hx hb htl iw_L ty_L ty_L_ok nm_L hown hK hP hD hS 1 rfl rfl 1 (by decide) (htl _ k_289) (fun _ h9 => h9) rfl (by decide +kernel) rfl rfl (Nat.le_of_ble_eq_true rfl) d_E_read_88 (fun H locs hP hD hS => ?_)
          have hP : va_P G.1 classes [(a_p1, O_T f_p1_length a_p1_bytes f_p1_kind f_p1_start f_p1_number f_p1_at), (h0, O_L f_fault z1 f_relations a_split a_within f_depth a_waiting f_waitingMany f_taken), (a_p1_bytes, aI G 500 g_p1_bytes), (a_split, aI G 256 g_split), (a_waiting, aI G 8 g_waiting), (a_within, aI G 501 g_within)] H := hP
          have hD : va_D A [(a_p1, O_T f_p1_length a_p1_bytes f_p1_kind f_p1_start f_p1_number f_p1_at), (h0, O_L f_fault z1 f_relations a_split a_within f_depth a_waiting f_waitingMany f_taken), (a_p1_bytes, aI G 500 g_p1_bytes), (a_split, aI G 256 g_split), (a_waiting, aI G 8 g_waiting), (a_within, aI G 501 g_within)] := hD
          exact hJ91 f_p1_kind f_p1_start f_p1_number f_p1_at f_fault z1 f_depth f_waitingMany f_taken g_split g_waiting g_within x2 H locs ls ⟨hP, hD, hS⟩ (lv_sub hl [0, 1, 2] rfl) hf
        refine lv_iload_n hx hb d_E_read_20 rfl (lv_at hl 2 rfl) ?_
        refine lv_sipush (v := (500 : Int32)) hx hb d_E_read_21 (by decide) ?_
        refine lv_icmp_gt (tgt := 113) hx hb d_E_read_24 (by decide) (fun c5 => ?_) (fun c5 => ?_)
        · have hf := di_t c5 hf
          have hq20 := lpk_x hf hk20
          have hf := ex_y (f := fun y => L_read_a20 N f_p1_length f_relations g_p1_bytes y) hq20 hfo20
          have hf : L_read_113 N f_p1_length f_p1_kind f_p1_start f_p1_number f_p1_at f_fault f_place f_relations f_depth f_waitingMany f_taken g_p1_bytes g_split g_waiting g_within = some res := hf
          exact hJ113 f_p1_kind f_p1_start f_p1_number f_p1_at f_fault f_place f_depth f_waitingMany f_taken g_split g_waiting g_within H locs ls ⟨hP, hD, hS⟩ (lv_sub hl [] rfl) hf
        · have hf := di_f c5 hf
          refine lv_aload_n hx hb d_E_read_27 rfl (lv_at hl 1 rfl) ?_
          obtain ⟨t6, hv7, hf⟩ := db_e hf
          refine call_v (isC := [0, 2]) (run_V (As := []) (rest := []) (ci := 10) (q0 := 0) hx hb hml hown htl (c_T_readToken l G Y  a_p1 a_p1_bytes f_p1_length f_p1_kind f_p1_start f_p1_number f_p1_at g_p1_bytes N t6 hv7) mv_T_readToken k_551 (hRk (by decide) (by decide)) hK hsk hS hP hD (isC := [0, 2]) rfl (by decide) rfl rfl rfl hl.1 rfl (lv_room (Nat.le_of_ble_eq_true rfl)) d_E_read_28) hP hD hS rfl rfl (fun H locs hP hD hS => ?_)
          have hP : va_P G.1 classes [(a_p1, O_T f_p1_length a_p1_bytes t6.1 t6.2.1 t6.2.2.1 t6.2.2.2), (h0, O_L f_fault f_place f_relations a_split a_within f_depth a_waiting f_waitingMany f_taken), (a_p1_bytes, aI G 500 g_p1_bytes), (a_split, aI G 256 g_split), (a_waiting, aI G 8 g_waiting), (a_within, aI G 501 g_within)] H := hP
          have hD : va_D A [(a_p1, O_T f_p1_length a_p1_bytes t6.1 t6.2.1 t6.2.2.1 t6.2.2.2), (h0, O_L f_fault f_place f_relations a_split a_within f_depth a_waiting f_waitingMany f_taken), (a_p1_bytes, aI G 500 g_p1_bytes), (a_split, aI G 256 g_split), (a_waiting, aI G 8 g_waiting), (a_within, aI G 501 g_within)] := hD
          refine lv_aload_n hx hb d_E_read_31 rfl (lv_at hl 0 rfl) ?_
          refine lv_aload_n hx hb d_E_read_32 rfl (lv_at hl 1 rfl) ?_
          refine va_get (D := G.1) (ci := 10) (v := .int t6.1) (C := n_T) (T := T_T) (N := 6) hx hb htl iw_T hown hK hP 0 rfl rfl 2 (by decide) (htl _ k_218) (fun _ h9 => h9) rfl d_E_read_33 ?_
          obtain ⟨t8, hv9, hf⟩ := db_e hf
          refine call_i (isC := [1, 5]) (run_U (As := [.int t6.1]) (rest := []) (ci := 5) (q0 := 1) hx hb hml hown htl (c_L_canStand l G Y  h0 a_split a_within a_waiting f_fault f_place f_relations f_depth f_waitingMany f_taken g_within t6.1 t8 hv9) mu_L_canStand k_628 (hRk (by decide) (by decide)) hK hsk hS hP hD (isC := [1, 5]) rfl (by decide) rfl rfl rfl hl.1 rfl (lv_room (Nat.le_of_ble_eq_true rfl)) d_E_read_36) hP hD hS rfl rfl (fun H locs hP hD hS => ?_)
          have hP : va_P G.1 classes [(a_p1, O_T f_p1_length a_p1_bytes t6.1 t6.2.1 t6.2.2.1 t6.2.2.2), (h0, O_L f_fault f_place f_relations a_split a_within f_depth a_waiting f_waitingMany f_taken), (a_p1_bytes, aI G 500 g_p1_bytes), (a_split, aI G 256 g_split), (a_waiting, aI G 8 g_waiting), (a_within, aI G 501 g_within)] H := hP
          have hD : va_D A [(a_p1, O_T f_p1_length a_p1_bytes t6.1 t6.2.1 t6.2.2.1 t6.2.2.2), (h0, O_L f_fault f_place f_relations a_split a_within f_depth a_waiting f_waitingMany f_taken), (a_p1_bytes, aI G 500 g_p1_bytes), (a_split, aI G 256 g_split), (a_waiting, aI G 8 g_waiting), (a_within, aI G 501 g_within)] := hD
          refine lv_if_ne (tgt := 56) hx hb d_E_read_39 (by decide) (fun c10 => ?_) (fun c10 => ?_)
          · have hf := di_f c10 hf
            refine lv_aload_n hx hb d_E_read_56 rfl (lv_at hl 0 rfl) ?_
            refine va_get (D := G.1) (ci := 5) (v := .int f_fault) (C := n_L) (T := T_L) (N := 9) hx hb htl iw_L hown hK hP 1 rfl rfl 0 (by decide) (htl _ k_287) (fun _ h9 => h9) rfl d_E_read_57 ?_
            refine lv_if_ne (tgt := 91) hx hb d_E_read_60 (by decide) (fun c11 => ?_) (fun c11 => ?_)
            · have hf := di_f c11 hf
              exact hJ91 t6.1 t6.2.1 t6.2.2.1 t6.2.2.2 f_fault f_place f_depth f_waitingMany f_taken g_split g_waiting g_within x2 H locs ls ⟨hP, hD, hS⟩ (lv_sub hl [0, 1, 2] rfl) hf
            · have hf := di_t c11 hf
              refine lv_aload_n hx hb d_E_read_63 rfl (lv_at hl 0 rfl) ?_
              refine lv_aload_n hx hb d_E_read_64 rfl (lv_at hl 0 rfl) ?_
              refine lv_aload_n hx hb d_E_read_65 rfl (lv_at hl 1 rfl) ?_
              obtain ⟨t12, hv13, hf⟩ := db_e hf
              refine call_i (isC := [0, 1, 3, 4]) (run_U (As := [.ref a_p1]) (rest := [.ref h0]) (ci := 5) (q0 := 1) hx hb hml hown htl (c_L_absorb l G Y  h0 a_p1 a_p1_bytes a_split a_within a_waiting f_p1_length t6.1 t6.2.1 t6.2.2.1 t6.2.2.2 f_fault f_place f_relations f_depth f_waitingMany f_taken g_split g_waiting t12 hv13) mu_L_absorb k_644 (hRk (by decide) (by decide)) hK hsk hS hP hD (isC := [0, 1, 3, 4]) rfl (by decide) rfl rfl rfl hl.1 rfl (lv_room (Nat.le_of_ble_eq_true rfl)) d_E_read_66) hP hD hS rfl rfl (fun H locs hP hD hS => ?_)
              have hP : va_P G.1 classes [(a_p1, O_T f_p1_length a_p1_bytes t6.1 t6.2.1 t6.2.2.1 t6.2.2.2), (h0, O_L f_fault f_place f_relations a_split a_within f_depth a_waiting t12.2.1 t12.2.2.1), (a_p1_bytes, aI G 500 g_p1_bytes), (a_split, aI G 256 t12.2.2.2.1), (a_waiting, aI G 8 t12.2.2.2.2), (a_within, aI G 501 g_within)] H := hP
              have hD : va_D A [(a_p1, O_T f_p1_length a_p1_bytes t6.1 t6.2.1 t6.2.2.1 t6.2.2.2), (h0, O_L f_fault f_place f_relations a_split a_within f_depth a_waiting t12.2.1 t12.2.2.1), (a_p1_bytes, aI G 500 g_p1_bytes), (a_split, aI G 256 t12.2.2.2.1), (a_waiting, aI G 8 t12.2.2.2.2), (a_within, aI G 501 g_within)] := hD
              refine va_put (D := G.1) (ci := 5) (v := .int t12.1) (ty := .int) (C := n_L) (T := T_L) (N := 9) hx hb htl iw_L ty_L ty_L_ok nm_L hown hK hP hD hS 1 rfl rfl 0 (by decide) (htl _ k_287) (fun _ h9 => h9) rfl (by decide +kernel) rfl rfl (Nat.le_of_ble_eq_true rfl) d_E_read_69 (fun H locs hP hD hS => ?_)
              have hP : va_P G.1 classes [(a_p1, O_T f_p1_length a_p1_bytes t6.1 t6.2.1 t6.2.2.1 t6.2.2.2), (h0, O_L t12.1 f_place f_relations a_split a_within f_depth a_waiting t12.2.1 t12.2.2.1), (a_p1_bytes, aI G 500 g_p1_bytes), (a_split, aI G 256 t12.2.2.2.1), (a_waiting, aI G 8 t12.2.2.2.2), (a_within, aI G 501 g_within)] H := hP
              have hD : va_D A [(a_p1, O_T f_p1_length a_p1_bytes t6.1 t6.2.1 t6.2.2.1 t6.2.2.2), (h0, O_L t12.1 f_place f_relations a_split a_within f_depth a_waiting t12.2.1 t12.2.2.1), (a_p1_bytes, aI G 500 g_p1_bytes), (a_split, aI G 256 t12.2.2.2.1), (a_waiting, aI G 8 t12.2.2.2.2), (a_within, aI G 501 g_within)] := hD
              refine lv_aload_n hx hb d_E_read_72 rfl (lv_at hl 0 rfl) ?_
              refine lv_aload_n hx hb d_E_read_73 rfl (lv_at hl 0 rfl) ?_
              refine va_get (D := G.1) (ci := 5) (v := .int t12.1) (C := n_L) (T := T_L) (N := 9) hx hb htl iw_L hown hK hP 1 rfl rfl 0 (by decide) (htl _ k_287) (fun _ h9 => h9) rfl d_E_read_74 ?_
              refine lv_if_ne (tgt := 84) hx hb d_E_read_77 (by decide) (fun c14 => ?_) (fun c14 => ?_)
              · have hf := di_f c14 hf
                refine lv_aload_n hx hb d_E_read_84 rfl (lv_at hl 1 rfl) ?_
                refine va_get (D := G.1) (ci := 10) (v := .int t6.2.1) (C := n_T) (T := T_T) (N := 6) hx hb htl iw_T hown hK hP 0 rfl rfl 3 (by decide) (htl _ k_221) (fun _ h9 => h9) rfl d_E_read_85 ?_
                exact hJ88 t6.1 t6.2.1 t6.2.2.1 t6.2.2.2 t12.1 f_place f_depth t12.2.1 t12.2.2.1 t12.2.2.2.1 t12.2.2.2.2 g_within x2 t6.2.1 H locs ls ⟨hP, hD, hS⟩ (lv_sub hl [0, 1, 2] rfl) hf
              · have hf := di_t c14 hf
                refine lv_iconst (v := (-1 : Int32)) hx hb d_E_read_80 (by decide) ?_
                refine lv_goto (tgt := 88) hx hb d_E_read_81 (by decide) ?_
                exact hJ88 t6.1 t6.2.1 t6.2.2.1 t6.2.2.2 t12.1 f_place f_depth t12.2.1 t12.2.2.1 t12.2.2.2.1 t12.2.2.2.2 g_within x2 (-1 : Int32) H locs ls ⟨hP, hD, hS⟩ (lv_sub hl [0, 1, 2] rfl) hf
          · have hf := di_t c10 hf
            have hq20 := lpk_x hf hk20
            have hf := ex_y (f := fun y => L_read_a20 N f_p1_length f_relations g_p1_bytes y) hq20 hfo20
            have hf : L_read_42 N f_p1_length t6.1 t6.2.1 t6.2.2.1 t6.2.2.2 f_fault f_place f_relations f_depth f_waitingMany f_taken g_p1_bytes g_split g_waiting g_within = some res := hf
            exact hJ42 t6.1 t6.2.1 t6.2.2.1 t6.2.2.2 f_fault f_place f_depth f_waitingMany f_taken g_split g_waiting g_within H locs ls ⟨hP, hD, hS⟩ (lv_sub hl [0, 1] rfl) hf
    exact hL20 N f_p1_kind f_p1_start f_p1_number f_p1_at f_fault f_place f_depth f_waitingMany f_taken g_split g_waiting g_within x2 H locs ls hy20 ⟨hP, hD, hS⟩ hl
  refine lv_aload_n hx hb d_E_read_0 rfl (lv_at hl 0 rfl) ?_
  refine lv_iconst (v := (0 : Int32)) hx hb d_E_read_1 (by decide) ?_
  refine va_put (D := G.1) (ci := 5) (v := .int (0 : Int32)) (ty := .int) (C := n_L) (T := T_L) (N := 9) hx hb htl iw_L ty_L ty_L_ok nm_L hown hK hP hD hS 1 rfl rfl 0 (by decide) (htl _ k_287) (fun _ h9 => h9) rfl (by decide +kernel) rfl rfl (Nat.le_of_ble_eq_true rfl) d_E_read_2 (fun H locs hP hD hS => ?_)
  have hP : va_P G.1 classes [(a_p1, O_T f_p1_length a_p1_bytes f_p1_kind f_p1_start f_p1_number f_p1_at), (h0, O_L (0 : Int32) f_place f_relations a_split a_within f_depth a_waiting f_waitingMany f_taken), (a_p1_bytes, aI G 500 g_p1_bytes), (a_split, aI G 256 g_split), (a_waiting, aI G 8 g_waiting), (a_within, aI G 501 g_within)] H := hP
  have hD : va_D A [(a_p1, O_T f_p1_length a_p1_bytes f_p1_kind f_p1_start f_p1_number f_p1_at), (h0, O_L (0 : Int32) f_place f_relations a_split a_within f_depth a_waiting f_waitingMany f_taken), (a_p1_bytes, aI G 500 g_p1_bytes), (a_split, aI G 256 g_split), (a_waiting, aI G 8 g_waiting), (a_within, aI G 501 g_within)] := hD
  refine lv_aload_n hx hb d_E_read_5 rfl (lv_at hl 0 rfl) ?_
  refine lv_iconst (v := (-1 : Int32)) hx hb d_E_read_6 (by decide) ?_
  refine va_put (D := G.1) (ci := 5) (v := .int (-1 : Int32)) (ty := .int) (C := n_L) (T := T_L) (N := 9) hx hb htl iw_L ty_L ty_L_ok nm_L hown hK hP hD hS 1 rfl rfl 1 (by decide) (htl _ k_289) (fun _ h9 => h9) rfl (by decide +kernel) rfl rfl (Nat.le_of_ble_eq_true rfl) d_E_read_7 (fun H locs hP hD hS => ?_)
  have hP : va_P G.1 classes [(a_p1, O_T f_p1_length a_p1_bytes f_p1_kind f_p1_start f_p1_number f_p1_at), (h0, O_L (0 : Int32) (-1 : Int32) f_relations a_split a_within f_depth a_waiting f_waitingMany f_taken), (a_p1_bytes, aI G 500 g_p1_bytes), (a_split, aI G 256 g_split), (a_waiting, aI G 8 g_waiting), (a_within, aI G 501 g_within)] H := hP
  have hD : va_D A [(a_p1, O_T f_p1_length a_p1_bytes f_p1_kind f_p1_start f_p1_number f_p1_at), (h0, O_L (0 : Int32) (-1 : Int32) f_relations a_split a_within f_depth a_waiting f_waitingMany f_taken), (a_p1_bytes, aI G 500 g_p1_bytes), (a_split, aI G 256 g_split), (a_waiting, aI G 8 g_waiting), (a_within, aI G 501 g_within)] := hD
  refine lv_aload_n hx hb d_E_read_10 rfl (lv_at hl 0 rfl) ?_
  obtain ⟨t1, hv2, hf⟩ := db_e hf
  refine call_v (isC := [1, 5]) (run_U (As := []) (rest := []) (ci := 5) (q0 := 1) hx hb hml hown htl (c_L_begin l G Y  h0 a_split a_within a_waiting (0 : Int32) (-1 : Int32) f_relations f_depth f_waitingMany f_taken g_within t1 hv2) mu_L_begin k_534 (hRk (by decide) (by decide)) hK hsk hS hP hD (isC := [1, 5]) rfl (by decide) rfl rfl rfl hl.1 rfl (lv_room (Nat.le_of_ble_eq_true rfl)) d_E_read_11) hP hD hS rfl rfl (fun H locs hP hD hS => ?_)
  have hP : va_P G.1 classes [(a_p1, O_T f_p1_length a_p1_bytes f_p1_kind f_p1_start f_p1_number f_p1_at), (h0, O_L (0 : Int32) (-1 : Int32) f_relations a_split a_within t1.1 a_waiting t1.2.1 t1.2.2.1), (a_p1_bytes, aI G 500 g_p1_bytes), (a_split, aI G 256 g_split), (a_waiting, aI G 8 g_waiting), (a_within, aI G 501 t1.2.2.2)] H := hP
  have hD : va_D A [(a_p1, O_T f_p1_length a_p1_bytes f_p1_kind f_p1_start f_p1_number f_p1_at), (h0, O_L (0 : Int32) (-1 : Int32) f_relations a_split a_within t1.1 a_waiting t1.2.1 t1.2.2.1), (a_p1_bytes, aI G 500 g_p1_bytes), (a_split, aI G 256 g_split), (a_waiting, aI G 8 g_waiting), (a_within, aI G 501 t1.2.2.2)] := hD
  refine lv_aload_n hx hb d_E_read_14 rfl (lv_at hl 1 rfl) ?_
  obtain ⟨t3, hv4, hf⟩ := db_e hf
  refine call_v (isC := [0]) (run_V (As := []) (rest := []) (ci := 10) (q0 := 0) hx hb hml hown htl (c_T_startOver l G Y  a_p1 a_p1_bytes f_p1_length f_p1_kind f_p1_start f_p1_number f_p1_at t3 hv4) mv_T_startOver k_547 (hRk (by decide) (by decide)) hK hsk hS hP hD (isC := [0]) rfl (by decide) rfl rfl rfl hl.1 rfl (lv_room (Nat.le_of_ble_eq_true rfl)) d_E_read_15) hP hD hS rfl rfl (fun H locs hP hD hS => ?_)
  have hP : va_P G.1 classes [(a_p1, O_T f_p1_length a_p1_bytes f_p1_kind f_p1_start f_p1_number t3), (h0, O_L (0 : Int32) (-1 : Int32) f_relations a_split a_within t1.1 a_waiting t1.2.1 t1.2.2.1), (a_p1_bytes, aI G 500 g_p1_bytes), (a_split, aI G 256 g_split), (a_waiting, aI G 8 g_waiting), (a_within, aI G 501 t1.2.2.2)] H := hP
  have hD : va_D A [(a_p1, O_T f_p1_length a_p1_bytes f_p1_kind f_p1_start f_p1_number t3), (h0, O_L (0 : Int32) (-1 : Int32) f_relations a_split a_within t1.1 a_waiting t1.2.1 t1.2.2.1), (a_p1_bytes, aI G 500 g_p1_bytes), (a_split, aI G 256 g_split), (a_waiting, aI G 8 g_waiting), (a_within, aI G 501 t1.2.2.2)] := hD
  refine lv_iconst (v := (0 : Int32)) hx hb d_E_read_18 (by decide) ?_
  refine lv_istore_n (lv' := [(2, .int (0 : Int32)), (0, .ref h0), (1, .ref a_p1)]) hx hb d_E_read_19 rfl hl (by decide) rfl (fun ls hl => ?_)
  exact hJ20 f_p1_kind f_p1_start f_p1_number t3 (0 : Int32) (-1 : Int32) t1.1 t1.2.1 t1.2.2.1 g_split g_waiting t1.2.2.2 (0 : Int32) H locs ls ⟨hP, hD, hS⟩ (lv_sub hl [1, 2, 0] rfl) hf
set_option maxHeartbeats 4000000 in
set_option maxRecDepth 100000 in
theorem c_J_isSoundQ (l : Launch) (G : va_G × (Nat → ClassId)) (Y : (Nat → Nat) × (Nat → Nat)) (h0 : Nat) (a_p1 : Nat) (a_p1_graph : Nat) (a_now : Nat) (a_images : Nat) (a_pastGraphs : Nat) (a_pastPlans : Nat) (a_queryReading : Nat) (a_planReading : Nat) (a_sets : Nat) (a_bushy : Nat) (a_line : Nat) (a_parts : Nat) (a_mover : Nat) (a_walk : Nat) (a_words : Nat) (a_trial : Nat) (a_trialSets : Nat) (a_trialBest : Nat) (a_p1_graph_rows : Nat) (a_p1_graph_left : Nat) (a_p1_graph_right : Nat) (a_p1_graph_by : Nat) (a_now_graph : Nat) (a_now_plan : Nat) (a_now_text : Nat) (a_now_text_bytes : Nat) (f_p1_fault : Int32) (f_p1_place : Int32) (f_p1_awaited : Int32) (f_p1_left : Int32) (f_p1_right : Int32) (f_acts : Int32) (f_nextAct : Int32) (f_p1_graph_relations : Int32) (f_p1_graph_edges : Int32) (f_p1_graph_limit : Int32) (f_now_fault : Int32) (f_now_place : Int32) (f_now_kept : Int32) (g_p1_graph_by : Nat → Int32) (g_p1_graph_left : Nat → Int32) (g_p1_graph_right : Nat → Int32) (g_p1_graph_rows : Nat → Int32) (f_now_text_length : Int32) (f_now_text_kind : Int32) (f_now_text_start : Int32) (f_now_text_number : Int32) (f_now_text_at : Int32) (g_now_text_bytes : Nat → Int32) (N : Nat) (res : Int32 × Int32 × Int32 × Int32 × Int32 × Int32 × Int32 × Int32 × Int32 × Int32 × Int32 × (Nat → Int32) × (Nat → Int32) × (Nat → Int32) × (Nat → Int32) × Int32 × Int32 × Int32 × Int32 × Int32) (hf : J_isSoundQ N f_p1_fault f_p1_place f_p1_awaited f_p1_left f_p1_right f_p1_graph_relations f_p1_graph_edges f_p1_graph_limit f_now_fault f_now_place g_p1_graph_by g_p1_graph_left g_p1_graph_right g_p1_graph_rows f_now_text_length f_now_text_kind f_now_text_start f_now_text_number f_now_text_at g_now_text_bytes = some res) : Ci l classes y_J_isSound b_J_isSound 2 (some .boolean) (rmk 9) G.1 (tyL G) Y [.ref h0, .ref a_p1] [(a_p1, O_Q f_p1_fault f_p1_place a_p1_graph f_p1_awaited f_p1_left f_p1_right), (h0, O_J a_now a_images a_pastGraphs a_pastPlans f_acts f_nextAct a_queryReading a_planReading a_sets a_bushy a_line a_parts a_mover a_walk a_words a_trial a_trialSets a_trialBest), (a_p1_graph, O_G f_p1_graph_relations f_p1_graph_edges f_p1_graph_limit a_p1_graph_rows a_p1_graph_left a_p1_graph_right a_p1_graph_by), (a_now, O_U a_now_graph a_now_plan a_now_text f_now_fault f_now_place f_now_kept), (a_p1_graph_by, aI G 16 g_p1_graph_by), (a_p1_graph_left, aI G 16 g_p1_graph_left), (a_p1_graph_right, aI G 16 g_p1_graph_right), (a_p1_graph_rows, aI G 8 g_p1_graph_rows), (a_now_text, O_T f_now_text_length a_now_text_bytes f_now_text_kind f_now_text_start f_now_text_number f_now_text_at), (a_now_text_bytes, aI G 500 g_now_text_bytes)] [(a_p1, O_Q res.2.1 res.2.2.1 a_p1_graph res.2.2.2.1 res.2.2.2.2.1 res.2.2.2.2.2.1), (h0, O_J a_now a_images a_pastGraphs a_pastPlans f_acts f_nextAct a_queryReading a_planReading a_sets a_bushy a_line a_parts a_mover a_walk a_words a_trial a_trialSets a_trialBest), (a_p1_graph, O_G res.2.2.2.2.2.2.1 res.2.2.2.2.2.2.2.1 res.2.2.2.2.2.2.2.2.1 a_p1_graph_rows a_p1_graph_left a_p1_graph_right a_p1_graph_by), (a_now, O_U a_now_graph a_now_plan a_now_text res.2.2.2.2.2.2.2.2.2.1 res.2.2.2.2.2.2.2.2.2.2.1 f_now_kept), (a_p1_graph_by, aI G 16 res.2.2.2.2.2.2.2.2.2.2.2.1), (a_p1_graph_left, aI G 16 res.2.2.2.2.2.2.2.2.2.2.2.2.1), (a_p1_graph_right, aI G 16 res.2.2.2.2.2.2.2.2.2.2.2.2.2.1), (a_p1_graph_rows, aI G 8 res.2.2.2.2.2.2.2.2.2.2.2.2.2.2.1), (a_now_text, O_T res.2.2.2.2.2.2.2.2.2.2.2.2.2.2.2.1 a_now_text_bytes res.2.2.2.2.2.2.2.2.2.2.2.2.2.2.2.2.1 res.2.2.2.2.2.2.2.2.2.2.2.2.2.2.2.2.2.1 res.2.2.2.2.2.2.2.2.2.2.2.2.2.2.2.2.2.2.1 res.2.2.2.2.2.2.2.2.2.2.2.2.2.2.2.2.2.2.2), (a_now_text_bytes, aI G 500 g_now_text_bytes)] res.1 := by
  refine entZ (by decide) (Nat.le_of_ble_eq_true rfl) ?_
  intro p e s m args below meth c ls A Q hx hb hml hown htl hK hsk wq hl hret
  obtain ⟨hP, hD, hS⟩ := wq
  have hl : lv_has ls 2 [(0, .ref h0), (1, .ref a_p1)] := hl
  have hS : va_S A s.heap s.heap [] := hS
  obtain ⟨H, hH⟩ : ∃ H : Heap, H = s.heap := ⟨_, rfl⟩
  obtain ⟨locs, hlocs⟩ : ∃ z : List Loc, z = [] := ⟨_, rfl⟩
  rw [← hH] at hP
  replace hS : va_S A s.heap H locs := by rw [hH, hlocs]; exact hS
  suffices hgo : W p l e (rmk 9) s m args below meth c H locs 0 0 Q (F0 m 0 ls []) by rw [hH, hlocs] at hgo; exact hgo
  refine lv_aload_n hx hb d_J_isSound_0 rfl (lv_at hl 1 rfl) ?_
  refine lv_aload_n hx hb d_J_isSound_1 rfl (lv_at hl 0 rfl) ?_
  refine va_get (D := G.1) (ci := 11) (v := .ref a_now) (C := n_J) (T := T_J) (N := 18) hx hb htl iw_J hown hK hP 1 rfl rfl 0 (by decide) (htl _ k_454) (fun _ h9 => h9) rfl d_J_isSound_2 ?_
  refine va_get (D := G.1) (ci := 9) (v := .ref a_now_text) (C := n_U) (T := T_U) (N := 6) hx hb htl iw_U hown hK hP 3 rfl rfl 2 (by decide) (htl _ k_245) (fun _ h9 => h9) rfl d_J_isSound_5 ?_
  obtain ⟨t1, hv2, hf⟩ := db_e hf
  refine call_v (isC := [8, 0, 9, 2, 4, 5, 6, 7]) (run_U (As := [.ref a_now_text]) (rest := []) (ci := 6) (q0 := 0) hx hb hml hown htl (c_Q_read l G Y  a_p1 a_now_text a_now_text_bytes a_p1_graph a_p1_graph_rows a_p1_graph_left a_p1_graph_right a_p1_graph_by f_now_text_length f_now_text_kind f_now_text_start f_now_text_number f_now_text_at f_p1_fault f_p1_place f_p1_awaited f_p1_left f_p1_right g_now_text_bytes f_p1_graph_relations f_p1_graph_edges f_p1_graph_limit g_p1_graph_by g_p1_graph_left g_p1_graph_right g_p1_graph_rows N t1 hv2) mu_Q_read k_528 (hRk (by decide) (by decide)) hK hsk hS hP hD (isC := [8, 0, 9, 2, 4, 5, 6, 7]) rfl (by decide) rfl rfl rfl hl.1 rfl (lv_room (Nat.le_of_ble_eq_true rfl)) d_J_isSound_8) hP hD hS rfl rfl (fun H locs hP hD hS => ?_)
  have hP : va_P G.1 classes [(a_p1, O_Q t1.2.2.2.2.1 t1.2.2.2.2.2.1 a_p1_graph t1.2.2.2.2.2.2.1 t1.2.2.2.2.2.2.2.1 t1.2.2.2.2.2.2.2.2.1), (h0, O_J a_now a_images a_pastGraphs a_pastPlans f_acts f_nextAct a_queryReading a_planReading a_sets a_bushy a_line a_parts a_mover a_walk a_words a_trial a_trialSets a_trialBest), (a_p1_graph, O_G t1.2.2.2.2.2.2.2.2.2.1 t1.2.2.2.2.2.2.2.2.2.2.1 t1.2.2.2.2.2.2.2.2.2.2.2.1 a_p1_graph_rows a_p1_graph_left a_p1_graph_right a_p1_graph_by), (a_now, O_U a_now_graph a_now_plan a_now_text f_now_fault f_now_place f_now_kept), (a_p1_graph_by, aI G 16 t1.2.2.2.2.2.2.2.2.2.2.2.2.1), (a_p1_graph_left, aI G 16 t1.2.2.2.2.2.2.2.2.2.2.2.2.2.1), (a_p1_graph_right, aI G 16 t1.2.2.2.2.2.2.2.2.2.2.2.2.2.2.1), (a_p1_graph_rows, aI G 8 t1.2.2.2.2.2.2.2.2.2.2.2.2.2.2.2), (a_now_text, O_T f_now_text_length a_now_text_bytes t1.1 t1.2.1 t1.2.2.1 t1.2.2.2.1), (a_now_text_bytes, aI G 500 g_now_text_bytes)] H := hP
  have hD : va_D A [(a_p1, O_Q t1.2.2.2.2.1 t1.2.2.2.2.2.1 a_p1_graph t1.2.2.2.2.2.2.1 t1.2.2.2.2.2.2.2.1 t1.2.2.2.2.2.2.2.2.1), (h0, O_J a_now a_images a_pastGraphs a_pastPlans f_acts f_nextAct a_queryReading a_planReading a_sets a_bushy a_line a_parts a_mover a_walk a_words a_trial a_trialSets a_trialBest), (a_p1_graph, O_G t1.2.2.2.2.2.2.2.2.2.1 t1.2.2.2.2.2.2.2.2.2.2.1 t1.2.2.2.2.2.2.2.2.2.2.2.1 a_p1_graph_rows a_p1_graph_left a_p1_graph_right a_p1_graph_by), (a_now, O_U a_now_graph a_now_plan a_now_text f_now_fault f_now_place f_now_kept), (a_p1_graph_by, aI G 16 t1.2.2.2.2.2.2.2.2.2.2.2.2.1), (a_p1_graph_left, aI G 16 t1.2.2.2.2.2.2.2.2.2.2.2.2.2.1), (a_p1_graph_right, aI G 16 t1.2.2.2.2.2.2.2.2.2.2.2.2.2.2.1), (a_p1_graph_rows, aI G 8 t1.2.2.2.2.2.2.2.2.2.2.2.2.2.2.2), (a_now_text, O_T f_now_text_length a_now_text_bytes t1.1 t1.2.1 t1.2.2.1 t1.2.2.2.1), (a_now_text_bytes, aI G 500 g_now_text_bytes)] := hD
  refine lv_aload_n hx hb d_J_isSound_11 rfl (lv_at hl 0 rfl) ?_
  refine va_get (D := G.1) (ci := 11) (v := .ref a_now) (C := n_J) (T := T_J) (N := 18) hx hb htl iw_J hown hK hP 1 rfl rfl 0 (by decide) (htl _ k_454) (fun _ h9 => h9) rfl d_J_isSound_12 ?_
  refine va_get (D := G.1) (ci := 9) (v := .ref a_now_text) (C := n_U) (T := T_U) (N := 6) hx hb htl iw_U hown hK hP 3 rfl rfl 2 (by decide) (htl _ k_245) (fun _ h9 => h9) rfl d_J_isSound_15 ?_
  refine lv_iconst (v := (0 : Int32)) hx hb d_J_isSound_18 (by decide) ?_
  refine va_put (D := G.1) (ci := 10) (v := .int (0 : Int32)) (ty := .int) (C := n_T) (T := T_T) (N := 6) hx hb htl iw_T ty_T ty_T_ok nm_T hown hK hP hD hS 8 rfl rfl 0 (by decide) (htl _ k_215) (fun _ h9 => h9) rfl (by decide +kernel) rfl rfl (Nat.le_of_ble_eq_true rfl) d_J_isSound_19 (fun H locs hP hD hS => ?_)
  have hP : va_P G.1 classes [(a_p1, O_Q t1.2.2.2.2.1 t1.2.2.2.2.2.1 a_p1_graph t1.2.2.2.2.2.2.1 t1.2.2.2.2.2.2.2.1 t1.2.2.2.2.2.2.2.2.1), (h0, O_J a_now a_images a_pastGraphs a_pastPlans f_acts f_nextAct a_queryReading a_planReading a_sets a_bushy a_line a_parts a_mover a_walk a_words a_trial a_trialSets a_trialBest), (a_p1_graph, O_G t1.2.2.2.2.2.2.2.2.2.1 t1.2.2.2.2.2.2.2.2.2.2.1 t1.2.2.2.2.2.2.2.2.2.2.2.1 a_p1_graph_rows a_p1_graph_left a_p1_graph_right a_p1_graph_by), (a_now, O_U a_now_graph a_now_plan a_now_text f_now_fault f_now_place f_now_kept), (a_p1_graph_by, aI G 16 t1.2.2.2.2.2.2.2.2.2.2.2.2.1), (a_p1_graph_left, aI G 16 t1.2.2.2.2.2.2.2.2.2.2.2.2.2.1), (a_p1_graph_right, aI G 16 t1.2.2.2.2.2.2.2.2.2.2.2.2.2.2.1), (a_p1_graph_rows, aI G 8 t1.2.2.2.2.2.2.2.2.2.2.2.2.2.2.2), (a_now_text, O_T (0 : Int32) a_now_text_bytes t1.1 t1.2.1 t1.2.2.1 t1.2.2.2.1), (a_now_text_bytes, aI G 500 g_now_text_bytes)] H := hP
  have hD : va_D A [(a_p1, O_Q t1.2.2.2.2.1 t1.2.2.2.2.2.1 a_p1_graph t1.2.2.2.2.2.2.1 t1.2.2.2.2.2.2.2.1 t1.2.2.2.2.2.2.2.2.1), (h0, O_J a_now a_images a_pastGraphs a_pastPlans f_acts f_nextAct a_queryReading a_planReading a_sets a_bushy a_line a_parts a_mover a_walk a_words a_trial a_trialSets a_trialBest), (a_p1_graph, O_G t1.2.2.2.2.2.2.2.2.2.1 t1.2.2.2.2.2.2.2.2.2.2.1 t1.2.2.2.2.2.2.2.2.2.2.2.1 a_p1_graph_rows a_p1_graph_left a_p1_graph_right a_p1_graph_by), (a_now, O_U a_now_graph a_now_plan a_now_text f_now_fault f_now_place f_now_kept), (a_p1_graph_by, aI G 16 t1.2.2.2.2.2.2.2.2.2.2.2.2.1), (a_p1_graph_left, aI G 16 t1.2.2.2.2.2.2.2.2.2.2.2.2.2.1), (a_p1_graph_right, aI G 16 t1.2.2.2.2.2.2.2.2.2.2.2.2.2.2.1), (a_p1_graph_rows, aI G 8 t1.2.2.2.2.2.2.2.2.2.2.2.2.2.2.2), (a_now_text, O_T (0 : Int32) a_now_text_bytes t1.1 t1.2.1 t1.2.2.1 t1.2.2.2.1), (a_now_text_bytes, aI G 500 g_now_text_bytes)] := hD
  refine lv_aload_n hx hb d_J_isSound_22 rfl (lv_at hl 0 rfl) ?_
  refine va_get (D := G.1) (ci := 11) (v := .ref a_now) (C := n_J) (T := T_J) (N := 18) hx hb htl iw_J hown hK hP 1 rfl rfl 0 (by decide) (htl _ k_454) (fun _ h9 => h9) rfl d_J_isSound_23 ?_
  refine lv_aload_n hx hb d_J_isSound_26 rfl (lv_at hl 1 rfl) ?_
  refine va_get (D := G.1) (ci := 6) (v := .int t1.2.2.2.2.1) (C := n_Q) (T := T_Q) (N := 6) hx hb htl iw_Q hown hK hP 0 rfl rfl 0 (by decide) (htl _ k_288) (fun _ h9 => h9) rfl d_J_isSound_27 ?_
  refine va_put (D := G.1) (ci := 9) (v := .int t1.2.2.2.2.1) (ty := .int) (C := n_U) (T := T_U) (N := 6) hx hb htl iw_U ty_U ty_U_ok nm_U hown hK hP hD hS 3 rfl rfl 3 (by decide) (htl _ k_247) (fun _ h9 => h9) rfl (by decide +kernel) rfl rfl (Nat.le_of_ble_eq_true rfl) d_J_isSound_30 (fun H locs hP hD hS => ?_)
  have hP : va_P G.1 classes [(a_p1, O_Q t1.2.2.2.2.1 t1.2.2.2.2.2.1 a_p1_graph t1.2.2.2.2.2.2.1 t1.2.2.2.2.2.2.2.1 t1.2.2.2.2.2.2.2.2.1), (h0, O_J a_now a_images a_pastGraphs a_pastPlans f_acts f_nextAct a_queryReading a_planReading a_sets a_bushy a_line a_parts a_mover a_walk a_words a_trial a_trialSets a_trialBest), (a_p1_graph, O_G t1.2.2.2.2.2.2.2.2.2.1 t1.2.2.2.2.2.2.2.2.2.2.1 t1.2.2.2.2.2.2.2.2.2.2.2.1 a_p1_graph_rows a_p1_graph_left a_p1_graph_right a_p1_graph_by), (a_now, O_U a_now_graph a_now_plan a_now_text t1.2.2.2.2.1 f_now_place f_now_kept), (a_p1_graph_by, aI G 16 t1.2.2.2.2.2.2.2.2.2.2.2.2.1), (a_p1_graph_left, aI G 16 t1.2.2.2.2.2.2.2.2.2.2.2.2.2.1), (a_p1_graph_right, aI G 16 t1.2.2.2.2.2.2.2.2.2.2.2.2.2.2.1), (a_p1_graph_rows, aI G 8 t1.2.2.2.2.2.2.2.2.2.2.2.2.2.2.2), (a_now_text, O_T (0 : Int32) a_now_text_bytes t1.1 t1.2.1 t1.2.2.1 t1.2.2.2.1), (a_now_text_bytes, aI G 500 g_now_text_bytes)] H := hP
  have hD : va_D A [(a_p1, O_Q t1.2.2.2.2.1 t1.2.2.2.2.2.1 a_p1_graph t1.2.2.2.2.2.2.1 t1.2.2.2.2.2.2.2.1 t1.2.2.2.2.2.2.2.2.1), (h0, O_J a_now a_images a_pastGraphs a_pastPlans f_acts f_nextAct a_queryReading a_planReading a_sets a_bushy a_line a_parts a_mover a_walk a_words a_trial a_trialSets a_trialBest), (a_p1_graph, O_G t1.2.2.2.2.2.2.2.2.2.1 t1.2.2.2.2.2.2.2.2.2.2.1 t1.2.2.2.2.2.2.2.2.2.2.2.1 a_p1_graph_rows a_p1_graph_left a_p1_graph_right a_p1_graph_by), (a_now, O_U a_now_graph a_now_plan a_now_text t1.2.2.2.2.1 f_now_place f_now_kept), (a_p1_graph_by, aI G 16 t1.2.2.2.2.2.2.2.2.2.2.2.2.1), (a_p1_graph_left, aI G 16 t1.2.2.2.2.2.2.2.2.2.2.2.2.2.1), (a_p1_graph_right, aI G 16 t1.2.2.2.2.2.2.2.2.2.2.2.2.2.2.1), (a_p1_graph_rows, aI G 8 t1.2.2.2.2.2.2.2.2.2.2.2.2.2.2.2), (a_now_text, O_T (0 : Int32) a_now_text_bytes t1.1 t1.2.1 t1.2.2.1 t1.2.2.2.1), (a_now_text_bytes, aI G 500 g_now_text_bytes)] := hD
  refine lv_aload_n hx hb d_J_isSound_33 rfl (lv_at hl 0 rfl) ?_
  refine va_get (D := G.1) (ci := 11) (v := .ref a_now) (C := n_J) (T := T_J) (N := 18) hx hb htl iw_J hown hK hP 1 rfl rfl 0 (by decide) (htl _ k_454) (fun _ h9 => h9) rfl d_J_isSound_34 ?_
  refine lv_aload_n hx hb d_J_isSound_37 rfl (lv_at hl 1 rfl) ?_
  refine va_get (D := G.1) (ci := 6) (v := .int t1.2.2.2.2.2.1) (C := n_Q) (T := T_Q) (N := 6) hx hb htl iw_Q hown hK hP 0 rfl rfl 1 (by decide) (htl _ k_290) (fun _ h9 => h9) rfl d_J_isSound_38 ?_
  refine va_put (D := G.1) (ci := 9) (v := .int t1.2.2.2.2.2.1) (ty := .int) (C := n_U) (T := T_U) (N := 6) hx hb htl iw_U ty_U ty_U_ok nm_U hown hK hP hD hS 3 rfl rfl 4 (by decide) (htl _ k_249) (fun _ h9 => h9) rfl (by decide +kernel) rfl rfl (Nat.le_of_ble_eq_true rfl) d_J_isSound_41 (fun H locs hP hD hS => ?_)
  have hP : va_P G.1 classes [(a_p1, O_Q t1.2.2.2.2.1 t1.2.2.2.2.2.1 a_p1_graph t1.2.2.2.2.2.2.1 t1.2.2.2.2.2.2.2.1 t1.2.2.2.2.2.2.2.2.1), (h0, O_J a_now a_images a_pastGraphs a_pastPlans f_acts f_nextAct a_queryReading a_planReading a_sets a_bushy a_line a_parts a_mover a_walk a_words a_trial a_trialSets a_trialBest), (a_p1_graph, O_G t1.2.2.2.2.2.2.2.2.2.1 t1.2.2.2.2.2.2.2.2.2.2.1 t1.2.2.2.2.2.2.2.2.2.2.2.1 a_p1_graph_rows a_p1_graph_left a_p1_graph_right a_p1_graph_by), (a_now, O_U a_now_graph a_now_plan a_now_text t1.2.2.2.2.1 t1.2.2.2.2.2.1 f_now_kept), (a_p1_graph_by, aI G 16 t1.2.2.2.2.2.2.2.2.2.2.2.2.1), (a_p1_graph_left, aI G 16 t1.2.2.2.2.2.2.2.2.2.2.2.2.2.1), (a_p1_graph_right, aI G 16 t1.2.2.2.2.2.2.2.2.2.2.2.2.2.2.1), (a_p1_graph_rows, aI G 8 t1.2.2.2.2.2.2.2.2.2.2.2.2.2.2.2), (a_now_text, O_T (0 : Int32) a_now_text_bytes t1.1 t1.2.1 t1.2.2.1 t1.2.2.2.1), (a_now_text_bytes, aI G 500 g_now_text_bytes)] H := hP
  have hD : va_D A [(a_p1, O_Q t1.2.2.2.2.1 t1.2.2.2.2.2.1 a_p1_graph t1.2.2.2.2.2.2.1 t1.2.2.2.2.2.2.2.1 t1.2.2.2.2.2.2.2.2.1), (h0, O_J a_now a_images a_pastGraphs a_pastPlans f_acts f_nextAct a_queryReading a_planReading a_sets a_bushy a_line a_parts a_mover a_walk a_words a_trial a_trialSets a_trialBest), (a_p1_graph, O_G t1.2.2.2.2.2.2.2.2.2.1 t1.2.2.2.2.2.2.2.2.2.2.1 t1.2.2.2.2.2.2.2.2.2.2.2.1 a_p1_graph_rows a_p1_graph_left a_p1_graph_right a_p1_graph_by), (a_now, O_U a_now_graph a_now_plan a_now_text t1.2.2.2.2.1 t1.2.2.2.2.2.1 f_now_kept), (a_p1_graph_by, aI G 16 t1.2.2.2.2.2.2.2.2.2.2.2.2.1), (a_p1_graph_left, aI G 16 t1.2.2.2.2.2.2.2.2.2.2.2.2.2.1), (a_p1_graph_right, aI G 16 t1.2.2.2.2.2.2.2.2.2.2.2.2.2.2.1), (a_p1_graph_rows, aI G 8 t1.2.2.2.2.2.2.2.2.2.2.2.2.2.2.2), (a_now_text, O_T (0 : Int32) a_now_text_bytes t1.1 t1.2.1 t1.2.2.1 t1.2.2.2.1), (a_now_text_bytes, aI G 500 g_now_text_bytes)] := hD
  refine lv_aload_n hx hb d_J_isSound_44 rfl (lv_at hl 1 rfl) ?_
  refine va_get (D := G.1) (ci := 6) (v := .int t1.2.2.2.2.1) (C := n_Q) (T := T_Q) (N := 6) hx hb htl iw_Q hown hK hP 0 rfl rfl 0 (by decide) (htl _ k_288) (fun _ h9 => h9) rfl d_J_isSound_45 ?_
  refine lv_if_ne (tgt := 55) hx hb d_J_isSound_48 (by decide) (fun c3 => ?_) (fun c3 => ?_)
  · have hf := di_f c3 hf
    refine lv_iconst (v := (0 : Int32)) hx hb d_J_isSound_55 (by decide) ?_
    cases hf
    exact hret 56 ls H locs z_0 hP hS d_J_isSound_56
  · have hf := di_t c3 hf
    refine lv_iconst (v := (1 : Int32)) hx hb d_J_isSound_51 (by decide) ?_
    refine lv_goto (tgt := 56) hx hb d_J_isSound_52 (by decide) ?_
    cases hf
    exact hret 56 ls H locs z_1 hP hS d_J_isSound_56
set_option maxHeartbeats 4000000 in
set_option maxRecDepth 100000 in
theorem c_J_isSoundL (l : Launch) (G : va_G × (Nat → ClassId)) (Y : (Nat → Nat) × (Nat → Nat)) (h0 : Nat) (a_p1 : Nat) (a_p1_split : Nat) (a_p1_within : Nat) (a_p1_waiting : Nat) (a_now : Nat) (a_images : Nat) (a_pastGraphs : Nat) (a_pastPlans : Nat) (a_queryReading : Nat) (a_planReading : Nat) (a_sets : Nat) (a_bushy : Nat) (a_line : Nat) (a_parts : Nat) (a_mover : Nat) (a_walk : Nat) (a_words : Nat) (a_trial : Nat) (a_trialSets : Nat) (a_trialBest : Nat) (a_now_graph : Nat) (a_now_plan : Nat) (a_now_text : Nat) (a_now_text_bytes : Nat) (f_p1_fault : Int32) (f_p1_place : Int32) (f_p1_relations : Int32) (f_p1_depth : Int32) (f_p1_waitingMany : Int32) (f_p1_taken : Int32) (f_acts : Int32) (f_nextAct : Int32) (g_p1_split : Nat → Int32) (g_p1_waiting : Nat → Int32) (g_p1_within : Nat → Int32) (f_now_fault : Int32) (f_now_place : Int32) (f_now_kept : Int32) (f_now_text_length : Int32) (f_now_text_kind : Int32) (f_now_text_start : Int32) (f_now_text_number : Int32) (f_now_text_at : Int32) (g_now_text_bytes : Nat → Int32) (N : Nat) (res : Int32 × Int32 × Int32 × Int32 × Int32 × Int32 × (Nat → Int32) × (Nat → Int32) × (Nat → Int32) × Int32 × Int32 × Int32 × Int32 × Int32 × Int32 × Int32) (hf : J_isSoundL N f_p1_fault f_p1_place f_p1_relations f_p1_depth f_p1_waitingMany f_p1_taken g_p1_split g_p1_waiting g_p1_within f_now_fault f_now_place f_now_text_length f_now_text_kind f_now_text_start f_now_text_number f_now_text_at g_now_text_bytes = some res) : Ci l classes y_J_isSound b_J_isSound 2 (some .boolean) (rmk 9) G.1 (tyL G) Y [.ref h0, .ref a_p1] [(a_p1, O_L f_p1_fault f_p1_place f_p1_relations a_p1_split a_p1_within f_p1_depth a_p1_waiting f_p1_waitingMany f_p1_taken), (h0, O_J a_now a_images a_pastGraphs a_pastPlans f_acts f_nextAct a_queryReading a_planReading a_sets a_bushy a_line a_parts a_mover a_walk a_words a_trial a_trialSets a_trialBest), (a_p1_split, aI G 256 g_p1_split), (a_p1_waiting, aI G 8 g_p1_waiting), (a_p1_within, aI G 501 g_p1_within), (a_now, O_U a_now_graph a_now_plan a_now_text f_now_fault f_now_place f_now_kept), (a_now_text, O_T f_now_text_length a_now_text_bytes f_now_text_kind f_now_text_start f_now_text_number f_now_text_at), (a_now_text_bytes, aI G 500 g_now_text_bytes)] [(a_p1, O_L res.2.1 res.2.2.1 f_p1_relations a_p1_split a_p1_within res.2.2.2.1 a_p1_waiting res.2.2.2.2.1 res.2.2.2.2.2.1), (h0, O_J a_now a_images a_pastGraphs a_pastPlans f_acts f_nextAct a_queryReading a_planReading a_sets a_bushy a_line a_parts a_mover a_walk a_words a_trial a_trialSets a_trialBest), (a_p1_split, aI G 256 res.2.2.2.2.2.2.1), (a_p1_waiting, aI G 8 res.2.2.2.2.2.2.2.1), (a_p1_within, aI G 501 res.2.2.2.2.2.2.2.2.1), (a_now, O_U a_now_graph a_now_plan a_now_text res.2.2.2.2.2.2.2.2.2.1 res.2.2.2.2.2.2.2.2.2.2.1 f_now_kept), (a_now_text, O_T res.2.2.2.2.2.2.2.2.2.2.2.1 a_now_text_bytes res.2.2.2.2.2.2.2.2.2.2.2.2.1 res.2.2.2.2.2.2.2.2.2.2.2.2.2.1 res.2.2.2.2.2.2.2.2.2.2.2.2.2.2.1 res.2.2.2.2.2.2.2.2.2.2.2.2.2.2.2), (a_now_text_bytes, aI G 500 g_now_text_bytes)] res.1 := by
  refine entZ (by decide) (Nat.le_of_ble_eq_true rfl) ?_
  intro p e s m args below meth c ls A Q hx hb hml hown htl hK hsk wq hl hret
  obtain ⟨hP, hD, hS⟩ := wq
  have hl : lv_has ls 2 [(0, .ref h0), (1, .ref a_p1)] := hl
  have hS : va_S A s.heap s.heap [] := hS
  obtain ⟨H, hH⟩ : ∃ H : Heap, H = s.heap := ⟨_, rfl⟩
  obtain ⟨locs, hlocs⟩ : ∃ z : List Loc, z = [] := ⟨_, rfl⟩
  rw [← hH] at hP
  replace hS : va_S A s.heap H locs := by rw [hH, hlocs]; exact hS
  suffices hgo : W p l e (rmk 9) s m args below meth c H locs 0 0 Q (F0 m 0 ls []) by rw [hH, hlocs] at hgo; exact hgo
  refine lv_aload_n hx hb d_J_isSound_0 rfl (lv_at hl 1 rfl) ?_
  refine lv_aload_n hx hb d_J_isSound_1 rfl (lv_at hl 0 rfl) ?_
  refine va_get (D := G.1) (ci := 11) (v := .ref a_now) (C := n_J) (T := T_J) (N := 18) hx hb htl iw_J hown hK hP 1 rfl rfl 0 (by decide) (htl _ k_454) (fun _ h9 => h9) rfl d_J_isSound_2 ?_
  refine va_get (D := G.1) (ci := 9) (v := .ref a_now_text) (C := n_U) (T := T_U) (N := 6) hx hb htl iw_U hown hK hP 5 rfl rfl 2 (by decide) (htl _ k_245) (fun _ h9 => h9) rfl d_J_isSound_5 ?_
  obtain ⟨t1, hv2, hf⟩ := db_e hf
  refine call_v (isC := [6, 0, 7, 2, 3, 4]) (run_U (As := [.ref a_now_text]) (rest := []) (ci := 5) (q0 := 0) hx hb hml hown htl (c_L_read l G Y  a_p1 a_now_text a_now_text_bytes a_p1_split a_p1_within a_p1_waiting f_now_text_length f_now_text_kind f_now_text_start f_now_text_number f_now_text_at f_p1_fault f_p1_place f_p1_relations f_p1_depth f_p1_waitingMany f_p1_taken g_now_text_bytes g_p1_split g_p1_waiting g_p1_within N t1 hv2) mu_L_read k_528 (hRk (by decide) (by decide)) hK hsk hS hP hD (isC := [6, 0, 7, 2, 3, 4]) rfl (by decide) rfl rfl rfl hl.1 rfl (lv_room (Nat.le_of_ble_eq_true rfl)) d_J_isSound_8) hP hD hS rfl rfl (fun H locs hP hD hS => ?_)
  have hP : va_P G.1 classes [(a_p1, O_L t1.2.2.2.2.1 t1.2.2.2.2.2.1 f_p1_relations a_p1_split a_p1_within t1.2.2.2.2.2.2.1 a_p1_waiting t1.2.2.2.2.2.2.2.1 t1.2.2.2.2.2.2.2.2.1), (h0, O_J a_now a_images a_pastGraphs a_pastPlans f_acts f_nextAct a_queryReading a_planReading a_sets a_bushy a_line a_parts a_mover a_walk a_words a_trial a_trialSets a_trialBest), (a_p1_split, aI G 256 t1.2.2.2.2.2.2.2.2.2.1), (a_p1_waiting, aI G 8 t1.2.2.2.2.2.2.2.2.2.2.1), (a_p1_within, aI G 501 t1.2.2.2.2.2.2.2.2.2.2.2), (a_now, O_U a_now_graph a_now_plan a_now_text f_now_fault f_now_place f_now_kept), (a_now_text, O_T f_now_text_length a_now_text_bytes t1.1 t1.2.1 t1.2.2.1 t1.2.2.2.1), (a_now_text_bytes, aI G 500 g_now_text_bytes)] H := hP
  have hD : va_D A [(a_p1, O_L t1.2.2.2.2.1 t1.2.2.2.2.2.1 f_p1_relations a_p1_split a_p1_within t1.2.2.2.2.2.2.1 a_p1_waiting t1.2.2.2.2.2.2.2.1 t1.2.2.2.2.2.2.2.2.1), (h0, O_J a_now a_images a_pastGraphs a_pastPlans f_acts f_nextAct a_queryReading a_planReading a_sets a_bushy a_line a_parts a_mover a_walk a_words a_trial a_trialSets a_trialBest), (a_p1_split, aI G 256 t1.2.2.2.2.2.2.2.2.2.1), (a_p1_waiting, aI G 8 t1.2.2.2.2.2.2.2.2.2.2.1), (a_p1_within, aI G 501 t1.2.2.2.2.2.2.2.2.2.2.2), (a_now, O_U a_now_graph a_now_plan a_now_text f_now_fault f_now_place f_now_kept), (a_now_text, O_T f_now_text_length a_now_text_bytes t1.1 t1.2.1 t1.2.2.1 t1.2.2.2.1), (a_now_text_bytes, aI G 500 g_now_text_bytes)] := hD
  refine lv_aload_n hx hb d_J_isSound_11 rfl (lv_at hl 0 rfl) ?_
  refine va_get (D := G.1) (ci := 11) (v := .ref a_now) (C := n_J) (T := T_J) (N := 18) hx hb htl iw_J hown hK hP 1 rfl rfl 0 (by decide) (htl _ k_454) (fun _ h9 => h9) rfl d_J_isSound_12 ?_
  refine va_get (D := G.1) (ci := 9) (v := .ref a_now_text) (C := n_U) (T := T_U) (N := 6) hx hb htl iw_U hown hK hP 5 rfl rfl 2 (by decide) (htl _ k_245) (fun _ h9 => h9) rfl d_J_isSound_15 ?_
  refine lv_iconst (v := (0 : Int32)) hx hb d_J_isSound_18 (by decide) ?_
  refine va_put (D := G.1) (ci := 10) (v := .int (0 : Int32)) (ty := .int) (C := n_T) (T := T_T) (N := 6) hx hb htl iw_T ty_T ty_T_ok nm_T hown hK hP hD hS 6 rfl rfl 0 (by decide) (htl _ k_215) (fun _ h9 => h9) rfl (by decide +kernel) rfl rfl (Nat.le_of_ble_eq_true rfl) d_J_isSound_19 (fun H locs hP hD hS => ?_)
  have hP : va_P G.1 classes [(a_p1, O_L t1.2.2.2.2.1 t1.2.2.2.2.2.1 f_p1_relations a_p1_split a_p1_within t1.2.2.2.2.2.2.1 a_p1_waiting t1.2.2.2.2.2.2.2.1 t1.2.2.2.2.2.2.2.2.1), (h0, O_J a_now a_images a_pastGraphs a_pastPlans f_acts f_nextAct a_queryReading a_planReading a_sets a_bushy a_line a_parts a_mover a_walk a_words a_trial a_trialSets a_trialBest), (a_p1_split, aI G 256 t1.2.2.2.2.2.2.2.2.2.1), (a_p1_waiting, aI G 8 t1.2.2.2.2.2.2.2.2.2.2.1), (a_p1_within, aI G 501 t1.2.2.2.2.2.2.2.2.2.2.2), (a_now, O_U a_now_graph a_now_plan a_now_text f_now_fault f_now_place f_now_kept), (a_now_text, O_T (0 : Int32) a_now_text_bytes t1.1 t1.2.1 t1.2.2.1 t1.2.2.2.1), (a_now_text_bytes, aI G 500 g_now_text_bytes)] H := hP
  have hD : va_D A [(a_p1, O_L t1.2.2.2.2.1 t1.2.2.2.2.2.1 f_p1_relations a_p1_split a_p1_within t1.2.2.2.2.2.2.1 a_p1_waiting t1.2.2.2.2.2.2.2.1 t1.2.2.2.2.2.2.2.2.1), (h0, O_J a_now a_images a_pastGraphs a_pastPlans f_acts f_nextAct a_queryReading a_planReading a_sets a_bushy a_line a_parts a_mover a_walk a_words a_trial a_trialSets a_trialBest), (a_p1_split, aI G 256 t1.2.2.2.2.2.2.2.2.2.1), (a_p1_waiting, aI G 8 t1.2.2.2.2.2.2.2.2.2.2.1), (a_p1_within, aI G 501 t1.2.2.2.2.2.2.2.2.2.2.2), (a_now, O_U a_now_graph a_now_plan a_now_text f_now_fault f_now_place f_now_kept), (a_now_text, O_T (0 : Int32) a_now_text_bytes t1.1 t1.2.1 t1.2.2.1 t1.2.2.2.1), (a_now_text_bytes, aI G 500 g_now_text_bytes)] := hD
  refine lv_aload_n hx hb d_J_isSound_22 rfl (lv_at hl 0 rfl) ?_
  refine va_get (D := G.1) (ci := 11) (v := .ref a_now) (C := n_J) (T := T_J) (N := 18) hx hb htl iw_J hown hK hP 1 rfl rfl 0 (by decide) (htl _ k_454) (fun _ h9 => h9) rfl d_J_isSound_23 ?_
  refine lv_aload_n hx hb d_J_isSound_26 rfl (lv_at hl 1 rfl) ?_
  refine va_get (D := G.1) (ci := 5) (v := .int t1.2.2.2.2.1) (C := n_L) (T := T_L) (N := 9) hx hb htl iw_L hown hK hP 0 rfl rfl 0 (by decide) (htl _ k_288) (fun _ h9 => h9) rfl d_J_isSound_27 ?_
  refine va_put (D := G.1) (ci := 9) (v := .int t1.2.2.2.2.1) (ty := .int) (C := n_U) (T := T_U) (N := 6) hx hb htl iw_U ty_U ty_U_ok nm_U hown hK hP hD hS 5 rfl rfl 3 (by decide) (htl _ k_247) (fun _ h9 => h9) rfl (by decide +kernel) rfl rfl (Nat.le_of_ble_eq_true rfl) d_J_isSound_30 (fun H locs hP hD hS => ?_)
  have hP : va_P G.1 classes [(a_p1, O_L t1.2.2.2.2.1 t1.2.2.2.2.2.1 f_p1_relations a_p1_split a_p1_within t1.2.2.2.2.2.2.1 a_p1_waiting t1.2.2.2.2.2.2.2.1 t1.2.2.2.2.2.2.2.2.1), (h0, O_J a_now a_images a_pastGraphs a_pastPlans f_acts f_nextAct a_queryReading a_planReading a_sets a_bushy a_line a_parts a_mover a_walk a_words a_trial a_trialSets a_trialBest), (a_p1_split, aI G 256 t1.2.2.2.2.2.2.2.2.2.1), (a_p1_waiting, aI G 8 t1.2.2.2.2.2.2.2.2.2.2.1), (a_p1_within, aI G 501 t1.2.2.2.2.2.2.2.2.2.2.2), (a_now, O_U a_now_graph a_now_plan a_now_text t1.2.2.2.2.1 f_now_place f_now_kept), (a_now_text, O_T (0 : Int32) a_now_text_bytes t1.1 t1.2.1 t1.2.2.1 t1.2.2.2.1), (a_now_text_bytes, aI G 500 g_now_text_bytes)] H := hP
  have hD : va_D A [(a_p1, O_L t1.2.2.2.2.1 t1.2.2.2.2.2.1 f_p1_relations a_p1_split a_p1_within t1.2.2.2.2.2.2.1 a_p1_waiting t1.2.2.2.2.2.2.2.1 t1.2.2.2.2.2.2.2.2.1), (h0, O_J a_now a_images a_pastGraphs a_pastPlans f_acts f_nextAct a_queryReading a_planReading a_sets a_bushy a_line a_parts a_mover a_walk a_words a_trial a_trialSets a_trialBest), (a_p1_split, aI G 256 t1.2.2.2.2.2.2.2.2.2.1), (a_p1_waiting, aI G 8 t1.2.2.2.2.2.2.2.2.2.2.1), (a_p1_within, aI G 501 t1.2.2.2.2.2.2.2.2.2.2.2), (a_now, O_U a_now_graph a_now_plan a_now_text t1.2.2.2.2.1 f_now_place f_now_kept), (a_now_text, O_T (0 : Int32) a_now_text_bytes t1.1 t1.2.1 t1.2.2.1 t1.2.2.2.1), (a_now_text_bytes, aI G 500 g_now_text_bytes)] := hD
  refine lv_aload_n hx hb d_J_isSound_33 rfl (lv_at hl 0 rfl) ?_
  refine va_get (D := G.1) (ci := 11) (v := .ref a_now) (C := n_J) (T := T_J) (N := 18) hx hb htl iw_J hown hK hP 1 rfl rfl 0 (by decide) (htl _ k_454) (fun _ h9 => h9) rfl d_J_isSound_34 ?_
  refine lv_aload_n hx hb d_J_isSound_37 rfl (lv_at hl 1 rfl) ?_
  refine va_get (D := G.1) (ci := 5) (v := .int t1.2.2.2.2.2.1) (C := n_L) (T := T_L) (N := 9) hx hb htl iw_L hown hK hP 0 rfl rfl 1 (by decide) (htl _ k_290) (fun _ h9 => h9) rfl d_J_isSound_38 ?_
  refine va_put (D := G.1) (ci := 9) (v := .int t1.2.2.2.2.2.1) (ty := .int) (C := n_U) (T := T_U) (N := 6) hx hb htl iw_U ty_U ty_U_ok nm_U hown hK hP hD hS 5 rfl rfl 4 (by decide) (htl _ k_249) (fun _ h9 => h9) rfl (by decide +kernel) rfl rfl (Nat.le_of_ble_eq_true rfl) d_J_isSound_41 (fun H locs hP hD hS => ?_)
  have hP : va_P G.1 classes [(a_p1, O_L t1.2.2.2.2.1 t1.2.2.2.2.2.1 f_p1_relations a_p1_split a_p1_within t1.2.2.2.2.2.2.1 a_p1_waiting t1.2.2.2.2.2.2.2.1 t1.2.2.2.2.2.2.2.2.1), (h0, O_J a_now a_images a_pastGraphs a_pastPlans f_acts f_nextAct a_queryReading a_planReading a_sets a_bushy a_line a_parts a_mover a_walk a_words a_trial a_trialSets a_trialBest), (a_p1_split, aI G 256 t1.2.2.2.2.2.2.2.2.2.1), (a_p1_waiting, aI G 8 t1.2.2.2.2.2.2.2.2.2.2.1), (a_p1_within, aI G 501 t1.2.2.2.2.2.2.2.2.2.2.2), (a_now, O_U a_now_graph a_now_plan a_now_text t1.2.2.2.2.1 t1.2.2.2.2.2.1 f_now_kept), (a_now_text, O_T (0 : Int32) a_now_text_bytes t1.1 t1.2.1 t1.2.2.1 t1.2.2.2.1), (a_now_text_bytes, aI G 500 g_now_text_bytes)] H := hP
  have hD : va_D A [(a_p1, O_L t1.2.2.2.2.1 t1.2.2.2.2.2.1 f_p1_relations a_p1_split a_p1_within t1.2.2.2.2.2.2.1 a_p1_waiting t1.2.2.2.2.2.2.2.1 t1.2.2.2.2.2.2.2.2.1), (h0, O_J a_now a_images a_pastGraphs a_pastPlans f_acts f_nextAct a_queryReading a_planReading a_sets a_bushy a_line a_parts a_mover a_walk a_words a_trial a_trialSets a_trialBest), (a_p1_split, aI G 256 t1.2.2.2.2.2.2.2.2.2.1), (a_p1_waiting, aI G 8 t1.2.2.2.2.2.2.2.2.2.2.1), (a_p1_within, aI G 501 t1.2.2.2.2.2.2.2.2.2.2.2), (a_now, O_U a_now_graph a_now_plan a_now_text t1.2.2.2.2.1 t1.2.2.2.2.2.1 f_now_kept), (a_now_text, O_T (0 : Int32) a_now_text_bytes t1.1 t1.2.1 t1.2.2.1 t1.2.2.2.1), (a_now_text_bytes, aI G 500 g_now_text_bytes)] := hD
  refine lv_aload_n hx hb d_J_isSound_44 rfl (lv_at hl 1 rfl) ?_
  refine va_get (D := G.1) (ci := 5) (v := .int t1.2.2.2.2.1) (C := n_L) (T := T_L) (N := 9) hx hb htl iw_L hown hK hP 0 rfl rfl 0 (by decide) (htl _ k_288) (fun _ h9 => h9) rfl d_J_isSound_45 ?_
  refine lv_if_ne (tgt := 55) hx hb d_J_isSound_48 (by decide) (fun c3 => ?_) (fun c3 => ?_)
  · have hf := di_f c3 hf
    refine lv_iconst (v := (0 : Int32)) hx hb d_J_isSound_55 (by decide) ?_
    cases hf
    exact hret 56 ls H locs z_0 hP hS d_J_isSound_56
  · have hf := di_t c3 hf
    refine lv_iconst (v := (1 : Int32)) hx hb d_J_isSound_51 (by decide) ?_
    refine lv_goto (tgt := 56) hx hb d_J_isSound_52 (by decide) ?_
    cases hf
    exact hret 56 ls H locs z_1 hP hS d_J_isSound_56
