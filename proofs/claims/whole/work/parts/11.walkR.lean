set_option maxHeartbeats 4000000 in
set_option maxRecDepth 100000 in
theorem c_R_would (l : Launch) (G : va_G × (Nat → ClassId)) (Y : (Nat → Nat) × (Nat → Nat)) (h0 : Nat) (a_all : Nat) (a_text : Nat) (a_saved : Nat) (a_undone : Nat) (a_told : Nat) (a_pile : Nat) (a_open : Nat) (a_size : Nat) (a_capped : Nat) (a_connected : Nat) (a_bestCost : Nat) (a_bestCrosses : Nat) (a_bestPart : Nat) (a_part : Nat) (a_trees : Nat) (a_nodes : Nat) (a_out : Nat) (a_kept : Nat) (f_raised : Int32) (f_undos : Int32) (f_reached : Int32) (f_length : Int32) (f_begin : Int32) (f_sort : Int32) (f_sign : Int32) (f_value : Int32) (f_word : Int64) (f_wrongAt : Int32) (f_badAt : Int32) (f_bad : Int32) (f_read : Int32) (f_side : Int32) (f_piled : Int32) (f_opened : Int32) (f_joins : Int32) (f_had : Int32) (f_treeMany : Int32) (f_nodeMany : Int32) (f_moveNode : Int32) (f_movePart : Int32) (f_moveFirst : Int32) (f_moveThen : Int32) (f_moveOther : Int32) (f_outMany : Int32) (g_all : Nat → Int32) (g_bestCost : Nat → Int64) (g_bestCrosses : Nat → Int32) (g_bestPart : Nat → Int32) (g_capped : Nat → Int32) (g_connected : Nat → Int32) (g_size : Nat → Int64) (x1 : Int32) (x2 : Int32) (x3 : Int32) (N : Nat) (res : Int64 × Int32 × (Nat → Int32) × (Nat → Int64) × (Nat → Int32) × (Nat → Int32) × (Nat → Int32) × (Nat → Int32) × (Nat → Int64)) (hf : R_would N f_raised g_all g_bestCost g_bestCrosses g_bestPart g_capped g_connected g_size x1 x2 x3 = some res) : Cl l classes y_R_would b_R_would 8 (some .long) (rmk 6) G.1 (tyL G) Y [.ref h0, .int x1, .int x2, .int x3] [(h0, O_R f_raised a_all a_text a_saved a_undone f_undos f_reached f_length f_begin f_sort f_sign f_value f_word f_wrongAt f_badAt f_bad a_told f_read f_side a_pile f_piled a_open f_opened f_joins f_had a_size a_capped a_connected a_bestCost a_bestCrosses a_bestPart a_part a_trees f_treeMany a_nodes f_nodeMany f_moveNode f_movePart f_moveFirst f_moveThen f_moveOther a_out f_outMany a_kept), (a_all, aI G 1276 g_all), (a_bestCost, aJ G 512 g_bestCost), (a_bestCrosses, aI G 512 g_bestCrosses), (a_bestPart, aI G 512 g_bestPart), (a_capped, aZ G 256 g_capped), (a_connected, aZ G 256 g_connected), (a_size, aJ G 256 g_size)] [(h0, O_R res.2.1 a_all a_text a_saved a_undone f_undos f_reached f_length f_begin f_sort f_sign f_value f_word f_wrongAt f_badAt f_bad a_told f_read f_side a_pile f_piled a_open f_opened f_joins f_had a_size a_capped a_connected a_bestCost a_bestCrosses a_bestPart a_part a_trees f_treeMany a_nodes f_nodeMany f_moveNode f_movePart f_moveFirst f_moveThen f_moveOther a_out f_outMany a_kept), (a_all, aI G 1276 res.2.2.1), (a_bestCost, aJ G 512 res.2.2.2.1), (a_bestCrosses, aI G 512 res.2.2.2.2.1), (a_bestPart, aI G 512 res.2.2.2.2.2.1), (a_capped, aZ G 256 res.2.2.2.2.2.2.1), (a_connected, aZ G 256 res.2.2.2.2.2.2.2.1), (a_size, aJ G 256 res.2.2.2.2.2.2.2.2)] res.1 := by
  refine entL (by decide) (Nat.le_of_ble_eq_true rfl) ?_
  intro p e s m args below meth c ls A Q hx hb hml hown htl hK hsk wq hl hret
  obtain ⟨hP, hD, hS⟩ := wq
  have hl : lv_has ls 8 [(0, .ref h0), (1, .int x1), (2, .int x2), (3, .int x3)] := hl
  have hS : va_S A s.heap s.heap [] := hS
  obtain ⟨H, hH⟩ : ∃ H : Heap, H = s.heap := ⟨_, rfl⟩
  obtain ⟨locs, hlocs⟩ : ∃ z : List Loc, z = [] := ⟨_, rfl⟩
  rw [← hH] at hP
  replace hS : va_S A s.heap H locs := by rw [hH, hlocs]; exact hS
  suffices hgo : W p l e (rmk 6) s m args below meth c H locs 0 0 Q (F0 m 0 ls []) by rw [hH, hlocs] at hgo; exact hgo
  have hJ74 : ∀ (f_raised : Int32) (g_all : Nat → Int32) (g_bestCost : Nat → Int64) (g_bestCrosses : Nat → Int32) (g_bestPart : Nat → Int32) (g_capped : Nat → Int32) (g_connected : Nat → Int32) (g_size : Nat → Int64) (z0 : Int32) (H : Heap) (locs : List Loc) (ls : Array Slot), PDS G.1 classes A s [(h0, O_R f_raised a_all a_text a_saved a_undone f_undos f_reached f_length f_begin f_sort f_sign f_value f_word f_wrongAt f_badAt f_bad a_told f_read f_side a_pile f_piled a_open f_opened f_joins f_had a_size a_capped a_connected a_bestCost a_bestCrosses a_bestPart a_part a_trees f_treeMany a_nodes f_nodeMany f_moveNode f_movePart f_moveFirst f_moveThen f_moveOther a_out f_outMany a_kept), (a_all, aI G 1276 g_all), (a_bestCost, aJ G 512 g_bestCost), (a_bestCrosses, aI G 512 g_bestCrosses), (a_bestPart, aI G 512 g_bestPart), (a_capped, aZ G 256 g_capped), (a_connected, aZ G 256 g_connected), (a_size, aJ G 256 g_size)] H locs → lv_has ls 8 [(0, .ref h0), (3, .int x3)] → R_would_74 N f_raised g_all g_bestCost g_bestCrosses g_bestPart g_capped g_connected g_size x3 z0 = some res → W p l e (rmk 6) s m args below meth c H locs 0 0 Q (F0 m 74 ls [.int z0]) := by
    intro f_raised g_all g_bestCost g_bestCrosses g_bestPart g_capped g_connected g_size z0 H locs ls wq hl hf
    obtain ⟨hP, hD, hS⟩ := wq
    refine lv_istore (lv' := [(4, .int z0), (0, .ref h0), (3, .int x3)]) hx hb d_R_would_74 hl (by decide) rfl (fun ls hl => ?_)
    refine lv_aload_n hx hb d_R_would_76 rfl (lv_at hl 1 rfl) ?_
    refine va_get (D := G.1) (ci := 12) (v := .ref a_all) (C := n_R) (T := T_R) (N := 44) hx hb htl iw_R hown hK hP 0 rfl rfl 1 (by decide) (htl _ k_1197) (fun _ h9 => h9) rfl d_R_would_77 ?_
    refine lv_iload hx hb d_R_would_80 (lv_at hl 0 rfl) ?_
    obtain ⟨c11, hf⟩ := dk_e hf
    refine va_iald hx hb hK hP 1 1 rfl rfl c11 d_R_would_82 ?_
    refine lv_topi (fun v12 ev12 => ?_)
    have hf := dn_e ev12 hf
    refine lv_istore (lv' := [(5, .int v12), (4, .int z0), (0, .ref h0), (3, .int x3)]) hx hb d_R_would_83 hl (by decide) rfl (fun ls hl => ?_)
    refine lv_aload_n hx hb d_R_would_85 rfl (lv_at hl 2 rfl) ?_
    refine va_get (D := G.1) (ci := 12) (v := .ref a_all) (C := n_R) (T := T_R) (N := 44) hx hb htl iw_R hown hK hP 0 rfl rfl 1 (by decide) (htl _ k_1197) (fun _ h9 => h9) rfl d_R_would_86 ?_
    refine lv_iload hx hb d_R_would_89 (lv_at hl 1 rfl) ?_
    refine lv_iload_n hx hb d_R_would_91 rfl (lv_at hl 3 rfl) ?_
    refine nx_iast hx hb hK hP hD hS 1 1 rfl rfl c11 d_R_would_92 (fun v13 ev13 H locs hP hD hS => ?_)
    have hf := dn_e ev13 hf
    have hP : va_P G.1 classes [(h0, O_R f_raised a_all a_text a_saved a_undone f_undos f_reached f_length f_begin f_sort f_sign f_value f_word f_wrongAt f_badAt f_bad a_told f_read f_side a_pile f_piled a_open f_opened f_joins f_had a_size a_capped a_connected a_bestCost a_bestCrosses a_bestPart a_part a_trees f_treeMany a_nodes f_nodeMany f_moveNode f_movePart f_moveFirst f_moveThen f_moveOther a_out f_outMany a_kept), (a_all, aI G 1276 v13), (a_bestCost, aJ G 512 g_bestCost), (a_bestCrosses, aI G 512 g_bestCrosses), (a_bestPart, aI G 512 g_bestPart), (a_capped, aZ G 256 g_capped), (a_connected, aZ G 256 g_connected), (a_size, aJ G 256 g_size)] H := hP
    have hD : va_D A [(h0, O_R f_raised a_all a_text a_saved a_undone f_undos f_reached f_length f_begin f_sort f_sign f_value f_word f_wrongAt f_badAt f_bad a_told f_read f_side a_pile f_piled a_open f_opened f_joins f_had a_size a_capped a_connected a_bestCost a_bestCrosses a_bestPart a_part a_trees f_treeMany a_nodes f_nodeMany f_moveNode f_movePart f_moveFirst f_moveThen f_moveOther a_out f_outMany a_kept), (a_all, aI G 1276 v13), (a_bestCost, aJ G 512 g_bestCost), (a_bestCrosses, aI G 512 g_bestCrosses), (a_bestPart, aI G 512 g_bestPart), (a_capped, aZ G 256 g_capped), (a_connected, aZ G 256 g_connected), (a_size, aJ G 256 g_size)] := hD
    refine lv_aload_n hx hb d_R_would_93 rfl (lv_at hl 2 rfl) ?_
    obtain ⟨t14, hv15, hf⟩ := db_e hf
    refine call_l (isC := [0, 1, 2, 3, 4, 5, 6, 7]) (run_V (As := []) (rest := []) (ci := 12) (q0 := 0) hx hb hml hown htl (c_R_bestOfAll l G Y  h0 a_all a_text a_saved a_undone a_told a_pile a_open a_size a_capped a_connected a_bestCost a_bestCrosses a_bestPart a_part a_trees a_nodes a_out a_kept f_raised f_undos f_reached f_length f_begin f_sort f_sign f_value f_word f_wrongAt f_badAt f_bad f_read f_side f_piled f_opened f_joins f_had f_treeMany f_nodeMany f_moveNode f_movePart f_moveFirst f_moveThen f_moveOther f_outMany v13 g_bestCost g_bestCrosses g_bestPart g_capped g_connected g_size N t14 hv15) mv_R_bestOfAll k_1696 (hRk (by decide) (by decide)) hK hsk hS hP hD (isC := [0, 1, 2, 3, 4, 5, 6, 7]) rfl (by decide) rfl rfl rfl hl.1 rfl (lv_room (Nat.le_of_ble_eq_true rfl)) d_R_would_94) hP hD hS rfl rfl (fun H locs hP hD hS => ?_)
    have hP : va_P G.1 classes [(h0, O_R f_raised a_all a_text a_saved a_undone f_undos f_reached f_length f_begin f_sort f_sign f_value f_word f_wrongAt f_badAt f_bad a_told f_read f_side a_pile f_piled a_open f_opened f_joins f_had a_size a_capped a_connected a_bestCost a_bestCrosses a_bestPart a_part a_trees f_treeMany a_nodes f_nodeMany f_moveNode f_movePart f_moveFirst f_moveThen f_moveOther a_out f_outMany a_kept), (a_all, aI G 1276 v13), (a_bestCost, aJ G 512 t14.2.1), (a_bestCrosses, aI G 512 t14.2.2.1), (a_bestPart, aI G 512 t14.2.2.2.1), (a_capped, aZ G 256 t14.2.2.2.2.1), (a_connected, aZ G 256 t14.2.2.2.2.2.1), (a_size, aJ G 256 t14.2.2.2.2.2.2)] H := hP
    have hD : va_D A [(h0, O_R f_raised a_all a_text a_saved a_undone f_undos f_reached f_length f_begin f_sort f_sign f_value f_word f_wrongAt f_badAt f_bad a_told f_read f_side a_pile f_piled a_open f_opened f_joins f_had a_size a_capped a_connected a_bestCost a_bestCrosses a_bestPart a_part a_trees f_treeMany a_nodes f_nodeMany f_moveNode f_movePart f_moveFirst f_moveThen f_moveOther a_out f_outMany a_kept), (a_all, aI G 1276 v13), (a_bestCost, aJ G 512 t14.2.1), (a_bestCrosses, aI G 512 t14.2.2.1), (a_bestPart, aI G 512 t14.2.2.2.1), (a_capped, aZ G 256 t14.2.2.2.2.1), (a_connected, aZ G 256 t14.2.2.2.2.2.1), (a_size, aJ G 256 t14.2.2.2.2.2.2)] := hD
    refine lv_lstore (lv' := [(6, .long t14.1), (5, .int v12), (4, .int z0), (0, .ref h0), (3, .int x3)]) hx hb d_R_would_97 hl (by decide) rfl (fun ls hl => ?_)
    refine lv_aload_n hx hb d_R_would_99 rfl (lv_at hl 3 rfl) ?_
    refine va_get (D := G.1) (ci := 12) (v := .ref a_all) (C := n_R) (T := T_R) (N := 44) hx hb htl iw_R hown hK hP 0 rfl rfl 1 (by decide) (htl _ k_1197) (fun _ h9 => h9) rfl d_R_would_100 ?_
    refine lv_iload hx hb d_R_would_103 (lv_at hl 2 rfl) ?_
    refine lv_iload hx hb d_R_would_105 (lv_at hl 1 rfl) ?_
    refine nx_iast hx hb hK hP hD hS 1 1 rfl rfl c11 d_R_would_107 (fun v16 ev16 H locs hP hD hS => ?_)
    have hf := dn_e ev16 hf
    have hP : va_P G.1 classes [(h0, O_R f_raised a_all a_text a_saved a_undone f_undos f_reached f_length f_begin f_sort f_sign f_value f_word f_wrongAt f_badAt f_bad a_told f_read f_side a_pile f_piled a_open f_opened f_joins f_had a_size a_capped a_connected a_bestCost a_bestCrosses a_bestPart a_part a_trees f_treeMany a_nodes f_nodeMany f_moveNode f_movePart f_moveFirst f_moveThen f_moveOther a_out f_outMany a_kept), (a_all, aI G 1276 v16), (a_bestCost, aJ G 512 t14.2.1), (a_bestCrosses, aI G 512 t14.2.2.1), (a_bestPart, aI G 512 t14.2.2.2.1), (a_capped, aZ G 256 t14.2.2.2.2.1), (a_connected, aZ G 256 t14.2.2.2.2.2.1), (a_size, aJ G 256 t14.2.2.2.2.2.2)] H := hP
    have hD : va_D A [(h0, O_R f_raised a_all a_text a_saved a_undone f_undos f_reached f_length f_begin f_sort f_sign f_value f_word f_wrongAt f_badAt f_bad a_told f_read f_side a_pile f_piled a_open f_opened f_joins f_had a_size a_capped a_connected a_bestCost a_bestCrosses a_bestPart a_part a_trees f_treeMany a_nodes f_nodeMany f_moveNode f_movePart f_moveFirst f_moveThen f_moveOther a_out f_outMany a_kept), (a_all, aI G 1276 v16), (a_bestCost, aJ G 512 t14.2.1), (a_bestCrosses, aI G 512 t14.2.2.1), (a_bestPart, aI G 512 t14.2.2.2.1), (a_capped, aZ G 256 t14.2.2.2.2.1), (a_connected, aZ G 256 t14.2.2.2.2.2.1), (a_size, aJ G 256 t14.2.2.2.2.2.2)] := hD
    refine lv_lload hx hb d_R_would_108 (lv_at hl 0 rfl) ?_
    cases hf
    exact hret 110 ls H locs hP hS d_R_would_110
  have hJ56 : ∀ (f_raised : Int32) (g_all : Nat → Int32) (g_bestCost : Nat → Int64) (g_bestCrosses : Nat → Int32) (g_bestPart : Nat → Int32) (g_capped : Nat → Int32) (g_connected : Nat → Int32) (g_size : Nat → Int64) (H : Heap) (locs : List Loc) (ls : Array Slot), PDS G.1 classes A s [(h0, O_R f_raised a_all a_text a_saved a_undone f_undos f_reached f_length f_begin f_sort f_sign f_value f_word f_wrongAt f_badAt f_bad a_told f_read f_side a_pile f_piled a_open f_opened f_joins f_had a_size a_capped a_connected a_bestCost a_bestCrosses a_bestPart a_part a_trees f_treeMany a_nodes f_nodeMany f_moveNode f_movePart f_moveFirst f_moveThen f_moveOther a_out f_outMany a_kept), (a_all, aI G 1276 g_all), (a_bestCost, aJ G 512 g_bestCost), (a_bestCrosses, aI G 512 g_bestCrosses), (a_bestPart, aI G 512 g_bestPart), (a_capped, aZ G 256 g_capped), (a_connected, aZ G 256 g_connected), (a_size, aJ G 256 g_size)] H locs → lv_has ls 8 [(0, .ref h0), (1, .int x1), (2, .int x2), (3, .int x3)] → R_would_56 N f_raised g_all g_bestCost g_bestCrosses g_bestPart g_capped g_connected g_size x1 x2 x3 = some res → W p l e (rmk 6) s m args below meth c H locs 0 0 Q (F0 m 56 ls []) := by
    intro f_raised g_all g_bestCost g_bestCrosses g_bestPart g_capped g_connected g_size H locs ls wq hl hf
    obtain ⟨hP, hD, hS⟩ := wq
    refine lv_iload_n hx hb d_R_would_56 rfl (lv_at hl 1 rfl) ?_
    refine lv_if_eq (tgt := 71) hx hb d_R_would_57 (by decide) (fun c10 => ?_) (fun c10 => ?_)
    · have hf := di_t c10 hf
      refine lv_iconst (v := (1 : Int32)) hx hb d_R_would_71 (by decide) ?_
      refine lv_iload_n hx hb d_R_would_72 rfl (lv_at hl 2 rfl) ?_
      refine lv_iadd hx hb d_R_would_73 ?_
      exact hJ74 f_raised g_all g_bestCost g_bestCrosses g_bestPart g_capped g_connected g_size ((1 : Int32) + x2) H locs ls ⟨hP, hD, hS⟩ (lv_sub hl [0, 3] rfl) hf
    · have hf := di_f c10 hf
      refine lv_bipush (v := (10 : Int32)) hx hb d_R_would_60 (by decide) ?_
      refine lv_iconst (v := (3 : Int32)) hx hb d_R_would_62 (by decide) ?_
      refine lv_iload_n hx hb d_R_would_63 rfl (lv_at hl 2 rfl) ?_
      refine lv_imul hx hb d_R_would_64 ?_
      refine lv_iadd hx hb d_R_would_65 ?_
      refine lv_iconst (v := (2 : Int32)) hx hb d_R_would_66 (by decide) ?_
      refine lv_iadd hx hb d_R_would_67 ?_
      refine lv_goto (tgt := 74) hx hb d_R_would_68 (by decide) ?_
      exact hJ74 f_raised g_all g_bestCost g_bestCrosses g_bestPart g_capped g_connected g_size (((10 : Int32) + ((3 : Int32) * x2)) + (2 : Int32)) H locs ls ⟨hP, hD, hS⟩ (lv_sub hl [0, 3] rfl) hf
  have hJ52 : ∀ (f_raised : Int32) (g_all : Nat → Int32) (g_bestCost : Nat → Int64) (g_bestCrosses : Nat → Int32) (g_bestPart : Nat → Int32) (g_capped : Nat → Int32) (g_connected : Nat → Int32) (g_size : Nat → Int64) (H : Heap) (locs : List Loc) (ls : Array Slot), PDS G.1 classes A s [(h0, O_R f_raised a_all a_text a_saved a_undone f_undos f_reached f_length f_begin f_sort f_sign f_value f_word f_wrongAt f_badAt f_bad a_told f_read f_side a_pile f_piled a_open f_opened f_joins f_had a_size a_capped a_connected a_bestCost a_bestCrosses a_bestPart a_part a_trees f_treeMany a_nodes f_nodeMany f_moveNode f_movePart f_moveFirst f_moveThen f_moveOther a_out f_outMany a_kept), (a_all, aI G 1276 g_all), (a_bestCost, aJ G 512 g_bestCost), (a_bestCrosses, aI G 512 g_bestCrosses), (a_bestPart, aI G 512 g_bestPart), (a_capped, aZ G 256 g_capped), (a_connected, aZ G 256 g_connected), (a_size, aJ G 256 g_size)] H locs → lv_has ls 8 [] → R_would_52 N f_raised g_all g_bestCost g_bestCrosses g_bestPart g_capped g_connected g_size = some res → W p l e (rmk 6) s m args below meth c H locs 0 0 Q (F0 m 52 ls []) := by
    intro f_raised g_all g_bestCost g_bestCrosses g_bestPart g_capped g_connected g_size H locs ls wq hl hf
    obtain ⟨hP, hD, hS⟩ := wq
    refine lv_ldc2 (v := (-1 : Int64)) hx hb hown (htl _ k_1639) d_R_would_52 ?_
    cases hf
    exact hret 55 ls H locs hP hS d_R_would_55
  refine lv_aload_n hx hb d_R_would_0 rfl (lv_at hl 0 rfl) ?_
  refine lv_iconst (v := (0 : Int32)) hx hb d_R_would_1 (by decide) ?_
  refine va_put (D := G.1) (ci := 12) (v := .int (0 : Int32)) (ty := .int) (C := n_R) (T := T_R) (N := 44) hx hb htl iw_R ty_R ty_R_ok nm_R hown hK hP hD hS 0 rfl rfl 0 (by decide) (htl _ k_1196) (fun _ h9 => h9) rfl (by decide +kernel) rfl rfl (Nat.le_of_ble_eq_true rfl) d_R_would_2 (fun H locs hP hD hS => ?_)
  have hP : va_P G.1 classes [(h0, O_R (0 : Int32) a_all a_text a_saved a_undone f_undos f_reached f_length f_begin f_sort f_sign f_value f_word f_wrongAt f_badAt f_bad a_told f_read f_side a_pile f_piled a_open f_opened f_joins f_had a_size a_capped a_connected a_bestCost a_bestCrosses a_bestPart a_part a_trees f_treeMany a_nodes f_nodeMany f_moveNode f_movePart f_moveFirst f_moveThen f_moveOther a_out f_outMany a_kept), (a_all, aI G 1276 g_all), (a_bestCost, aJ G 512 g_bestCost), (a_bestCrosses, aI G 512 g_bestCrosses), (a_bestPart, aI G 512 g_bestPart), (a_capped, aZ G 256 g_capped), (a_connected, aZ G 256 g_connected), (a_size, aJ G 256 g_size)] H := hP
  have hD : va_D A [(h0, O_R (0 : Int32) a_all a_text a_saved a_undone f_undos f_reached f_length f_begin f_sort f_sign f_value f_word f_wrongAt f_badAt f_bad a_told f_read f_side a_pile f_piled a_open f_opened f_joins f_had a_size a_capped a_connected a_bestCost a_bestCrosses a_bestPart a_part a_trees f_treeMany a_nodes f_nodeMany f_moveNode f_movePart f_moveFirst f_moveThen f_moveOther a_out f_outMany a_kept), (a_all, aI G 1276 g_all), (a_bestCost, aJ G 512 g_bestCost), (a_bestCrosses, aI G 512 g_bestCrosses), (a_bestPart, aI G 512 g_bestPart), (a_capped, aZ G 256 g_capped), (a_connected, aZ G 256 g_connected), (a_size, aJ G 256 g_size)] := hD
  refine lv_iload_n hx hb d_R_would_5 rfl (lv_at hl 1 rfl) ?_
  refine lv_if_eq (tgt := 32) hx hb d_R_would_6 (by decide) (fun c1 => ?_) (fun c1 => ?_)
  · have hf := di_t c1 hf
    refine lv_aload_n hx hb d_R_would_32 rfl (lv_at hl 0 rfl) ?_
    refine lv_iload_n hx hb d_R_would_33 rfl (lv_at hl 2 rfl) ?_
    obtain ⟨t2, hv3, hf⟩ := db_e hf
    refine call_i (isC := [0, 1]) (run_V (As := [.int x2]) (rest := []) (ci := 12) (q0 := 0) hx hb hml hown htl (c_R_isRelation l G Y  h0 a_all a_text a_saved a_undone a_told a_pile a_open a_size a_capped a_connected a_bestCost a_bestCrosses a_bestPart a_part a_trees a_nodes a_out a_kept (0 : Int32) f_undos f_reached f_length f_begin f_sort f_sign f_value f_word f_wrongAt f_badAt f_bad f_read f_side f_piled f_opened f_joins f_had f_treeMany f_nodeMany f_moveNode f_movePart f_moveFirst f_moveThen f_moveOther f_outMany g_all x2 t2 hv3) mv_R_isRelation k_1454 (hRk (by decide) (by decide)) hK hsk hS hP hD (isC := [0, 1]) rfl (by decide) rfl rfl rfl hl.1 rfl (lv_room (Nat.le_of_ble_eq_true rfl)) d_R_would_34) hP hD hS rfl rfl (fun H locs hP hD hS => ?_)
    have hP : va_P G.1 classes [(h0, O_R (0 : Int32) a_all a_text a_saved a_undone f_undos f_reached f_length f_begin f_sort f_sign f_value f_word f_wrongAt f_badAt f_bad a_told f_read f_side a_pile f_piled a_open f_opened f_joins f_had a_size a_capped a_connected a_bestCost a_bestCrosses a_bestPart a_part a_trees f_treeMany a_nodes f_nodeMany f_moveNode f_movePart f_moveFirst f_moveThen f_moveOther a_out f_outMany a_kept), (a_all, aI G 1276 g_all), (a_bestCost, aJ G 512 g_bestCost), (a_bestCrosses, aI G 512 g_bestCrosses), (a_bestPart, aI G 512 g_bestPart), (a_capped, aZ G 256 g_capped), (a_connected, aZ G 256 g_connected), (a_size, aJ G 256 g_size)] H := hP
    have hD : va_D A [(h0, O_R (0 : Int32) a_all a_text a_saved a_undone f_undos f_reached f_length f_begin f_sort f_sign f_value f_word f_wrongAt f_badAt f_bad a_told f_read f_side a_pile f_piled a_open f_opened f_joins f_had a_size a_capped a_connected a_bestCost a_bestCrosses a_bestPart a_part a_trees f_treeMany a_nodes f_nodeMany f_moveNode f_movePart f_moveFirst f_moveThen f_moveOther a_out f_outMany a_kept), (a_all, aI G 1276 g_all), (a_bestCost, aJ G 512 g_bestCost), (a_bestCrosses, aI G 512 g_bestCrosses), (a_bestPart, aI G 512 g_bestPart), (a_capped, aZ G 256 g_capped), (a_connected, aZ G 256 g_connected), (a_size, aJ G 256 g_size)] := hD
    refine lv_if_eq (tgt := 52) hx hb d_R_would_37 (by decide) (fun c4 => ?_) (fun c4 => ?_)
    · have hf := di_t c4 hf
      exact hJ52 (0 : Int32) g_all g_bestCost g_bestCrosses g_bestPart g_capped g_connected g_size H locs ls ⟨hP, hD, hS⟩ (lv_sub hl [] rfl) hf
    · have hf := di_f c4 hf
      refine lv_iload_n hx hb d_R_would_40 rfl (lv_at hl 3 rfl) ?_
      refine lv_i2l hx hb d_R_would_41 rfl ?_
      refine lv_lconst (v := (1 : Int64)) hx hb d_R_would_42 (by decide) ?_
      refine lv_ldc2 (v := (1000000 : Int64)) hx hb hown (htl _ k_1445) d_R_would_43 ?_
      refine call_i (isC := []) (run_S (As := [.long x3.toInt64, .long (1 : Int64), .long (1000000 : Int64)]) (rest := []) hx hb hml hown htl (c_R_in l G Y  x3.toInt64 (1 : Int64) (1000000 : Int64) _ rfl) ms_R_in k_1356 (hRk (by decide) (by decide)) hK hsk hS hP hD (isC := []) rfl (by decide) rfl hl.1 rfl (lv_room (Nat.le_of_ble_eq_true rfl)) d_R_would_46) hP hD hS rfl rfl (fun H locs hP hD hS => ?_)
      have hP : va_P G.1 classes [(h0, O_R (0 : Int32) a_all a_text a_saved a_undone f_undos f_reached f_length f_begin f_sort f_sign f_value f_word f_wrongAt f_badAt f_bad a_told f_read f_side a_pile f_piled a_open f_opened f_joins f_had a_size a_capped a_connected a_bestCost a_bestCrosses a_bestPart a_part a_trees f_treeMany a_nodes f_nodeMany f_moveNode f_movePart f_moveFirst f_moveThen f_moveOther a_out f_outMany a_kept), (a_all, aI G 1276 g_all), (a_bestCost, aJ G 512 g_bestCost), (a_bestCrosses, aI G 512 g_bestCrosses), (a_bestPart, aI G 512 g_bestPart), (a_capped, aZ G 256 g_capped), (a_connected, aZ G 256 g_connected), (a_size, aJ G 256 g_size)] H := hP
      have hD : va_D A [(h0, O_R (0 : Int32) a_all a_text a_saved a_undone f_undos f_reached f_length f_begin f_sort f_sign f_value f_word f_wrongAt f_badAt f_bad a_told f_read f_side a_pile f_piled a_open f_opened f_joins f_had a_size a_capped a_connected a_bestCost a_bestCrosses a_bestPart a_part a_trees f_treeMany a_nodes f_nodeMany f_moveNode f_movePart f_moveFirst f_moveThen f_moveOther a_out f_outMany a_kept), (a_all, aI G 1276 g_all), (a_bestCost, aJ G 512 g_bestCost), (a_bestCrosses, aI G 512 g_bestCrosses), (a_bestPart, aI G 512 g_bestPart), (a_capped, aZ G 256 g_capped), (a_connected, aZ G 256 g_connected), (a_size, aJ G 256 g_size)] := hD
      refine lv_if_ne (tgt := 56) hx hb d_R_would_49 (by decide) (fun c5 => ?_) (fun c5 => ?_)
      · have hf := di_f c5 hf
        exact hJ56 (0 : Int32) g_all g_bestCost g_bestCrosses g_bestPart g_capped g_connected g_size H locs ls ⟨hP, hD, hS⟩ (lv_sub hl [0, 1, 2, 3] rfl) hf
      · have hf := di_t c5 hf
        exact hJ52 (0 : Int32) g_all g_bestCost g_bestCrosses g_bestPart g_capped g_connected g_size H locs ls ⟨hP, hD, hS⟩ (lv_sub hl [] rfl) hf
  · have hf := di_f c1 hf
    refine lv_aload_n hx hb d_R_would_9 rfl (lv_at hl 0 rfl) ?_
    refine lv_iload_n hx hb d_R_would_10 rfl (lv_at hl 2 rfl) ?_
    obtain ⟨t6, hv7, hf⟩ := db_e hf
    refine call_i (isC := [0, 1]) (run_V (As := [.int x2]) (rest := []) (ci := 12) (q0 := 0) hx hb hml hown htl (c_R_isEdge l G Y  h0 a_all a_text a_saved a_undone a_told a_pile a_open a_size a_capped a_connected a_bestCost a_bestCrosses a_bestPart a_part a_trees a_nodes a_out a_kept (0 : Int32) f_undos f_reached f_length f_begin f_sort f_sign f_value f_word f_wrongAt f_badAt f_bad f_read f_side f_piled f_opened f_joins f_had f_treeMany f_nodeMany f_moveNode f_movePart f_moveFirst f_moveThen f_moveOther f_outMany g_all x2 t6 hv7) mv_R_isEdge k_1478 (hRk (by decide) (by decide)) hK hsk hS hP hD (isC := [0, 1]) rfl (by decide) rfl rfl rfl hl.1 rfl (lv_room (Nat.le_of_ble_eq_true rfl)) d_R_would_11) hP hD hS rfl rfl (fun H locs hP hD hS => ?_)
    have hP : va_P G.1 classes [(h0, O_R (0 : Int32) a_all a_text a_saved a_undone f_undos f_reached f_length f_begin f_sort f_sign f_value f_word f_wrongAt f_badAt f_bad a_told f_read f_side a_pile f_piled a_open f_opened f_joins f_had a_size a_capped a_connected a_bestCost a_bestCrosses a_bestPart a_part a_trees f_treeMany a_nodes f_nodeMany f_moveNode f_movePart f_moveFirst f_moveThen f_moveOther a_out f_outMany a_kept), (a_all, aI G 1276 g_all), (a_bestCost, aJ G 512 g_bestCost), (a_bestCrosses, aI G 512 g_bestCrosses), (a_bestPart, aI G 512 g_bestPart), (a_capped, aZ G 256 g_capped), (a_connected, aZ G 256 g_connected), (a_size, aJ G 256 g_size)] H := hP
    have hD : va_D A [(h0, O_R (0 : Int32) a_all a_text a_saved a_undone f_undos f_reached f_length f_begin f_sort f_sign f_value f_word f_wrongAt f_badAt f_bad a_told f_read f_side a_pile f_piled a_open f_opened f_joins f_had a_size a_capped a_connected a_bestCost a_bestCrosses a_bestPart a_part a_trees f_treeMany a_nodes f_nodeMany f_moveNode f_movePart f_moveFirst f_moveThen f_moveOther a_out f_outMany a_kept), (a_all, aI G 1276 g_all), (a_bestCost, aJ G 512 g_bestCost), (a_bestCrosses, aI G 512 g_bestCrosses), (a_bestPart, aI G 512 g_bestPart), (a_capped, aZ G 256 g_capped), (a_connected, aZ G 256 g_connected), (a_size, aJ G 256 g_size)] := hD
    refine lv_if_eq (tgt := 52) hx hb d_R_would_14 (by decide) (fun c8 => ?_) (fun c8 => ?_)
    · have hf := di_t c8 hf
      exact hJ52 (0 : Int32) g_all g_bestCost g_bestCrosses g_bestPart g_capped g_connected g_size H locs ls ⟨hP, hD, hS⟩ (lv_sub hl [] rfl) hf
    · have hf := di_f c8 hf
      refine lv_iload_n hx hb d_R_would_17 rfl (lv_at hl 3 rfl) ?_
      refine lv_i2l hx hb d_R_would_18 rfl ?_
      refine lv_lconst (v := (1 : Int64)) hx hb d_R_would_19 (by decide) ?_
      refine lv_ldc2 (v := (100000 : Int64)) hx hb hown (htl _ k_1473) d_R_would_20 ?_
      refine call_i (isC := []) (run_S (As := [.long x3.toInt64, .long (1 : Int64), .long (100000 : Int64)]) (rest := []) hx hb hml hown htl (c_R_in l G Y  x3.toInt64 (1 : Int64) (100000 : Int64) _ rfl) ms_R_in k_1356 (hRk (by decide) (by decide)) hK hsk hS hP hD (isC := []) rfl (by decide) rfl hl.1 rfl (lv_room (Nat.le_of_ble_eq_true rfl)) d_R_would_23) hP hD hS rfl rfl (fun H locs hP hD hS => ?_)
      have hP : va_P G.1 classes [(h0, O_R (0 : Int32) a_all a_text a_saved a_undone f_undos f_reached f_length f_begin f_sort f_sign f_value f_word f_wrongAt f_badAt f_bad a_told f_read f_side a_pile f_piled a_open f_opened f_joins f_had a_size a_capped a_connected a_bestCost a_bestCrosses a_bestPart a_part a_trees f_treeMany a_nodes f_nodeMany f_moveNode f_movePart f_moveFirst f_moveThen f_moveOther a_out f_outMany a_kept), (a_all, aI G 1276 g_all), (a_bestCost, aJ G 512 g_bestCost), (a_bestCrosses, aI G 512 g_bestCrosses), (a_bestPart, aI G 512 g_bestPart), (a_capped, aZ G 256 g_capped), (a_connected, aZ G 256 g_connected), (a_size, aJ G 256 g_size)] H := hP
      have hD : va_D A [(h0, O_R (0 : Int32) a_all a_text a_saved a_undone f_undos f_reached f_length f_begin f_sort f_sign f_value f_word f_wrongAt f_badAt f_bad a_told f_read f_side a_pile f_piled a_open f_opened f_joins f_had a_size a_capped a_connected a_bestCost a_bestCrosses a_bestPart a_part a_trees f_treeMany a_nodes f_nodeMany f_moveNode f_movePart f_moveFirst f_moveThen f_moveOther a_out f_outMany a_kept), (a_all, aI G 1276 g_all), (a_bestCost, aJ G 512 g_bestCost), (a_bestCrosses, aI G 512 g_bestCrosses), (a_bestPart, aI G 512 g_bestPart), (a_capped, aZ G 256 g_capped), (a_connected, aZ G 256 g_connected), (a_size, aJ G 256 g_size)] := hD
      refine lv_if_ne (tgt := 56) hx hb d_R_would_26 (by decide) (fun c9 => ?_) (fun c9 => ?_)
      · have hf := di_f c9 hf
        exact hJ56 (0 : Int32) g_all g_bestCost g_bestCrosses g_bestPart g_capped g_connected g_size H locs ls ⟨hP, hD, hS⟩ (lv_sub hl [0, 1, 2, 3] rfl) hf
      · have hf := di_t c9 hf
        refine lv_goto (tgt := 52) hx hb d_R_would_29 (by decide) ?_
        exact hJ52 (0 : Int32) g_all g_bestCost g_bestCrosses g_bestPart g_capped g_connected g_size H locs ls ⟨hP, hD, hS⟩ (lv_sub hl [] rfl) hf
set_option maxHeartbeats 4000000 in
set_option maxRecDepth 100000 in
theorem c_R_needed (l : Launch) (G : va_G × (Nat → ClassId)) (Y : (Nat → Nat) × (Nat → Nat)) (h0 : Nat) (a_all : Nat) (a_text : Nat) (a_saved : Nat) (a_undone : Nat) (a_told : Nat) (a_pile : Nat) (a_open : Nat) (a_size : Nat) (a_capped : Nat) (a_connected : Nat) (a_bestCost : Nat) (a_bestCrosses : Nat) (a_bestPart : Nat) (a_part : Nat) (a_trees : Nat) (a_nodes : Nat) (a_out : Nat) (a_kept : Nat) (f_raised : Int32) (f_undos : Int32) (f_reached : Int32) (f_length : Int32) (f_begin : Int32) (f_sort : Int32) (f_sign : Int32) (f_value : Int32) (f_word : Int64) (f_wrongAt : Int32) (f_badAt : Int32) (f_bad : Int32) (f_read : Int32) (f_side : Int32) (f_piled : Int32) (f_opened : Int32) (f_joins : Int32) (f_had : Int32) (f_treeMany : Int32) (f_nodeMany : Int32) (f_moveNode : Int32) (f_movePart : Int32) (f_moveFirst : Int32) (f_moveThen : Int32) (f_moveOther : Int32) (f_outMany : Int32) (g_all : Nat → Int32) (g_bestCost : Nat → Int64) (g_bestCrosses : Nat → Int32) (g_bestPart : Nat → Int32) (g_capped : Nat → Int32) (g_connected : Nat → Int32) (g_kept : Nat → Int32) (g_size : Nat → Int64) (x1 : Int32) (N : Nat) (res : Int64 × Int32 × (Nat → Int32) × (Nat → Int64) × (Nat → Int32) × (Nat → Int32) × (Nat → Int32) × (Nat → Int32) × (Nat → Int32) × (Nat → Int64)) (hf : R_needed N f_raised g_all g_bestCost g_bestCrosses g_bestPart g_capped g_connected g_kept g_size x1 = some res) : Cl l classes y_R_needed b_R_needed 10 (some .long) (rmk 6) G.1 (tyL G) Y [.ref h0, .int x1] [(h0, O_R f_raised a_all a_text a_saved a_undone f_undos f_reached f_length f_begin f_sort f_sign f_value f_word f_wrongAt f_badAt f_bad a_told f_read f_side a_pile f_piled a_open f_opened f_joins f_had a_size a_capped a_connected a_bestCost a_bestCrosses a_bestPart a_part a_trees f_treeMany a_nodes f_nodeMany f_moveNode f_movePart f_moveFirst f_moveThen f_moveOther a_out f_outMany a_kept), (a_all, aI G 1276 g_all), (a_bestCost, aJ G 512 g_bestCost), (a_bestCrosses, aI G 512 g_bestCrosses), (a_bestPart, aI G 512 g_bestPart), (a_capped, aZ G 256 g_capped), (a_connected, aZ G 256 g_connected), (a_kept, aI G 64 g_kept), (a_size, aJ G 256 g_size)] [(h0, O_R res.2.1 a_all a_text a_saved a_undone f_undos f_reached f_length f_begin f_sort f_sign f_value f_word f_wrongAt f_badAt f_bad a_told f_read f_side a_pile f_piled a_open f_opened f_joins f_had a_size a_capped a_connected a_bestCost a_bestCrosses a_bestPart a_part a_trees f_treeMany a_nodes f_nodeMany f_moveNode f_movePart f_moveFirst f_moveThen f_moveOther a_out f_outMany a_kept), (a_all, aI G 1276 res.2.2.1), (a_bestCost, aJ G 512 res.2.2.2.1), (a_bestCrosses, aI G 512 res.2.2.2.2.1), (a_bestPart, aI G 512 res.2.2.2.2.2.1), (a_capped, aZ G 256 res.2.2.2.2.2.2.1), (a_connected, aZ G 256 res.2.2.2.2.2.2.2.1), (a_kept, aI G 64 res.2.2.2.2.2.2.2.2.1), (a_size, aJ G 256 res.2.2.2.2.2.2.2.2.2)] res.1 := by
  refine entL (by decide) (Nat.le_of_ble_eq_true rfl) ?_
  intro p e s m args below meth c ls A Q hx hb hml hown htl hK hsk wq hl hret
  obtain ⟨hP, hD, hS⟩ := wq
  have hl : lv_has ls 10 [(0, .ref h0), (1, .int x1)] := hl
  have hS : va_S A s.heap s.heap [] := hS
  obtain ⟨H, hH⟩ : ∃ H : Heap, H = s.heap := ⟨_, rfl⟩
  obtain ⟨locs, hlocs⟩ : ∃ z : List Loc, z = [] := ⟨_, rfl⟩
  rw [← hH] at hP
  replace hS : va_S A s.heap H locs := by rw [hH, hlocs]; exact hS
  suffices hgo : W p l e (rmk 6) s m args below meth c H locs 0 0 Q (F0 m 0 ls []) by rw [hH, hlocs] at hgo; exact hgo
  have hJ136 : ∀ (f_raised : Int32) (g_all : Nat → Int32) (g_bestCost : Nat → Int64) (g_bestCrosses : Nat → Int32) (g_bestPart : Nat → Int32) (g_capped : Nat → Int32) (g_connected : Nat → Int32) (g_kept : Nat → Int32) (g_size : Nat → Int64) (x2 : Int32) (x3 : Int64) (H : Heap) (locs : List Loc) (ls : Array Slot), PDS G.1 classes A s [(h0, O_R f_raised a_all a_text a_saved a_undone f_undos f_reached f_length f_begin f_sort f_sign f_value f_word f_wrongAt f_badAt f_bad a_told f_read f_side a_pile f_piled a_open f_opened f_joins f_had a_size a_capped a_connected a_bestCost a_bestCrosses a_bestPart a_part a_trees f_treeMany a_nodes f_nodeMany f_moveNode f_movePart f_moveFirst f_moveThen f_moveOther a_out f_outMany a_kept), (a_all, aI G 1276 g_all), (a_bestCost, aJ G 512 g_bestCost), (a_bestCrosses, aI G 512 g_bestCrosses), (a_bestPart, aI G 512 g_bestPart), (a_capped, aZ G 256 g_capped), (a_connected, aZ G 256 g_connected), (a_kept, aI G 64 g_kept), (a_size, aJ G 256 g_size)] H locs → lv_has ls 10 [(1, .int x1), (2, .int x2), (3, .long x3)] → R_needed_136 N f_raised g_all g_bestCost g_bestCrosses g_bestPart g_capped g_connected g_kept g_size x1 x2 x3 = some res → W p l e (rmk 6) s m args below meth c H locs 0 0 Q (F0 m 136 ls []) := by
    intro f_raised g_all g_bestCost g_bestCrosses g_bestPart g_capped g_connected g_kept g_size x2 x3 H locs ls wq hl hf
    obtain ⟨hP, hD, hS⟩ := wq
    refine lv_iload_n hx hb d_R_needed_136 rfl (lv_at hl 0 rfl) ?_
    refine lv_if_eq (tgt := 144) hx hb d_R_needed_137 (by decide) (fun c21 => ?_) (fun c21 => ?_)
    · have hf := di_t c21 hf
      refine lv_iload_n hx hb d_R_needed_144 rfl (lv_at hl 1 rfl) ?_
      refine lv_i2l hx hb d_R_needed_145 rfl ?_
      cases hf
      exact hret 146 ls H locs hP hS d_R_needed_146
    · have hf := di_f c21 hf
      refine lv_lload_n hx hb d_R_needed_140 rfl (lv_at hl 2 rfl) ?_
      refine lv_goto (tgt := 146) hx hb d_R_needed_141 (by decide) ?_
      cases hf
      exact hret 146 ls H locs hP hS d_R_needed_146
  have hJ62 : ∀ (f_raised : Int32) (g_all : Nat → Int32) (g_bestCost : Nat → Int64) (g_bestCrosses : Nat → Int32) (g_bestPart : Nat → Int32) (g_capped : Nat → Int32) (g_connected : Nat → Int32) (g_kept : Nat → Int32) (g_size : Nat → Int64) (x2 : Int32) (x3 : Int64) (x5 : Int32) (x6 : Int32) (H : Heap) (locs : List Loc) (ls : Array Slot), PDS G.1 classes A s [(h0, O_R f_raised a_all a_text a_saved a_undone f_undos f_reached f_length f_begin f_sort f_sign f_value f_word f_wrongAt f_badAt f_bad a_told f_read f_side a_pile f_piled a_open f_opened f_joins f_had a_size a_capped a_connected a_bestCost a_bestCrosses a_bestPart a_part a_trees f_treeMany a_nodes f_nodeMany f_moveNode f_movePart f_moveFirst f_moveThen f_moveOther a_out f_outMany a_kept), (a_all, aI G 1276 g_all), (a_bestCost, aJ G 512 g_bestCost), (a_bestCrosses, aI G 512 g_bestCrosses), (a_bestPart, aI G 512 g_bestPart), (a_capped, aZ G 256 g_capped), (a_connected, aZ G 256 g_connected), (a_kept, aI G 64 g_kept), (a_size, aJ G 256 g_size)] H locs → lv_has ls 10 [(0, .ref h0), (1, .int x1), (2, .int x2), (3, .long x3), (5, .int x5), (6, .int x6)] → R_needed_62 N f_raised g_all g_bestCost g_bestCrosses g_bestPart g_capped g_connected g_kept g_size x1 x2 x3 x5 x6 = some res → W p l e (rmk 6) s m args below meth c H locs 0 0 Q (F0 m 62 ls []) := by
    intro f_raised g_all g_bestCost g_bestCrosses g_bestPart g_capped g_connected g_kept g_size x2 x3 x5 x6 H locs ls wq hl hf
    obtain ⟨hP, hD, hS⟩ := wq
    obtain ⟨y62, hy62, hfo62⟩ := db_e hf
    have hL62 : ∀ (n : Nat) (g_all : Nat → Int32) (g_bestCost : Nat → Int64) (g_bestCrosses : Nat → Int32) (g_bestPart : Nat → Int32) (g_capped : Nat → Int32) (g_connected : Nat → Int32) (g_size : Nat → Int64) (x2 : Int32) (x3 : Int64) (x6 : Int32) (H : Heap) (locs : List Loc) (ls : Array Slot), lp (fun x => R_needed_b62 N f_raised x.1 x.2.1 x.2.2.1 x.2.2.2.1 x.2.2.2.2.1 x.2.2.2.2.2.1 g_kept x.2.2.2.2.2.2.1 x1 x.2.2.2.2.2.2.2.1 x.2.2.2.2.2.2.2.2.1 x5 x.2.2.2.2.2.2.2.2.2) n (g_all, g_bestCost, g_bestCrosses, g_bestPart, g_capped, g_connected, g_size, x2, x3, x6) = some y62 → PDS G.1 classes A s [(h0, O_R f_raised a_all a_text a_saved a_undone f_undos f_reached f_length f_begin f_sort f_sign f_value f_word f_wrongAt f_badAt f_bad a_told f_read f_side a_pile f_piled a_open f_opened f_joins f_had a_size a_capped a_connected a_bestCost a_bestCrosses a_bestPart a_part a_trees f_treeMany a_nodes f_nodeMany f_moveNode f_movePart f_moveFirst f_moveThen f_moveOther a_out f_outMany a_kept), (a_all, aI G 1276 g_all), (a_bestCost, aJ G 512 g_bestCost), (a_bestCrosses, aI G 512 g_bestCrosses), (a_bestPart, aI G 512 g_bestPart), (a_capped, aZ G 256 g_capped), (a_connected, aZ G 256 g_connected), (a_kept, aI G 64 g_kept), (a_size, aJ G 256 g_size)] H locs → lv_has ls 10 [(0, .ref h0), (1, .int x1), (2, .int x2), (3, .long x3), (5, .int x5), (6, .int x6)] → W p l e (rmk 6) s m args below meth c H locs 0 0 Q (F0 m 62 ls []) := by
      intro n
      induction n with
      | zero =>
        intro g_all g_bestCost g_bestCrosses g_bestPart g_capped g_connected g_size x2 x3 x6 H locs ls hf
        exact lp_0 hf
      | succ n ih62 =>
        intro g_all g_bestCost g_bestCrosses g_bestPart g_capped g_connected g_size x2 x3 x6 H locs ls hf wq hl
        obtain ⟨hP, hD, hS⟩ := wq
        obtain ⟨r62, hf, hk62⟩ := lp_s hf
        have hf : R_needed_b62 N f_raised g_all g_bestCost g_bestCrosses g_bestPart g_capped g_connected g_kept g_size x1 x2 x3 x5 x6 = some r62 := hf
        have hJ130 : ∀ (g_all : Nat → Int32) (g_bestCost : Nat → Int64) (g_bestCrosses : Nat → Int32) (g_bestPart : Nat → Int32) (g_capped : Nat → Int32) (g_connected : Nat → Int32) (g_size : Nat → Int64) (x2 : Int32) (x3 : Int64) (x6 : Int32) (H : Heap) (locs : List Loc) (ls : Array Slot), PDS G.1 classes A s [(h0, O_R f_raised a_all a_text a_saved a_undone f_undos f_reached f_length f_begin f_sort f_sign f_value f_word f_wrongAt f_badAt f_bad a_told f_read f_side a_pile f_piled a_open f_opened f_joins f_had a_size a_capped a_connected a_bestCost a_bestCrosses a_bestPart a_part a_trees f_treeMany a_nodes f_nodeMany f_moveNode f_movePart f_moveFirst f_moveThen f_moveOther a_out f_outMany a_kept), (a_all, aI G 1276 g_all), (a_bestCost, aJ G 512 g_bestCost), (a_bestCrosses, aI G 512 g_bestCrosses), (a_bestPart, aI G 512 g_bestPart), (a_capped, aZ G 256 g_capped), (a_connected, aZ G 256 g_connected), (a_kept, aI G 64 g_kept), (a_size, aJ G 256 g_size)] H locs → lv_has ls 10 [(0, .ref h0), (1, .int x1), (2, .int x2), (3, .long x3), (5, .int x5), (6, .int x6)] → R_needed_130 N f_raised g_all g_bestCost g_bestCrosses g_bestPart g_capped g_connected g_kept g_size x1 x2 x3 x5 x6 = some r62 → W p l e (rmk 6) s m args below meth c H locs 0 0 Q (F0 m 130 ls []) := by
          intro g_all g_bestCost g_bestCrosses g_bestPart g_capped g_connected g_size x2 x3 x6 H locs ls wq hl hf
          obtain ⟨hP, hD, hS⟩ := wq
          obtain ⟨v20, ev20⟩ : ∃ z : Int32, z = x6 + (1 : Int32) := ⟨_, rfl⟩
          have hf := dn_e ev20 hf
          refine lv_iinc (v := v20) (lv' := [(6, .int v20), (0, .ref h0), (1, .int x1), (2, .int x2), (3, .long x3), (5, .int x5)]) hx hb d_R_needed_130 hl (k := 5) rfl (by rw [ev20]; rfl) (by decide) rfl (fun ls hl => ?_)
          refine lv_goto (tgt := 62) hx hb d_R_needed_133 (by decide) ?_
          exact ih62 g_all g_bestCost g_bestCrosses g_bestPart g_capped g_connected g_size x2 x3 v20 H locs ls (lpk_i hf hk62) ⟨hP, hD, hS⟩ (lv_sub hl [1, 2, 3, 4, 5, 0] rfl)
        have hJ103 : ∀ (g_all : Nat → Int32) (g_bestCost : Nat → Int64) (g_bestCrosses : Nat → Int32) (g_bestPart : Nat → Int32) (g_capped : Nat → Int32) (g_connected : Nat → Int32) (g_size : Nat → Int64) (x2 : Int32) (x3 : Int64) (x6 : Int32) (x9 : Int32) (H : Heap) (locs : List Loc) (ls : Array Slot), PDS G.1 classes A s [(h0, O_R f_raised a_all a_text a_saved a_undone f_undos f_reached f_length f_begin f_sort f_sign f_value f_word f_wrongAt f_badAt f_bad a_told f_read f_side a_pile f_piled a_open f_opened f_joins f_had a_size a_capped a_connected a_bestCost a_bestCrosses a_bestPart a_part a_trees f_treeMany a_nodes f_nodeMany f_moveNode f_movePart f_moveFirst f_moveThen f_moveOther a_out f_outMany a_kept), (a_all, aI G 1276 g_all), (a_bestCost, aJ G 512 g_bestCost), (a_bestCrosses, aI G 512 g_bestCrosses), (a_bestPart, aI G 512 g_bestPart), (a_capped, aZ G 256 g_capped), (a_connected, aZ G 256 g_connected), (a_kept, aI G 64 g_kept), (a_size, aJ G 256 g_size)] H locs → lv_has ls 10 [(0, .ref h0), (1, .int x1), (2, .int x2), (3, .long x3), (5, .int x5), (6, .int x6), (9, .int x9)] → R_needed_103 N f_raised g_all g_bestCost g_bestCrosses g_bestPart g_capped g_connected g_kept g_size x1 x2 x3 x5 x6 x9 = some r62 → W p l e (rmk 6) s m args below meth c H locs 0 0 Q (F0 m 103 ls []) := by
          intro g_all g_bestCost g_bestCrosses g_bestPart g_capped g_connected g_size x2 x3 x6 x9 H locs ls wq hl hf
          obtain ⟨hP, hD, hS⟩ := wq
          obtain ⟨y103, hy103, hfo103⟩ := db_e hf
          have hL103 : ∀ (n : Nat) (g_all : Nat → Int32) (x9 : Int32) (H : Heap) (locs : List Loc) (ls : Array Slot), lp (fun x => R_needed_b103 N f_raised x.1 g_bestCost g_bestCrosses g_bestPart g_capped g_connected g_kept g_size x1 x2 x3 x5 x6 x.2) n (g_all, x9) = some y103 → PDS G.1 classes A s [(h0, O_R f_raised a_all a_text a_saved a_undone f_undos f_reached f_length f_begin f_sort f_sign f_value f_word f_wrongAt f_badAt f_bad a_told f_read f_side a_pile f_piled a_open f_opened f_joins f_had a_size a_capped a_connected a_bestCost a_bestCrosses a_bestPart a_part a_trees f_treeMany a_nodes f_nodeMany f_moveNode f_movePart f_moveFirst f_moveThen f_moveOther a_out f_outMany a_kept), (a_all, aI G 1276 g_all), (a_bestCost, aJ G 512 g_bestCost), (a_bestCrosses, aI G 512 g_bestCrosses), (a_bestPart, aI G 512 g_bestPart), (a_capped, aZ G 256 g_capped), (a_connected, aZ G 256 g_connected), (a_kept, aI G 64 g_kept), (a_size, aJ G 256 g_size)] H locs → lv_has ls 10 [(0, .ref h0), (1, .int x1), (2, .int x2), (3, .long x3), (5, .int x5), (6, .int x6), (9, .int x9)] → W p l e (rmk 6) s m args below meth c H locs 0 0 Q (F0 m 103 ls []) := by
            intro n
            induction n with
            | zero =>
              intro g_all x9 H locs ls hf
              exact lp_0 hf
            | succ n ih103 =>
              intro g_all x9 H locs ls hf wq hl
              obtain ⟨hP, hD, hS⟩ := wq
              obtain ⟨r103, hf, hk103⟩ := lp_s hf
              have hf : R_needed_b103 N f_raised g_all g_bestCost g_bestCrosses g_bestPart g_capped g_connected g_kept g_size x1 x2 x3 x5 x6 x9 = some r103 := hf
              refine lv_iload hx hb d_R_needed_103 (lv_at hl 6 rfl) ?_
              refine lv_bipush (v := (58 : Int32)) hx hb d_R_needed_105 (by decide) ?_
              refine lv_icmp_ge (tgt := 130) hx hb d_R_needed_107 (by decide) (fun c15 => ?_) (fun c15 => ?_)
              · have hf := di_t c15 hf
                have hq103 := lpk_x hf hk103
                have hf := ex_y (f := fun y => R_needed_a103 N f_raised g_bestCost g_bestCrosses g_bestPart g_capped g_connected g_kept g_size x1 x2 x3 x5 x6 y) hq103 hfo103
                have hf : R_needed_130 N f_raised g_all g_bestCost g_bestCrosses g_bestPart g_capped g_connected g_kept g_size x1 x2 x3 x5 x6 = some r62 := hf
                exact hJ130 g_all g_bestCost g_bestCrosses g_bestPart g_capped g_connected g_size x2 x3 x6 H locs ls ⟨hP, hD, hS⟩ (lv_sub hl [0, 1, 2, 3, 4, 5] rfl) hf
              · have hf := di_f c15 hf
                refine lv_aload_n hx hb d_R_needed_110 rfl (lv_at hl 0 rfl) ?_
                refine va_get (D := G.1) (ci := 12) (v := .ref a_all) (C := n_R) (T := T_R) (N := 44) hx hb htl iw_R hown hK hP 0 rfl rfl 1 (by decide) (htl _ k_1197) (fun _ h9 => h9) rfl d_R_needed_111 ?_
                refine lv_iload hx hb d_R_needed_114 (lv_at hl 6 rfl) ?_
                refine lv_aload_n hx hb d_R_needed_116 rfl (lv_at hl 0 rfl) ?_
                refine va_get (D := G.1) (ci := 12) (v := .ref a_kept) (C := n_R) (T := T_R) (N := 44) hx hb htl iw_R hown hK hP 0 rfl rfl 43 (by decide) (htl _ k_1239) (fun _ h9 => h9) rfl d_R_needed_117 ?_
                refine lv_iload hx hb d_R_needed_120 (lv_at hl 6 rfl) ?_
                obtain ⟨c16, hf⟩ := dk_e hf
                refine va_iald hx hb hK hP 7 1 rfl rfl c16 d_R_needed_122 ?_
                obtain ⟨c17, hf⟩ := dk_e hf
                refine nx_iast hx hb hK hP hD hS 1 1 rfl rfl c17 d_R_needed_123 (fun v18 ev18 H locs hP hD hS => ?_)
                have hf := dn_e ev18 hf
                have hP : va_P G.1 classes [(h0, O_R f_raised a_all a_text a_saved a_undone f_undos f_reached f_length f_begin f_sort f_sign f_value f_word f_wrongAt f_badAt f_bad a_told f_read f_side a_pile f_piled a_open f_opened f_joins f_had a_size a_capped a_connected a_bestCost a_bestCrosses a_bestPart a_part a_trees f_treeMany a_nodes f_nodeMany f_moveNode f_movePart f_moveFirst f_moveThen f_moveOther a_out f_outMany a_kept), (a_all, aI G 1276 v18), (a_bestCost, aJ G 512 g_bestCost), (a_bestCrosses, aI G 512 g_bestCrosses), (a_bestPart, aI G 512 g_bestPart), (a_capped, aZ G 256 g_capped), (a_connected, aZ G 256 g_connected), (a_kept, aI G 64 g_kept), (a_size, aJ G 256 g_size)] H := hP
                have hD : va_D A [(h0, O_R f_raised a_all a_text a_saved a_undone f_undos f_reached f_length f_begin f_sort f_sign f_value f_word f_wrongAt f_badAt f_bad a_told f_read f_side a_pile f_piled a_open f_opened f_joins f_had a_size a_capped a_connected a_bestCost a_bestCrosses a_bestPart a_part a_trees f_treeMany a_nodes f_nodeMany f_moveNode f_movePart f_moveFirst f_moveThen f_moveOther a_out f_outMany a_kept), (a_all, aI G 1276 v18), (a_bestCost, aJ G 512 g_bestCost), (a_bestCrosses, aI G 512 g_bestCrosses), (a_bestPart, aI G 512 g_bestPart), (a_capped, aZ G 256 g_capped), (a_connected, aZ G 256 g_connected), (a_kept, aI G 64 g_kept), (a_size, aJ G 256 g_size)] := hD
                obtain ⟨v19, ev19⟩ : ∃ z : Int32, z = x9 + (1 : Int32) := ⟨_, rfl⟩
                have hf := dn_e ev19 hf
                refine lv_iinc (v := v19) (lv' := [(9, .int v19), (0, .ref h0), (1, .int x1), (2, .int x2), (3, .long x3), (5, .int x5), (6, .int x6)]) hx hb d_R_needed_124 hl (k := 6) rfl (by rw [ev19]; rfl) (by decide) rfl (fun ls hl => ?_)
                refine lv_goto (tgt := 103) hx hb d_R_needed_127 (by decide) ?_
                exact ih103 v18 v19 H locs ls (lpk_i hf hk103) ⟨hP, hD, hS⟩ (lv_sub hl [1, 2, 3, 4, 5, 6, 0] rfl)
          exact hL103 N g_all x9 H locs ls hy103 ⟨hP, hD, hS⟩ hl
        have hJ99 : ∀ (g_all : Nat → Int32) (g_bestCost : Nat → Int64) (g_bestCrosses : Nat → Int32) (g_bestPart : Nat → Int32) (g_capped : Nat → Int32) (g_connected : Nat → Int32) (g_size : Nat → Int64) (x2 : Int32) (x3 : Int64) (x6 : Int32) (H : Heap) (locs : List Loc) (ls : Array Slot), PDS G.1 classes A s [(h0, O_R f_raised a_all a_text a_saved a_undone f_undos f_reached f_length f_begin f_sort f_sign f_value f_word f_wrongAt f_badAt f_bad a_told f_read f_side a_pile f_piled a_open f_opened f_joins f_had a_size a_capped a_connected a_bestCost a_bestCrosses a_bestPart a_part a_trees f_treeMany a_nodes f_nodeMany f_moveNode f_movePart f_moveFirst f_moveThen f_moveOther a_out f_outMany a_kept), (a_all, aI G 1276 g_all), (a_bestCost, aJ G 512 g_bestCost), (a_bestCrosses, aI G 512 g_bestCrosses), (a_bestPart, aI G 512 g_bestPart), (a_capped, aZ G 256 g_capped), (a_connected, aZ G 256 g_connected), (a_kept, aI G 64 g_kept), (a_size, aJ G 256 g_size)] H locs → lv_has ls 10 [(0, .ref h0), (1, .int x1), (2, .int x2), (3, .long x3), (5, .int x5), (6, .int x6)] → R_needed_99 N f_raised g_all g_bestCost g_bestCrosses g_bestPart g_capped g_connected g_kept g_size x1 x2 x3 x5 x6 = some r62 → W p l e (rmk 6) s m args below meth c H locs 0 0 Q (F0 m 99 ls []) := by
          intro g_all g_bestCost g_bestCrosses g_bestPart g_capped g_connected g_size x2 x3 x6 H locs ls wq hl hf
          obtain ⟨hP, hD, hS⟩ := wq
          refine lv_bipush (v := (9 : Int32)) hx hb d_R_needed_99 (by decide) ?_
          refine lv_istore (lv' := [(9, .int (9 : Int32)), (0, .ref h0), (1, .int x1), (2, .int x2), (3, .long x3), (5, .int x5), (6, .int x6)]) hx hb d_R_needed_101 hl (by decide) rfl (fun ls hl => ?_)
          exact hJ103 g_all g_bestCost g_bestCrosses g_bestPart g_capped g_connected g_size x2 x3 x6 (9 : Int32) H locs ls ⟨hP, hD, hS⟩ (lv_sub hl [1, 2, 3, 4, 5, 6, 0] rfl) hf
        have hJ93 : ∀ (g_all : Nat → Int32) (g_bestCost : Nat → Int64) (g_bestCrosses : Nat → Int32) (g_bestPart : Nat → Int32) (g_capped : Nat → Int32) (g_connected : Nat → Int32) (g_size : Nat → Int64) (x6 : Int32) (x7 : Int64) (H : Heap) (locs : List Loc) (ls : Array Slot), PDS G.1 classes A s [(h0, O_R f_raised a_all a_text a_saved a_undone f_undos f_reached f_length f_begin f_sort f_sign f_value f_word f_wrongAt f_badAt f_bad a_told f_read f_side a_pile f_piled a_open f_opened f_joins f_had a_size a_capped a_connected a_bestCost a_bestCrosses a_bestPart a_part a_trees f_treeMany a_nodes f_nodeMany f_moveNode f_movePart f_moveFirst f_moveThen f_moveOther a_out f_outMany a_kept), (a_all, aI G 1276 g_all), (a_bestCost, aJ G 512 g_bestCost), (a_bestCrosses, aI G 512 g_bestCrosses), (a_bestPart, aI G 512 g_bestPart), (a_capped, aZ G 256 g_capped), (a_connected, aZ G 256 g_connected), (a_kept, aI G 64 g_kept), (a_size, aJ G 256 g_size)] H locs → lv_has ls 10 [(0, .ref h0), (1, .int x1), (5, .int x5), (6, .int x6), (7, .long x7)] → R_needed_93 N f_raised g_all g_bestCost g_bestCrosses g_bestPart g_capped g_connected g_kept g_size x1 x5 x6 x7 = some r62 → W p l e (rmk 6) s m args below meth c H locs 0 0 Q (F0 m 93 ls []) := by
          intro g_all g_bestCost g_bestCrosses g_bestPart g_capped g_connected g_size x6 x7 H locs ls wq hl hf
          obtain ⟨hP, hD, hS⟩ := wq
          refine lv_iload hx hb d_R_needed_93 (lv_at hl 3 rfl) ?_
          refine lv_istore_n (lv' := [(2, .int x6), (0, .ref h0), (1, .int x1), (5, .int x5), (6, .int x6), (7, .long x7)]) hx hb d_R_needed_95 rfl hl (by decide) rfl (fun ls hl => ?_)
          refine lv_lload hx hb d_R_needed_96 (lv_at hl 5 rfl) ?_
          refine lv_lstore_n (lv' := [(3, .long x7), (2, .int x6), (0, .ref h0), (1, .int x1), (5, .int x5), (6, .int x6), (7, .long x7)]) hx hb d_R_needed_98 rfl hl (by decide) rfl (fun ls hl => ?_)
          exact hJ99 g_all g_bestCost g_bestCrosses g_bestPart g_capped g_connected g_size x6 x7 x6 H locs ls ⟨hP, hD, hS⟩ (lv_sub hl [2, 3, 1, 0, 4, 5] rfl) hf
        refine lv_iload hx hb d_R_needed_62 (lv_at hl 5 rfl) ?_
        refine lv_iload hx hb d_R_needed_64 (lv_at hl 4 rfl) ?_
        refine lv_icmp_ge (tgt := 136) hx hb d_R_needed_66 (by decide) (fun c8 => ?_) (fun c8 => ?_)
        · have hf := di_t c8 hf
          have hq62 := lpk_x hf hk62
          have hf := ex_y (f := fun y => R_needed_a62 N f_raised g_kept x1 x5 y) hq62 hfo62
          have hf : R_needed_136 N f_raised g_all g_bestCost g_bestCrosses g_bestPart g_capped g_connected g_kept g_size x1 x2 x3 = some res := hf
          exact hJ136 f_raised g_all g_bestCost g_bestCrosses g_bestPart g_capped g_connected g_kept g_size x2 x3 H locs ls ⟨hP, hD, hS⟩ (lv_sub hl [1, 2, 3] rfl) hf
        · have hf := di_f c8 hf
          refine lv_aload_n hx hb d_R_needed_69 rfl (lv_at hl 0 rfl) ?_
          refine lv_iload hx hb d_R_needed_70 (lv_at hl 5 rfl) ?_
          obtain ⟨t9, hv10, hf⟩ := db_e hf
          refine call_v (isC := [0, 1]) (run_V (As := [.int x6]) (rest := []) (ci := 12) (q0 := 0) hx hb hml hown htl (c_R_takesOut l G Y  h0 a_all a_text a_saved a_undone a_told a_pile a_open a_size a_capped a_connected a_bestCost a_bestCrosses a_bestPart a_part a_trees a_nodes a_out a_kept f_raised f_undos f_reached f_length f_begin f_sort f_sign f_value f_word f_wrongAt f_badAt f_bad f_read f_side f_piled f_opened f_joins f_had f_treeMany f_nodeMany f_moveNode f_movePart f_moveFirst f_moveThen f_moveOther f_outMany g_all x6 N t9 hv10) mv_R_takesOut k_1482 (hRk (by decide) (by decide)) hK hsk hS hP hD (isC := [0, 1]) rfl (by decide) rfl rfl rfl hl.1 rfl (lv_room (Nat.le_of_ble_eq_true rfl)) d_R_needed_72) hP hD hS rfl rfl (fun H locs hP hD hS => ?_)
          have hP : va_P G.1 classes [(h0, O_R f_raised a_all a_text a_saved a_undone f_undos f_reached f_length f_begin f_sort f_sign f_value f_word f_wrongAt f_badAt f_bad a_told f_read f_side a_pile f_piled a_open f_opened f_joins f_had a_size a_capped a_connected a_bestCost a_bestCrosses a_bestPart a_part a_trees f_treeMany a_nodes f_nodeMany f_moveNode f_movePart f_moveFirst f_moveThen f_moveOther a_out f_outMany a_kept), (a_all, aI G 1276 t9), (a_bestCost, aJ G 512 g_bestCost), (a_bestCrosses, aI G 512 g_bestCrosses), (a_bestPart, aI G 512 g_bestPart), (a_capped, aZ G 256 g_capped), (a_connected, aZ G 256 g_connected), (a_kept, aI G 64 g_kept), (a_size, aJ G 256 g_size)] H := hP
          have hD : va_D A [(h0, O_R f_raised a_all a_text a_saved a_undone f_undos f_reached f_length f_begin f_sort f_sign f_value f_word f_wrongAt f_badAt f_bad a_told f_read f_side a_pile f_piled a_open f_opened f_joins f_had a_size a_capped a_connected a_bestCost a_bestCrosses a_bestPart a_part a_trees f_treeMany a_nodes f_nodeMany f_moveNode f_movePart f_moveFirst f_moveThen f_moveOther a_out f_outMany a_kept), (a_all, aI G 1276 t9), (a_bestCost, aJ G 512 g_bestCost), (a_bestCrosses, aI G 512 g_bestCrosses), (a_bestPart, aI G 512 g_bestPart), (a_capped, aZ G 256 g_capped), (a_connected, aZ G 256 g_connected), (a_kept, aI G 64 g_kept), (a_size, aJ G 256 g_size)] := hD
          refine lv_aload_n hx hb d_R_needed_75 rfl (lv_at hl 0 rfl) ?_
          obtain ⟨t11, hv12, hf⟩ := db_e hf
          refine call_l (isC := [0, 1, 2, 3, 4, 5, 6, 8]) (run_V (As := []) (rest := []) (ci := 12) (q0 := 0) hx hb hml hown htl (c_R_bestOfAll l G Y  h0 a_all a_text a_saved a_undone a_told a_pile a_open a_size a_capped a_connected a_bestCost a_bestCrosses a_bestPart a_part a_trees a_nodes a_out a_kept f_raised f_undos f_reached f_length f_begin f_sort f_sign f_value f_word f_wrongAt f_badAt f_bad f_read f_side f_piled f_opened f_joins f_had f_treeMany f_nodeMany f_moveNode f_movePart f_moveFirst f_moveThen f_moveOther f_outMany t9 g_bestCost g_bestCrosses g_bestPart g_capped g_connected g_size N t11 hv12) mv_R_bestOfAll k_1696 (hRk (by decide) (by decide)) hK hsk hS hP hD (isC := [0, 1, 2, 3, 4, 5, 6, 8]) rfl (by decide) rfl rfl rfl hl.1 rfl (lv_room (Nat.le_of_ble_eq_true rfl)) d_R_needed_76) hP hD hS rfl rfl (fun H locs hP hD hS => ?_)
          have hP : va_P G.1 classes [(h0, O_R f_raised a_all a_text a_saved a_undone f_undos f_reached f_length f_begin f_sort f_sign f_value f_word f_wrongAt f_badAt f_bad a_told f_read f_side a_pile f_piled a_open f_opened f_joins f_had a_size a_capped a_connected a_bestCost a_bestCrosses a_bestPart a_part a_trees f_treeMany a_nodes f_nodeMany f_moveNode f_movePart f_moveFirst f_moveThen f_moveOther a_out f_outMany a_kept), (a_all, aI G 1276 t9), (a_bestCost, aJ G 512 t11.2.1), (a_bestCrosses, aI G 512 t11.2.2.1), (a_bestPart, aI G 512 t11.2.2.2.1), (a_capped, aZ G 256 t11.2.2.2.2.1), (a_connected, aZ G 256 t11.2.2.2.2.2.1), (a_kept, aI G 64 g_kept), (a_size, aJ G 256 t11.2.2.2.2.2.2)] H := hP
          have hD : va_D A [(h0, O_R f_raised a_all a_text a_saved a_undone f_undos f_reached f_length f_begin f_sort f_sign f_value f_word f_wrongAt f_badAt f_bad a_told f_read f_side a_pile f_piled a_open f_opened f_joins f_had a_size a_capped a_connected a_bestCost a_bestCrosses a_bestPart a_part a_trees f_treeMany a_nodes f_nodeMany f_moveNode f_movePart f_moveFirst f_moveThen f_moveOther a_out f_outMany a_kept), (a_all, aI G 1276 t9), (a_bestCost, aJ G 512 t11.2.1), (a_bestCrosses, aI G 512 t11.2.2.1), (a_bestPart, aI G 512 t11.2.2.2.1), (a_capped, aZ G 256 t11.2.2.2.2.1), (a_connected, aZ G 256 t11.2.2.2.2.2.1), (a_kept, aI G 64 g_kept), (a_size, aJ G 256 t11.2.2.2.2.2.2)] := hD
          refine lv_lstore (lv' := [(7, .long t11.1), (0, .ref h0), (1, .int x1), (2, .int x2), (3, .long x3), (5, .int x5), (6, .int x6)]) hx hb d_R_needed_79 hl (by decide) rfl (fun ls hl => ?_)
          refine lv_iload_n hx hb d_R_needed_81 rfl (lv_at hl 3 rfl) ?_
          refine lv_iconst (v := (-1 : Int32)) hx hb d_R_needed_82 (by decide) ?_
          refine lv_icmp_eq (tgt := 93) hx hb d_R_needed_83 (by decide) (fun c13 => ?_) (fun c13 => ?_)
          · have hf := di_t c13 hf
            exact hJ93 t9 t11.2.1 t11.2.2.1 t11.2.2.2.1 t11.2.2.2.2.1 t11.2.2.2.2.2.1 t11.2.2.2.2.2.2 x6 t11.1 H locs ls ⟨hP, hD, hS⟩ (lv_sub hl [1, 2, 5, 6, 0] rfl) hf
          · have hf := di_f c13 hf
            refine lv_lload hx hb d_R_needed_86 (lv_at hl 0 rfl) ?_
            refine lv_lload_n hx hb d_R_needed_88 rfl (lv_at hl 4 rfl) ?_
            refine lx_le (tgt := 99) hx hb d_R_needed_89 d_R_needed_90 (by decide) (fun c14 => ?_) (fun c14 => ?_)
            · have hf := di_f c14 hf
              exact hJ99 t9 t11.2.1 t11.2.2.1 t11.2.2.2.1 t11.2.2.2.2.1 t11.2.2.2.2.2.1 t11.2.2.2.2.2.2 x2 x3 x6 H locs ls ⟨hP, hD, hS⟩ (lv_sub hl [1, 2, 3, 4, 5, 6] rfl) hf
            · have hf := di_t c14 hf
              exact hJ93 t9 t11.2.1 t11.2.2.1 t11.2.2.2.1 t11.2.2.2.2.1 t11.2.2.2.2.2.1 t11.2.2.2.2.2.2 x6 t11.1 H locs ls ⟨hP, hD, hS⟩ (lv_sub hl [1, 2, 5, 6, 0] rfl) hf
    exact hL62 N g_all g_bestCost g_bestCrosses g_bestPart g_capped g_connected g_size x2 x3 x6 H locs ls hy62 ⟨hP, hD, hS⟩ hl
  have hJ46 : ∀ (f_raised : Int32) (g_all : Nat → Int32) (g_bestCost : Nat → Int64) (g_bestCrosses : Nat → Int32) (g_bestPart : Nat → Int32) (g_capped : Nat → Int32) (g_connected : Nat → Int32) (g_kept : Nat → Int32) (g_size : Nat → Int64) (H : Heap) (locs : List Loc) (ls : Array Slot), PDS G.1 classes A s [(h0, O_R f_raised a_all a_text a_saved a_undone f_undos f_reached f_length f_begin f_sort f_sign f_value f_word f_wrongAt f_badAt f_bad a_told f_read f_side a_pile f_piled a_open f_opened f_joins f_had a_size a_capped a_connected a_bestCost a_bestCrosses a_bestPart a_part a_trees f_treeMany a_nodes f_nodeMany f_moveNode f_movePart f_moveFirst f_moveThen f_moveOther a_out f_outMany a_kept), (a_all, aI G 1276 g_all), (a_bestCost, aJ G 512 g_bestCost), (a_bestCrosses, aI G 512 g_bestCrosses), (a_bestPart, aI G 512 g_bestPart), (a_capped, aZ G 256 g_capped), (a_connected, aZ G 256 g_connected), (a_kept, aI G 64 g_kept), (a_size, aJ G 256 g_size)] H locs → lv_has ls 10 [(0, .ref h0), (1, .int x1)] → R_needed_46 N f_raised g_all g_bestCost g_bestCrosses g_bestPart g_capped g_connected g_kept g_size x1 = some res → W p l e (rmk 6) s m args below meth c H locs 0 0 Q (F0 m 46 ls []) := by
    intro f_raised g_all g_bestCost g_bestCrosses g_bestPart g_capped g_connected g_kept g_size H locs ls wq hl hf
    obtain ⟨hP, hD, hS⟩ := wq
    refine lv_iconst (v := (-1 : Int32)) hx hb d_R_needed_46 (by decide) ?_
    refine lv_istore_n (lv' := [(2, .int (-1 : Int32)), (0, .ref h0), (1, .int x1)]) hx hb d_R_needed_47 rfl hl (by decide) rfl (fun ls hl => ?_)
    refine lv_lconst (v := (0 : Int64)) hx hb d_R_needed_48 (by decide) ?_
    refine lv_lstore_n (lv' := [(3, .long (0 : Int64)), (2, .int (-1 : Int32)), (0, .ref h0), (1, .int x1)]) hx hb d_R_needed_49 rfl hl (by decide) rfl (fun ls hl => ?_)
    refine lv_aload_n hx hb d_R_needed_50 rfl (lv_at hl 2 rfl) ?_
    refine va_get (D := G.1) (ci := 12) (v := .ref a_all) (C := n_R) (T := T_R) (N := 44) hx hb htl iw_R hown hK hP 0 rfl rfl 1 (by decide) (htl _ k_1197) (fun _ h9 => h9) rfl d_R_needed_51 ?_
    refine lv_bipush (v := (9 : Int32)) hx hb d_R_needed_54 (by decide) ?_
    refine va_iald hx hb hK hP 1 1 rfl rfl (vp_lit (by decide)) d_R_needed_56 ?_
    refine lv_topi (fun v7 ev7 => ?_)
    have hf := dn_e ev7 hf
    refine lv_istore (lv' := [(5, .int v7), (3, .long (0 : Int64)), (2, .int (-1 : Int32)), (0, .ref h0), (1, .int x1)]) hx hb d_R_needed_57 hl (by decide) rfl (fun ls hl => ?_)
    refine lv_iconst (v := (0 : Int32)) hx hb d_R_needed_59 (by decide) ?_
    refine lv_istore (lv' := [(6, .int (0 : Int32)), (5, .int v7), (3, .long (0 : Int64)), (2, .int (-1 : Int32)), (0, .ref h0), (1, .int x1)]) hx hb d_R_needed_60 hl (by decide) rfl (fun ls hl => ?_)
    exact hJ62 f_raised g_all g_bestCost g_bestCrosses g_bestPart g_capped g_connected g_kept g_size (-1 : Int32) (0 : Int64) v7 (0 : Int32) H locs ls ⟨hP, hD, hS⟩ (lv_sub hl [4, 5, 3, 2, 1, 0] rfl) hf
  have hJ22 : ∀ (f_raised : Int32) (g_all : Nat → Int32) (g_bestCost : Nat → Int64) (g_bestCrosses : Nat → Int32) (g_bestPart : Nat → Int32) (g_capped : Nat → Int32) (g_connected : Nat → Int32) (g_kept : Nat → Int32) (g_size : Nat → Int64) (x2 : Int32) (H : Heap) (locs : List Loc) (ls : Array Slot), PDS G.1 classes A s [(h0, O_R f_raised a_all a_text a_saved a_undone f_undos f_reached f_length f_begin f_sort f_sign f_value f_word f_wrongAt f_badAt f_bad a_told f_read f_side a_pile f_piled a_open f_opened f_joins f_had a_size a_capped a_connected a_bestCost a_bestCrosses a_bestPart a_part a_trees f_treeMany a_nodes f_nodeMany f_moveNode f_movePart f_moveFirst f_moveThen f_moveOther a_out f_outMany a_kept), (a_all, aI G 1276 g_all), (a_bestCost, aJ G 512 g_bestCost), (a_bestCrosses, aI G 512 g_bestCrosses), (a_bestPart, aI G 512 g_bestPart), (a_capped, aZ G 256 g_capped), (a_connected, aZ G 256 g_connected), (a_kept, aI G 64 g_kept), (a_size, aJ G 256 g_size)] H locs → lv_has ls 10 [(0, .ref h0), (1, .int x1), (2, .int x2)] → R_needed_22 N f_raised g_all g_bestCost g_bestCrosses g_bestPart g_capped g_connected g_kept g_size x1 x2 = some res → W p l e (rmk 6) s m args below meth c H locs 0 0 Q (F0 m 22 ls []) := by
    intro f_raised g_all g_bestCost g_bestCrosses g_bestPart g_capped g_connected g_kept g_size x2 H locs ls wq hl hf
    obtain ⟨hP, hD, hS⟩ := wq
    obtain ⟨y22, hy22, hfo22⟩ := db_e hf
    have hL22 : ∀ (n : Nat) (g_kept : Nat → Int32) (x2 : Int32) (H : Heap) (locs : List Loc) (ls : Array Slot), lp (fun x => R_needed_b22 N f_raised g_all g_bestCost g_bestCrosses g_bestPart g_capped g_connected x.1 g_size x1 x.2) n (g_kept, x2) = some y22 → PDS G.1 classes A s [(h0, O_R f_raised a_all a_text a_saved a_undone f_undos f_reached f_length f_begin f_sort f_sign f_value f_word f_wrongAt f_badAt f_bad a_told f_read f_side a_pile f_piled a_open f_opened f_joins f_had a_size a_capped a_connected a_bestCost a_bestCrosses a_bestPart a_part a_trees f_treeMany a_nodes f_nodeMany f_moveNode f_movePart f_moveFirst f_moveThen f_moveOther a_out f_outMany a_kept), (a_all, aI G 1276 g_all), (a_bestCost, aJ G 512 g_bestCost), (a_bestCrosses, aI G 512 g_bestCrosses), (a_bestPart, aI G 512 g_bestPart), (a_capped, aZ G 256 g_capped), (a_connected, aZ G 256 g_connected), (a_kept, aI G 64 g_kept), (a_size, aJ G 256 g_size)] H locs → lv_has ls 10 [(0, .ref h0), (1, .int x1), (2, .int x2)] → W p l e (rmk 6) s m args below meth c H locs 0 0 Q (F0 m 22 ls []) := by
      intro n
      induction n with
      | zero =>
        intro g_kept x2 H locs ls hf
        exact lp_0 hf
      | succ n ih22 =>
        intro g_kept x2 H locs ls hf wq hl
        obtain ⟨hP, hD, hS⟩ := wq
        obtain ⟨r22, hf, hk22⟩ := lp_s hf
        have hf : R_needed_b22 N f_raised g_all g_bestCost g_bestCrosses g_bestPart g_capped g_connected g_kept g_size x1 x2 = some r22 := hf
        refine lv_iload_n hx hb d_R_needed_22 rfl (lv_at hl 2 rfl) ?_
        refine lv_bipush (v := (58 : Int32)) hx hb d_R_needed_23 (by decide) ?_
        refine lv_icmp_ge (tgt := 46) hx hb d_R_needed_25 (by decide) (fun c2 => ?_) (fun c2 => ?_)
        · have hf := di_t c2 hf
          have hq22 := lpk_x hf hk22
          have hf := ex_y (f := fun y => R_needed_a22 N f_raised g_all g_bestCost g_bestCrosses g_bestPart g_capped g_connected g_size x1 y) hq22 hfo22
          have hf : R_needed_46 N f_raised g_all g_bestCost g_bestCrosses g_bestPart g_capped g_connected g_kept g_size x1 = some res := hf
          exact hJ46 f_raised g_all g_bestCost g_bestCrosses g_bestPart g_capped g_connected g_kept g_size H locs ls ⟨hP, hD, hS⟩ (lv_sub hl [0, 1] rfl) hf
        · have hf := di_f c2 hf
          refine lv_aload_n hx hb d_R_needed_28 rfl (lv_at hl 0 rfl) ?_
          refine va_get (D := G.1) (ci := 12) (v := .ref a_kept) (C := n_R) (T := T_R) (N := 44) hx hb htl iw_R hown hK hP 0 rfl rfl 43 (by decide) (htl _ k_1239) (fun _ h9 => h9) rfl d_R_needed_29 ?_
          refine lv_iload_n hx hb d_R_needed_32 rfl (lv_at hl 2 rfl) ?_
          refine lv_aload_n hx hb d_R_needed_33 rfl (lv_at hl 0 rfl) ?_
          refine va_get (D := G.1) (ci := 12) (v := .ref a_all) (C := n_R) (T := T_R) (N := 44) hx hb htl iw_R hown hK hP 0 rfl rfl 1 (by decide) (htl _ k_1197) (fun _ h9 => h9) rfl d_R_needed_34 ?_
          refine lv_iload_n hx hb d_R_needed_37 rfl (lv_at hl 2 rfl) ?_
          obtain ⟨c3, hf⟩ := dk_e hf
          refine va_iald hx hb hK hP 1 1 rfl rfl c3 d_R_needed_38 ?_
          obtain ⟨c4, hf⟩ := dk_e hf
          refine nx_iast hx hb hK hP hD hS 7 1 rfl rfl c4 d_R_needed_39 (fun v5 ev5 H locs hP hD hS => ?_)
          have hf := dn_e ev5 hf
          have hP : va_P G.1 classes [(h0, O_R f_raised a_all a_text a_saved a_undone f_undos f_reached f_length f_begin f_sort f_sign f_value f_word f_wrongAt f_badAt f_bad a_told f_read f_side a_pile f_piled a_open f_opened f_joins f_had a_size a_capped a_connected a_bestCost a_bestCrosses a_bestPart a_part a_trees f_treeMany a_nodes f_nodeMany f_moveNode f_movePart f_moveFirst f_moveThen f_moveOther a_out f_outMany a_kept), (a_all, aI G 1276 g_all), (a_bestCost, aJ G 512 g_bestCost), (a_bestCrosses, aI G 512 g_bestCrosses), (a_bestPart, aI G 512 g_bestPart), (a_capped, aZ G 256 g_capped), (a_connected, aZ G 256 g_connected), (a_kept, aI G 64 v5), (a_size, aJ G 256 g_size)] H := hP
          have hD : va_D A [(h0, O_R f_raised a_all a_text a_saved a_undone f_undos f_reached f_length f_begin f_sort f_sign f_value f_word f_wrongAt f_badAt f_bad a_told f_read f_side a_pile f_piled a_open f_opened f_joins f_had a_size a_capped a_connected a_bestCost a_bestCrosses a_bestPart a_part a_trees f_treeMany a_nodes f_nodeMany f_moveNode f_movePart f_moveFirst f_moveThen f_moveOther a_out f_outMany a_kept), (a_all, aI G 1276 g_all), (a_bestCost, aJ G 512 g_bestCost), (a_bestCrosses, aI G 512 g_bestCrosses), (a_bestPart, aI G 512 g_bestPart), (a_capped, aZ G 256 g_capped), (a_connected, aZ G 256 g_connected), (a_kept, aI G 64 v5), (a_size, aJ G 256 g_size)] := hD
          obtain ⟨v6, ev6⟩ : ∃ z : Int32, z = x2 + (1 : Int32) := ⟨_, rfl⟩
          have hf := dn_e ev6 hf
          refine lv_iinc (v := v6) (lv' := [(2, .int v6), (0, .ref h0), (1, .int x1)]) hx hb d_R_needed_40 hl (k := 2) rfl (by rw [ev6]; rfl) (by decide) rfl (fun ls hl => ?_)
          refine lv_goto (tgt := 22) hx hb d_R_needed_43 (by decide) ?_
          exact ih22 v5 v6 H locs ls (lpk_i hf hk22) ⟨hP, hD, hS⟩ (lv_sub hl [1, 2, 0] rfl)
    exact hL22 N g_kept x2 H locs ls hy22 ⟨hP, hD, hS⟩ hl
  refine lv_aload_n hx hb d_R_needed_0 rfl (lv_at hl 0 rfl) ?_
  refine lv_iconst (v := (0 : Int32)) hx hb d_R_needed_1 (by decide) ?_
  refine va_put (D := G.1) (ci := 12) (v := .int (0 : Int32)) (ty := .int) (C := n_R) (T := T_R) (N := 44) hx hb htl iw_R ty_R ty_R_ok nm_R hown hK hP hD hS 0 rfl rfl 0 (by decide) (htl _ k_1196) (fun _ h9 => h9) rfl (by decide +kernel) rfl rfl (Nat.le_of_ble_eq_true rfl) d_R_needed_2 (fun H locs hP hD hS => ?_)
  have hP : va_P G.1 classes [(h0, O_R (0 : Int32) a_all a_text a_saved a_undone f_undos f_reached f_length f_begin f_sort f_sign f_value f_word f_wrongAt f_badAt f_bad a_told f_read f_side a_pile f_piled a_open f_opened f_joins f_had a_size a_capped a_connected a_bestCost a_bestCrosses a_bestPart a_part a_trees f_treeMany a_nodes f_nodeMany f_moveNode f_movePart f_moveFirst f_moveThen f_moveOther a_out f_outMany a_kept), (a_all, aI G 1276 g_all), (a_bestCost, aJ G 512 g_bestCost), (a_bestCrosses, aI G 512 g_bestCrosses), (a_bestPart, aI G 512 g_bestPart), (a_capped, aZ G 256 g_capped), (a_connected, aZ G 256 g_connected), (a_kept, aI G 64 g_kept), (a_size, aJ G 256 g_size)] H := hP
  have hD : va_D A [(h0, O_R (0 : Int32) a_all a_text a_saved a_undone f_undos f_reached f_length f_begin f_sort f_sign f_value f_word f_wrongAt f_badAt f_bad a_told f_read f_side a_pile f_piled a_open f_opened f_joins f_had a_size a_capped a_connected a_bestCost a_bestCrosses a_bestPart a_part a_trees f_treeMany a_nodes f_nodeMany f_moveNode f_movePart f_moveFirst f_moveThen f_moveOther a_out f_outMany a_kept), (a_all, aI G 1276 g_all), (a_bestCost, aJ G 512 g_bestCost), (a_bestCrosses, aI G 512 g_bestCrosses), (a_bestPart, aI G 512 g_bestPart), (a_capped, aZ G 256 g_capped), (a_connected, aZ G 256 g_connected), (a_kept, aI G 64 g_kept), (a_size, aJ G 256 g_size)] := hD
  refine lv_aload_n hx hb d_R_needed_5 rfl (lv_at hl 0 rfl) ?_
  refine va_get (D := G.1) (ci := 12) (v := .ref a_all) (C := n_R) (T := T_R) (N := 44) hx hb htl iw_R hown hK hP 0 rfl rfl 1 (by decide) (htl _ k_1197) (fun _ h9 => h9) rfl d_R_needed_6 ?_
  refine lv_bipush (v := (9 : Int32)) hx hb d_R_needed_9 (by decide) ?_
  refine va_iald hx hb hK hP 1 1 rfl rfl (vp_lit (by decide)) d_R_needed_11 ?_
  refine lv_if_ne (tgt := 19) hx hb d_R_needed_12 (by decide) (fun c1 => ?_) (fun c1 => ?_)
  · have hf := di_f c1 hf
    refine lv_bipush (v := (9 : Int32)) hx hb d_R_needed_19 (by decide) ?_
    refine lv_istore_n (lv' := [(2, .int (9 : Int32)), (0, .ref h0), (1, .int x1)]) hx hb d_R_needed_21 rfl hl (by decide) rfl (fun ls hl => ?_)
    exact hJ22 (0 : Int32) g_all g_bestCost g_bestCrosses g_bestPart g_capped g_connected g_kept g_size (9 : Int32) H locs ls ⟨hP, hD, hS⟩ (lv_sub hl [1, 2, 0] rfl) hf
  · have hf := di_t c1 hf
    refine lv_ldc2 (v := (-1 : Int64)) hx hb hown (htl _ k_1639) d_R_needed_15 ?_
    cases hf
    exact hret 18 ls H locs hP hS d_R_needed_18
set_option maxHeartbeats 4000000 in
set_option maxRecDepth 100000 in
theorem c_R_copiesText (l : Launch) (G : va_G × (Nat → ClassId)) (Y : (Nat → Nat) × (Nat → Nat)) (h0 : Nat) (a_all : Nat) (a_text : Nat) (a_saved : Nat) (a_undone : Nat) (a_told : Nat) (a_pile : Nat) (a_open : Nat) (a_size : Nat) (a_capped : Nat) (a_connected : Nat) (a_bestCost : Nat) (a_bestCrosses : Nat) (a_bestPart : Nat) (a_part : Nat) (a_trees : Nat) (a_nodes : Nat) (a_out : Nat) (a_kept : Nat) (f_raised : Int32) (f_undos : Int32) (f_reached : Int32) (f_length : Int32) (f_begin : Int32) (f_sort : Int32) (f_sign : Int32) (f_value : Int32) (f_word : Int64) (f_wrongAt : Int32) (f_badAt : Int32) (f_bad : Int32) (f_read : Int32) (f_side : Int32) (f_piled : Int32) (f_opened : Int32) (f_joins : Int32) (f_had : Int32) (f_treeMany : Int32) (f_nodeMany : Int32) (f_moveNode : Int32) (f_movePart : Int32) (f_moveFirst : Int32) (f_moveThen : Int32) (f_moveOther : Int32) (f_outMany : Int32) (g_all : Nat → Int32) (g_text : Nat → Int32) (x1 : Int32) (x2 : Int32) (N : Nat) (res : (Nat → Int32) × (Nat → Int32)) (hf : R_copiesText N g_all g_text x1 x2 = some res) : Cv l classes y_R_copiesText b_R_copiesText 4 none (rmk 1) G.1 (tyL G) Y [.ref h0, .int x1, .int x2] [(h0, O_R f_raised a_all a_text a_saved a_undone f_undos f_reached f_length f_begin f_sort f_sign f_value f_word f_wrongAt f_badAt f_bad a_told f_read f_side a_pile f_piled a_open f_opened f_joins f_had a_size a_capped a_connected a_bestCost a_bestCrosses a_bestPart a_part a_trees f_treeMany a_nodes f_nodeMany f_moveNode f_movePart f_moveFirst f_moveThen f_moveOther a_out f_outMany a_kept), (a_all, aI G 1276 g_all), (a_text, aB G 2000 g_text)] [(h0, O_R f_raised a_all a_text a_saved a_undone f_undos f_reached f_length f_begin f_sort f_sign f_value f_word f_wrongAt f_badAt f_bad a_told f_read f_side a_pile f_piled a_open f_opened f_joins f_had a_size a_capped a_connected a_bestCost a_bestCrosses a_bestPart a_part a_trees f_treeMany a_nodes f_nodeMany f_moveNode f_movePart f_moveFirst f_moveThen f_moveOther a_out f_outMany a_kept), (a_all, aI G 1276 res.1), (a_text, aB G 2000 res.2)] := by
  refine entV (by decide) (Nat.le_of_ble_eq_true rfl) ?_
  intro p e s m args below meth c ls A Q hx hb hml hown htl hK hsk wq hl hret
  obtain ⟨hP, hD, hS⟩ := wq
  have hl : lv_has ls 4 [(0, .ref h0), (1, .int x1), (2, .int x2)] := hl
  have hS : va_S A s.heap s.heap [] := hS
  obtain ⟨H, hH⟩ : ∃ H : Heap, H = s.heap := ⟨_, rfl⟩
  obtain ⟨locs, hlocs⟩ : ∃ z : List Loc, z = [] := ⟨_, rfl⟩
  rw [← hH] at hP
  replace hS : va_S A s.heap H locs := by rw [hH, hlocs]; exact hS
  suffices hgo : W p l e (rmk 1) s m args below meth c H locs 0 0 Q (F0 m 0 ls []) by rw [hH, hlocs] at hgo; exact hgo
  have hJ45 : ∀ (g_all : Nat → Int32) (g_text : Nat → Int32) (H : Heap) (locs : List Loc) (ls : Array Slot), PDS G.1 classes A s [(h0, O_R f_raised a_all a_text a_saved a_undone f_undos f_reached f_length f_begin f_sort f_sign f_value f_word f_wrongAt f_badAt f_bad a_told f_read f_side a_pile f_piled a_open f_opened f_joins f_had a_size a_capped a_connected a_bestCost a_bestCrosses a_bestPart a_part a_trees f_treeMany a_nodes f_nodeMany f_moveNode f_movePart f_moveFirst f_moveThen f_moveOther a_out f_outMany a_kept), (a_all, aI G 1276 g_all), (a_text, aB G 2000 g_text)] H locs → lv_has ls 4 [] → R_copiesText_45 N g_all g_text = some res → W p l e (rmk 1) s m args below meth c H locs 0 0 Q (F0 m 45 ls []) := by
    intro g_all g_text H locs ls wq hl hf
    obtain ⟨hP, hD, hS⟩ := wq
    cases hf
    exact hret 45 ls H locs hP hS d_R_copiesText_45
  have hJ8 : ∀ (g_all : Nat → Int32) (g_text : Nat → Int32) (x3 : Int32) (H : Heap) (locs : List Loc) (ls : Array Slot), PDS G.1 classes A s [(h0, O_R f_raised a_all a_text a_saved a_undone f_undos f_reached f_length f_begin f_sort f_sign f_value f_word f_wrongAt f_badAt f_bad a_told f_read f_side a_pile f_piled a_open f_opened f_joins f_had a_size a_capped a_connected a_bestCost a_bestCrosses a_bestPart a_part a_trees f_treeMany a_nodes f_nodeMany f_moveNode f_movePart f_moveFirst f_moveThen f_moveOther a_out f_outMany a_kept), (a_all, aI G 1276 g_all), (a_text, aB G 2000 g_text)] H locs → lv_has ls 4 [(0, .ref h0), (1, .int x1), (2, .int x2), (3, .int x3)] → R_copiesText_8 N g_all g_text x1 x2 x3 = some res → W p l e (rmk 1) s m args below meth c H locs 0 0 Q (F0 m 8 ls []) := by
    intro g_all g_text x3 H locs ls wq hl hf
    obtain ⟨hP, hD, hS⟩ := wq
    obtain ⟨y8, hy8, hfo8⟩ := db_e hf
    have hL8 : ∀ (n : Nat) (g_text : Nat → Int32) (x3 : Int32) (H : Heap) (locs : List Loc) (ls : Array Slot), lp (fun x => R_copiesText_b8 N g_all x.1 x1 x2 x.2) n (g_text, x3) = some y8 → PDS G.1 classes A s [(h0, O_R f_raised a_all a_text a_saved a_undone f_undos f_reached f_length f_begin f_sort f_sign f_value f_word f_wrongAt f_badAt f_bad a_told f_read f_side a_pile f_piled a_open f_opened f_joins f_had a_size a_capped a_connected a_bestCost a_bestCrosses a_bestPart a_part a_trees f_treeMany a_nodes f_nodeMany f_moveNode f_movePart f_moveFirst f_moveThen f_moveOther a_out f_outMany a_kept), (a_all, aI G 1276 g_all), (a_text, aB G 2000 g_text)] H locs → lv_has ls 4 [(0, .ref h0), (1, .int x1), (2, .int x2), (3, .int x3)] → W p l e (rmk 1) s m args below meth c H locs 0 0 Q (F0 m 8 ls []) := by
      intro n
      induction n with
      | zero =>
        intro g_text x3 H locs ls hf
        exact lp_0 hf
      | succ n ih8 =>
        intro g_text x3 H locs ls hf wq hl
        obtain ⟨hP, hD, hS⟩ := wq
        obtain ⟨r8, hf, hk8⟩ := lp_s hf
        have hf : R_copiesText_b8 N g_all g_text x1 x2 x3 = some r8 := hf
        refine lv_iload_n hx hb d_R_copiesText_8 rfl (lv_at hl 3 rfl) ?_
        refine lv_sipush (v := (500 : Int32)) hx hb d_R_copiesText_9 (by decide) ?_
        refine lv_icmp_ge (tgt := 45) hx hb d_R_copiesText_12 (by decide) (fun c3 => ?_) (fun c3 => ?_)
        · have hf := di_t c3 hf
          have hq8 := lpk_x hf hk8
          have hf := ex_y (f := fun y => R_copiesText_a8 N g_all x1 x2 y) hq8 hfo8
          have hf : R_copiesText_45 N g_all g_text = some res := hf
          exact hJ45 g_all g_text H locs ls ⟨hP, hD, hS⟩ (lv_sub hl [] rfl) hf
        · have hf := di_f c3 hf
          refine lv_aload_n hx hb d_R_copiesText_15 rfl (lv_at hl 0 rfl) ?_
          refine va_get (D := G.1) (ci := 12) (v := .ref a_text) (C := n_R) (T := T_R) (N := 44) hx hb htl iw_R hown hK hP 0 rfl rfl 2 (by decide) (htl _ k_1198) (fun _ h9 => h9) rfl d_R_copiesText_16 ?_
          refine lv_sipush (v := (500 : Int32)) hx hb d_R_copiesText_19 (by decide) ?_
          refine lv_iload_n hx hb d_R_copiesText_22 rfl (lv_at hl 2 rfl) ?_
          refine lv_imul hx hb d_R_copiesText_23 ?_
          refine lv_iload_n hx hb d_R_copiesText_24 rfl (lv_at hl 3 rfl) ?_
          refine lv_iadd hx hb d_R_copiesText_25 ?_
          refine lv_aload_n hx hb d_R_copiesText_26 rfl (lv_at hl 0 rfl) ?_
          refine va_get (D := G.1) (ci := 12) (v := .ref a_text) (C := n_R) (T := T_R) (N := 44) hx hb htl iw_R hown hK hP 0 rfl rfl 2 (by decide) (htl _ k_1198) (fun _ h9 => h9) rfl d_R_copiesText_27 ?_
          refine lv_sipush (v := (500 : Int32)) hx hb d_R_copiesText_30 (by decide) ?_
          refine lv_iload_n hx hb d_R_copiesText_33 rfl (lv_at hl 1 rfl) ?_
          refine lv_imul hx hb d_R_copiesText_34 ?_
          refine lv_iload_n hx hb d_R_copiesText_35 rfl (lv_at hl 3 rfl) ?_
          refine lv_iadd hx hb d_R_copiesText_36 ?_
          obtain ⟨c4, hf⟩ := dk_e hf
          refine va_bald hx hb hK hP 2 0 rfl rfl c4 d_R_copiesText_37 ?_
          obtain ⟨c5, hf⟩ := dk_e hf
          refine nx_bast hx hb hK hP hD hS 2 0 rfl rfl c5 d_R_copiesText_38 (fun v6 ev6 H locs hP hD hS => ?_)
          have hf := dn_e ev6 hf
          have hP : va_P G.1 classes [(h0, O_R f_raised a_all a_text a_saved a_undone f_undos f_reached f_length f_begin f_sort f_sign f_value f_word f_wrongAt f_badAt f_bad a_told f_read f_side a_pile f_piled a_open f_opened f_joins f_had a_size a_capped a_connected a_bestCost a_bestCrosses a_bestPart a_part a_trees f_treeMany a_nodes f_nodeMany f_moveNode f_movePart f_moveFirst f_moveThen f_moveOther a_out f_outMany a_kept), (a_all, aI G 1276 g_all), (a_text, aB G 2000 v6)] H := hP
          have hD : va_D A [(h0, O_R f_raised a_all a_text a_saved a_undone f_undos f_reached f_length f_begin f_sort f_sign f_value f_word f_wrongAt f_badAt f_bad a_told f_read f_side a_pile f_piled a_open f_opened f_joins f_had a_size a_capped a_connected a_bestCost a_bestCrosses a_bestPart a_part a_trees f_treeMany a_nodes f_nodeMany f_moveNode f_movePart f_moveFirst f_moveThen f_moveOther a_out f_outMany a_kept), (a_all, aI G 1276 g_all), (a_text, aB G 2000 v6)] := hD
          obtain ⟨v7, ev7⟩ : ∃ z : Int32, z = x3 + (1 : Int32) := ⟨_, rfl⟩
          have hf := dn_e ev7 hf
          refine lv_iinc (v := v7) (lv' := [(3, .int v7), (0, .ref h0), (1, .int x1), (2, .int x2)]) hx hb d_R_copiesText_39 hl (k := 3) rfl (by rw [ev7]; rfl) (by decide) rfl (fun ls hl => ?_)
          refine lv_goto (tgt := 8) hx hb d_R_copiesText_42 (by decide) ?_
          exact ih8 v6 v7 H locs ls (lpk_i hf hk8) ⟨hP, hD, hS⟩ (lv_sub hl [1, 2, 3, 0] rfl)
    exact hL8 N g_text x3 H locs ls hy8 ⟨hP, hD, hS⟩ hl
  refine lv_aload_n hx hb d_R_copiesText_0 rfl (lv_at hl 0 rfl) ?_
  refine lv_iload_n hx hb d_R_copiesText_1 rfl (lv_at hl 1 rfl) ?_
  refine lv_iload_n hx hb d_R_copiesText_2 rfl (lv_at hl 2 rfl) ?_
  obtain ⟨t1, hv2, hf⟩ := db_e hf
  refine call_v (isC := [0, 1]) (run_V (As := [.int x1, .int x2]) (rest := []) (ci := 12) (q0 := 0) hx hb hml hown htl (c_R_copies l G Y  h0 a_all a_text a_saved a_undone a_told a_pile a_open a_size a_capped a_connected a_bestCost a_bestCrosses a_bestPart a_part a_trees a_nodes a_out a_kept f_raised f_undos f_reached f_length f_begin f_sort f_sign f_value f_word f_wrongAt f_badAt f_bad f_read f_side f_piled f_opened f_joins f_had f_treeMany f_nodeMany f_moveNode f_movePart f_moveFirst f_moveThen f_moveOther f_outMany g_all x1 x2 N t1 hv2) mv_R_copies k_1712 (hRk (by decide) (by decide)) hK hsk hS hP hD (isC := [0, 1]) rfl (by decide) rfl rfl rfl hl.1 rfl (lv_room (Nat.le_of_ble_eq_true rfl)) d_R_copiesText_3) hP hD hS rfl rfl (fun H locs hP hD hS => ?_)
  have hP : va_P G.1 classes [(h0, O_R f_raised a_all a_text a_saved a_undone f_undos f_reached f_length f_begin f_sort f_sign f_value f_word f_wrongAt f_badAt f_bad a_told f_read f_side a_pile f_piled a_open f_opened f_joins f_had a_size a_capped a_connected a_bestCost a_bestCrosses a_bestPart a_part a_trees f_treeMany a_nodes f_nodeMany f_moveNode f_movePart f_moveFirst f_moveThen f_moveOther a_out f_outMany a_kept), (a_all, aI G 1276 t1), (a_text, aB G 2000 g_text)] H := hP
  have hD : va_D A [(h0, O_R f_raised a_all a_text a_saved a_undone f_undos f_reached f_length f_begin f_sort f_sign f_value f_word f_wrongAt f_badAt f_bad a_told f_read f_side a_pile f_piled a_open f_opened f_joins f_had a_size a_capped a_connected a_bestCost a_bestCrosses a_bestPart a_part a_trees f_treeMany a_nodes f_nodeMany f_moveNode f_movePart f_moveFirst f_moveThen f_moveOther a_out f_outMany a_kept), (a_all, aI G 1276 t1), (a_text, aB G 2000 g_text)] := hD
  refine lv_iconst (v := (0 : Int32)) hx hb d_R_copiesText_6 (by decide) ?_
  refine lv_istore_n (lv' := [(3, .int (0 : Int32)), (0, .ref h0), (1, .int x1), (2, .int x2)]) hx hb d_R_copiesText_7 rfl hl (by decide) rfl (fun ls hl => ?_)
  exact hJ8 t1 g_text (0 : Int32) H locs ls ⟨hP, hD, hS⟩ (lv_sub hl [1, 2, 3, 0] rfl) hf
set_option maxHeartbeats 4000000 in
set_option maxRecDepth 100000 in
theorem c_R_image (l : Launch) (G : va_G × (Nat → ClassId)) (Y : (Nat → Nat) × (Nat → Nat)) (h0 : Nat) (a_all : Nat) (a_text : Nat) (a_saved : Nat) (a_undone : Nat) (a_told : Nat) (a_pile : Nat) (a_open : Nat) (a_size : Nat) (a_capped : Nat) (a_connected : Nat) (a_bestCost : Nat) (a_bestCrosses : Nat) (a_bestPart : Nat) (a_part : Nat) (a_trees : Nat) (a_nodes : Nat) (a_out : Nat) (a_kept : Nat) (f_raised : Int32) (f_undos : Int32) (f_reached : Int32) (f_length : Int32) (f_begin : Int32) (f_sort : Int32) (f_sign : Int32) (f_value : Int32) (f_word : Int64) (f_wrongAt : Int32) (f_badAt : Int32) (f_bad : Int32) (f_read : Int32) (f_side : Int32) (f_piled : Int32) (f_opened : Int32) (f_joins : Int32) (f_had : Int32) (f_treeMany : Int32) (f_nodeMany : Int32) (f_moveNode : Int32) (f_movePart : Int32) (f_moveFirst : Int32) (f_moveThen : Int32) (f_moveOther : Int32) (f_outMany : Int32) (g_all : Nat → Int32) (g_saved : Nat → Int32) (g_text : Nat → Int32) (x1 : Int32) (N : Nat) (res : Int32 × Int32 × (Nat → Int32) × (Nat → Int32) × (Nat → Int32)) (hf : R_image N f_raised g_all g_saved g_text x1 = some res) : Ci l classes y_R_image b_R_image 2 (some .boolean) (rmk 2) G.1 (tyL G) Y [.ref h0, .int x1] [(h0, O_R f_raised a_all a_text a_saved a_undone f_undos f_reached f_length f_begin f_sort f_sign f_value f_word f_wrongAt f_badAt f_bad a_told f_read f_side a_pile f_piled a_open f_opened f_joins f_had a_size a_capped a_connected a_bestCost a_bestCrosses a_bestPart a_part a_trees f_treeMany a_nodes f_nodeMany f_moveNode f_movePart f_moveFirst f_moveThen f_moveOther a_out f_outMany a_kept), (a_all, aI G 1276 g_all), (a_saved, aZ G 3 g_saved), (a_text, aB G 2000 g_text)] [(h0, O_R res.2.1 a_all a_text a_saved a_undone f_undos f_reached f_length f_begin f_sort f_sign f_value f_word f_wrongAt f_badAt f_bad a_told f_read f_side a_pile f_piled a_open f_opened f_joins f_had a_size a_capped a_connected a_bestCost a_bestCrosses a_bestPart a_part a_trees f_treeMany a_nodes f_nodeMany f_moveNode f_movePart f_moveFirst f_moveThen f_moveOther a_out f_outMany a_kept), (a_all, aI G 1276 res.2.2.1), (a_saved, aZ G 3 res.2.2.2.1), (a_text, aB G 2000 res.2.2.2.2)] res.1 := by
  refine entZ (by decide) (Nat.le_of_ble_eq_true rfl) ?_
  intro p e s m args below meth c ls A Q hx hb hml hown htl hK hsk wq hl hret
  obtain ⟨hP, hD, hS⟩ := wq
  have hl : lv_has ls 2 [(0, .ref h0), (1, .int x1)] := hl
  have hS : va_S A s.heap s.heap [] := hS
  obtain ⟨H, hH⟩ : ∃ H : Heap, H = s.heap := ⟨_, rfl⟩
  obtain ⟨locs, hlocs⟩ : ∃ z : List Loc, z = [] := ⟨_, rfl⟩
  rw [← hH] at hP
  replace hS : va_S A s.heap H locs := by rw [hH, hlocs]; exact hS
  suffices hgo : W p l e (rmk 2) s m args below meth c H locs 0 0 Q (F0 m 0 ls []) by rw [hH, hlocs] at hgo; exact hgo
  refine lv_aload_n hx hb d_R_image_0 rfl (lv_at hl 0 rfl) ?_
  refine lv_iconst (v := (0 : Int32)) hx hb d_R_image_1 (by decide) ?_
  refine va_put (D := G.1) (ci := 12) (v := .int (0 : Int32)) (ty := .int) (C := n_R) (T := T_R) (N := 44) hx hb htl iw_R ty_R ty_R_ok nm_R hown hK hP hD hS 0 rfl rfl 0 (by decide) (htl _ k_1196) (fun _ h9 => h9) rfl (by decide +kernel) rfl rfl (Nat.le_of_ble_eq_true rfl) d_R_image_2 (fun H locs hP hD hS => ?_)
  have hP : va_P G.1 classes [(h0, O_R (0 : Int32) a_all a_text a_saved a_undone f_undos f_reached f_length f_begin f_sort f_sign f_value f_word f_wrongAt f_badAt f_bad a_told f_read f_side a_pile f_piled a_open f_opened f_joins f_had a_size a_capped a_connected a_bestCost a_bestCrosses a_bestPart a_part a_trees f_treeMany a_nodes f_nodeMany f_moveNode f_movePart f_moveFirst f_moveThen f_moveOther a_out f_outMany a_kept), (a_all, aI G 1276 g_all), (a_saved, aZ G 3 g_saved), (a_text, aB G 2000 g_text)] H := hP
  have hD : va_D A [(h0, O_R (0 : Int32) a_all a_text a_saved a_undone f_undos f_reached f_length f_begin f_sort f_sign f_value f_word f_wrongAt f_badAt f_bad a_told f_read f_side a_pile f_piled a_open f_opened f_joins f_had a_size a_capped a_connected a_bestCost a_bestCrosses a_bestPart a_part a_trees f_treeMany a_nodes f_nodeMany f_moveNode f_movePart f_moveFirst f_moveThen f_moveOther a_out f_outMany a_kept), (a_all, aI G 1276 g_all), (a_saved, aZ G 3 g_saved), (a_text, aB G 2000 g_text)] := hD
  refine lv_iload_n hx hb d_R_image_5 rfl (lv_at hl 1 rfl) ?_
  refine lv_i2l hx hb d_R_image_6 rfl ?_
  refine lv_lconst (v := (0 : Int64)) hx hb d_R_image_7 (by decide) ?_
  refine lv_ldc2 (v := (2 : Int64)) hx hb hown (htl _ k_1634) d_R_image_8 ?_
  refine call_i (isC := []) (run_S (As := [.long x1.toInt64, .long (0 : Int64), .long (2 : Int64)]) (rest := []) hx hb hml hown htl (c_R_in l G Y  x1.toInt64 (0 : Int64) (2 : Int64) _ rfl) ms_R_in k_1356 (hRk (by decide) (by decide)) hK hsk hS hP hD (isC := []) rfl (by decide) rfl hl.1 rfl (lv_room (Nat.le_of_ble_eq_true rfl)) d_R_image_11) hP hD hS rfl rfl (fun H locs hP hD hS => ?_)
  have hP : va_P G.1 classes [(h0, O_R (0 : Int32) a_all a_text a_saved a_undone f_undos f_reached f_length f_begin f_sort f_sign f_value f_word f_wrongAt f_badAt f_bad a_told f_read f_side a_pile f_piled a_open f_opened f_joins f_had a_size a_capped a_connected a_bestCost a_bestCrosses a_bestPart a_part a_trees f_treeMany a_nodes f_nodeMany f_moveNode f_movePart f_moveFirst f_moveThen f_moveOther a_out f_outMany a_kept), (a_all, aI G 1276 g_all), (a_saved, aZ G 3 g_saved), (a_text, aB G 2000 g_text)] H := hP
  have hD : va_D A [(h0, O_R (0 : Int32) a_all a_text a_saved a_undone f_undos f_reached f_length f_begin f_sort f_sign f_value f_word f_wrongAt f_badAt f_bad a_told f_read f_side a_pile f_piled a_open f_opened f_joins f_had a_size a_capped a_connected a_bestCost a_bestCrosses a_bestPart a_part a_trees f_treeMany a_nodes f_nodeMany f_moveNode f_movePart f_moveFirst f_moveThen f_moveOther a_out f_outMany a_kept), (a_all, aI G 1276 g_all), (a_saved, aZ G 3 g_saved), (a_text, aB G 2000 g_text)] := hD
  refine lv_if_ne (tgt := 19) hx hb d_R_image_14 (by decide) (fun c1 => ?_) (fun c1 => ?_)
  · have hf := di_f c1 hf
    refine lv_aload_n hx hb d_R_image_19 rfl (lv_at hl 0 rfl) ?_
    refine lv_iconst (v := (0 : Int32)) hx hb d_R_image_20 (by decide) ?_
    refine lv_iload_n hx hb d_R_image_21 rfl (lv_at hl 1 rfl) ?_
    refine lv_iconst (v := (1 : Int32)) hx hb d_R_image_22 (by decide) ?_
    refine lv_iadd hx hb d_R_image_23 ?_
    obtain ⟨t2, hv3, hf⟩ := db_e hf
    refine call_v (isC := [0, 1, 3]) (run_V (As := [.int (0 : Int32), .int (x1 + (1 : Int32))]) (rest := []) (ci := 12) (q0 := 0) hx hb hml hown htl (c_R_copiesText l G Y  h0 a_all a_text a_saved a_undone a_told a_pile a_open a_size a_capped a_connected a_bestCost a_bestCrosses a_bestPart a_part a_trees a_nodes a_out a_kept (0 : Int32) f_undos f_reached f_length f_begin f_sort f_sign f_value f_word f_wrongAt f_badAt f_bad f_read f_side f_piled f_opened f_joins f_had f_treeMany f_nodeMany f_moveNode f_movePart f_moveFirst f_moveThen f_moveOther f_outMany g_all g_text (0 : Int32) (x1 + (1 : Int32)) N t2 hv3) mv_R_copiesText k_1708 (hRk (by decide) (by decide)) hK hsk hS hP hD (isC := [0, 1, 3]) rfl (by decide) rfl rfl rfl hl.1 rfl (lv_room (Nat.le_of_ble_eq_true rfl)) d_R_image_24) hP hD hS rfl rfl (fun H locs hP hD hS => ?_)
    have hP : va_P G.1 classes [(h0, O_R (0 : Int32) a_all a_text a_saved a_undone f_undos f_reached f_length f_begin f_sort f_sign f_value f_word f_wrongAt f_badAt f_bad a_told f_read f_side a_pile f_piled a_open f_opened f_joins f_had a_size a_capped a_connected a_bestCost a_bestCrosses a_bestPart a_part a_trees f_treeMany a_nodes f_nodeMany f_moveNode f_movePart f_moveFirst f_moveThen f_moveOther a_out f_outMany a_kept), (a_all, aI G 1276 t2.1), (a_saved, aZ G 3 g_saved), (a_text, aB G 2000 t2.2)] H := hP
    have hD : va_D A [(h0, O_R (0 : Int32) a_all a_text a_saved a_undone f_undos f_reached f_length f_begin f_sort f_sign f_value f_word f_wrongAt f_badAt f_bad a_told f_read f_side a_pile f_piled a_open f_opened f_joins f_had a_size a_capped a_connected a_bestCost a_bestCrosses a_bestPart a_part a_trees f_treeMany a_nodes f_nodeMany f_moveNode f_movePart f_moveFirst f_moveThen f_moveOther a_out f_outMany a_kept), (a_all, aI G 1276 t2.1), (a_saved, aZ G 3 g_saved), (a_text, aB G 2000 t2.2)] := hD
    refine lv_aload_n hx hb d_R_image_27 rfl (lv_at hl 0 rfl) ?_
    refine va_get (D := G.1) (ci := 12) (v := .ref a_saved) (C := n_R) (T := T_R) (N := 44) hx hb htl iw_R hown hK hP 0 rfl rfl 3 (by decide) (htl _ k_1199) (fun _ h9 => h9) rfl d_R_image_28 ?_
    refine lv_iload_n hx hb d_R_image_31 rfl (lv_at hl 1 rfl) ?_
    refine lv_iconst (v := (1 : Int32)) hx hb d_R_image_32 (by decide) ?_
    obtain ⟨c4, hf⟩ := dk_e hf
    refine nx_zast hx hb hK hP hD hS 2 3 rfl rfl c4 d_R_image_33 (fun v5 ev5 H locs hP hD hS => ?_)
    have hf := dn_e ev5 hf
    have hP : va_P G.1 classes [(h0, O_R (0 : Int32) a_all a_text a_saved a_undone f_undos f_reached f_length f_begin f_sort f_sign f_value f_word f_wrongAt f_badAt f_bad a_told f_read f_side a_pile f_piled a_open f_opened f_joins f_had a_size a_capped a_connected a_bestCost a_bestCrosses a_bestPart a_part a_trees f_treeMany a_nodes f_nodeMany f_moveNode f_movePart f_moveFirst f_moveThen f_moveOther a_out f_outMany a_kept), (a_all, aI G 1276 t2.1), (a_saved, aZ G 3 v5), (a_text, aB G 2000 t2.2)] H := hP
    have hD : va_D A [(h0, O_R (0 : Int32) a_all a_text a_saved a_undone f_undos f_reached f_length f_begin f_sort f_sign f_value f_word f_wrongAt f_badAt f_bad a_told f_read f_side a_pile f_piled a_open f_opened f_joins f_had a_size a_capped a_connected a_bestCost a_bestCrosses a_bestPart a_part a_trees f_treeMany a_nodes f_nodeMany f_moveNode f_movePart f_moveFirst f_moveThen f_moveOther a_out f_outMany a_kept), (a_all, aI G 1276 t2.1), (a_saved, aZ G 3 v5), (a_text, aB G 2000 t2.2)] := hD
    refine lv_iconst (v := (1 : Int32)) hx hb d_R_image_34 (by decide) ?_
    cases hf
    exact hret 35 ls H locs z_1 hP hS d_R_image_35
  · have hf := di_t c1 hf
    refine lv_iconst (v := (0 : Int32)) hx hb d_R_image_17 (by decide) ?_
    cases hf
    exact hret 18 ls H locs z_0 hP hS d_R_image_18
set_option maxHeartbeats 4000000 in
set_option maxRecDepth 100000 in
theorem c_R_again (l : Launch) (G : va_G × (Nat → ClassId)) (Y : (Nat → Nat) × (Nat → Nat)) (h0 : Nat) (a_all : Nat) (a_text : Nat) (a_saved : Nat) (a_undone : Nat) (a_told : Nat) (a_pile : Nat) (a_open : Nat) (a_size : Nat) (a_capped : Nat) (a_connected : Nat) (a_bestCost : Nat) (a_bestCrosses : Nat) (a_bestPart : Nat) (a_part : Nat) (a_trees : Nat) (a_nodes : Nat) (a_out : Nat) (a_kept : Nat) (f_raised : Int32) (f_undos : Int32) (f_reached : Int32) (f_length : Int32) (f_begin : Int32) (f_sort : Int32) (f_sign : Int32) (f_value : Int32) (f_word : Int64) (f_wrongAt : Int32) (f_badAt : Int32) (f_bad : Int32) (f_read : Int32) (f_side : Int32) (f_piled : Int32) (f_opened : Int32) (f_joins : Int32) (f_had : Int32) (f_treeMany : Int32) (f_nodeMany : Int32) (f_moveNode : Int32) (f_movePart : Int32) (f_moveFirst : Int32) (f_moveThen : Int32) (f_moveOther : Int32) (f_outMany : Int32) (g_all : Nat → Int32) (g_saved : Nat → Int32) (g_text : Nat → Int32) (x1 : Int32) (N : Nat) (res : Int32 × Int32 × Int32 × (Nat → Int32) × (Nat → Int32)) (hf : R_again N f_raised f_undos g_all g_saved g_text x1 = some res) : Ci l classes y_R_again b_R_again 2 (some .boolean) (rmk 2) G.1 (tyL G) Y [.ref h0, .int x1] [(h0, O_R f_raised a_all a_text a_saved a_undone f_undos f_reached f_length f_begin f_sort f_sign f_value f_word f_wrongAt f_badAt f_bad a_told f_read f_side a_pile f_piled a_open f_opened f_joins f_had a_size a_capped a_connected a_bestCost a_bestCrosses a_bestPart a_part a_trees f_treeMany a_nodes f_nodeMany f_moveNode f_movePart f_moveFirst f_moveThen f_moveOther a_out f_outMany a_kept), (a_all, aI G 1276 g_all), (a_saved, aZ G 3 g_saved), (a_text, aB G 2000 g_text)] [(h0, O_R res.2.1 a_all a_text a_saved a_undone res.2.2.1 f_reached f_length f_begin f_sort f_sign f_value f_word f_wrongAt f_badAt f_bad a_told f_read f_side a_pile f_piled a_open f_opened f_joins f_had a_size a_capped a_connected a_bestCost a_bestCrosses a_bestPart a_part a_trees f_treeMany a_nodes f_nodeMany f_moveNode f_movePart f_moveFirst f_moveThen f_moveOther a_out f_outMany a_kept), (a_all, aI G 1276 res.2.2.2.1), (a_saved, aZ G 3 g_saved), (a_text, aB G 2000 res.2.2.2.2)] res.1 := by
  refine entZ (by decide) (Nat.le_of_ble_eq_true rfl) ?_
  intro p e s m args below meth c ls A Q hx hb hml hown htl hK hsk wq hl hret
  obtain ⟨hP, hD, hS⟩ := wq
  have hl : lv_has ls 2 [(0, .ref h0), (1, .int x1)] := hl
  have hS : va_S A s.heap s.heap [] := hS
  obtain ⟨H, hH⟩ : ∃ H : Heap, H = s.heap := ⟨_, rfl⟩
  obtain ⟨locs, hlocs⟩ : ∃ z : List Loc, z = [] := ⟨_, rfl⟩
  rw [← hH] at hP
  replace hS : va_S A s.heap H locs := by rw [hH, hlocs]; exact hS
  suffices hgo : W p l e (rmk 2) s m args below meth c H locs 0 0 Q (F0 m 0 ls []) by rw [hH, hlocs] at hgo; exact hgo
  refine lv_aload_n hx hb d_R_again_0 rfl (lv_at hl 0 rfl) ?_
  refine lv_iconst (v := (0 : Int32)) hx hb d_R_again_1 (by decide) ?_
  refine va_put (D := G.1) (ci := 12) (v := .int (0 : Int32)) (ty := .int) (C := n_R) (T := T_R) (N := 44) hx hb htl iw_R ty_R ty_R_ok nm_R hown hK hP hD hS 0 rfl rfl 0 (by decide) (htl _ k_1196) (fun _ h9 => h9) rfl (by decide +kernel) rfl rfl (Nat.le_of_ble_eq_true rfl) d_R_again_2 (fun H locs hP hD hS => ?_)
  have hP : va_P G.1 classes [(h0, O_R (0 : Int32) a_all a_text a_saved a_undone f_undos f_reached f_length f_begin f_sort f_sign f_value f_word f_wrongAt f_badAt f_bad a_told f_read f_side a_pile f_piled a_open f_opened f_joins f_had a_size a_capped a_connected a_bestCost a_bestCrosses a_bestPart a_part a_trees f_treeMany a_nodes f_nodeMany f_moveNode f_movePart f_moveFirst f_moveThen f_moveOther a_out f_outMany a_kept), (a_all, aI G 1276 g_all), (a_saved, aZ G 3 g_saved), (a_text, aB G 2000 g_text)] H := hP
  have hD : va_D A [(h0, O_R (0 : Int32) a_all a_text a_saved a_undone f_undos f_reached f_length f_begin f_sort f_sign f_value f_word f_wrongAt f_badAt f_bad a_told f_read f_side a_pile f_piled a_open f_opened f_joins f_had a_size a_capped a_connected a_bestCost a_bestCrosses a_bestPart a_part a_trees f_treeMany a_nodes f_nodeMany f_moveNode f_movePart f_moveFirst f_moveThen f_moveOther a_out f_outMany a_kept), (a_all, aI G 1276 g_all), (a_saved, aZ G 3 g_saved), (a_text, aB G 2000 g_text)] := hD
  refine lv_iload_n hx hb d_R_again_5 rfl (lv_at hl 1 rfl) ?_
  refine lv_i2l hx hb d_R_again_6 rfl ?_
  refine lv_lconst (v := (0 : Int64)) hx hb d_R_again_7 (by decide) ?_
  refine lv_ldc2 (v := (2 : Int64)) hx hb hown (htl _ k_1634) d_R_again_8 ?_
  refine call_i (isC := []) (run_S (As := [.long x1.toInt64, .long (0 : Int64), .long (2 : Int64)]) (rest := []) hx hb hml hown htl (c_R_in l G Y  x1.toInt64 (0 : Int64) (2 : Int64) _ rfl) ms_R_in k_1356 (hRk (by decide) (by decide)) hK hsk hS hP hD (isC := []) rfl (by decide) rfl hl.1 rfl (lv_room (Nat.le_of_ble_eq_true rfl)) d_R_again_11) hP hD hS rfl rfl (fun H locs hP hD hS => ?_)
  have hP : va_P G.1 classes [(h0, O_R (0 : Int32) a_all a_text a_saved a_undone f_undos f_reached f_length f_begin f_sort f_sign f_value f_word f_wrongAt f_badAt f_bad a_told f_read f_side a_pile f_piled a_open f_opened f_joins f_had a_size a_capped a_connected a_bestCost a_bestCrosses a_bestPart a_part a_trees f_treeMany a_nodes f_nodeMany f_moveNode f_movePart f_moveFirst f_moveThen f_moveOther a_out f_outMany a_kept), (a_all, aI G 1276 g_all), (a_saved, aZ G 3 g_saved), (a_text, aB G 2000 g_text)] H := hP
  have hD : va_D A [(h0, O_R (0 : Int32) a_all a_text a_saved a_undone f_undos f_reached f_length f_begin f_sort f_sign f_value f_word f_wrongAt f_badAt f_bad a_told f_read f_side a_pile f_piled a_open f_opened f_joins f_had a_size a_capped a_connected a_bestCost a_bestCrosses a_bestPart a_part a_trees f_treeMany a_nodes f_nodeMany f_moveNode f_movePart f_moveFirst f_moveThen f_moveOther a_out f_outMany a_kept), (a_all, aI G 1276 g_all), (a_saved, aZ G 3 g_saved), (a_text, aB G 2000 g_text)] := hD
  refine lv_if_eq (tgt := 26) hx hb d_R_again_14 (by decide) (fun c1 => ?_) (fun c1 => ?_)
  · have hf := di_t c1 hf
    refine lv_iconst (v := (0 : Int32)) hx hb d_R_again_26 (by decide) ?_
    cases hf
    exact hret 27 ls H locs z_0 hP hS d_R_again_27
  · have hf := di_f c1 hf
    refine lv_aload_n hx hb d_R_again_17 rfl (lv_at hl 0 rfl) ?_
    refine va_get (D := G.1) (ci := 12) (v := .ref a_saved) (C := n_R) (T := T_R) (N := 44) hx hb htl iw_R hown hK hP 0 rfl rfl 3 (by decide) (htl _ k_1199) (fun _ h9 => h9) rfl d_R_again_18 ?_
    refine lv_iload_n hx hb d_R_again_21 rfl (lv_at hl 1 rfl) ?_
    obtain ⟨c2, hf⟩ := dk_e hf
    refine va_zald hx hb hK hP 2 3 rfl rfl c2 d_R_again_22 ?_
    refine lv_if_ne (tgt := 28) hx hb d_R_again_23 (by decide) (fun c3 => ?_) (fun c3 => ?_)
    · have hf := di_f c3 hf
      refine lv_aload_n hx hb d_R_again_28 rfl (lv_at hl 0 rfl) ?_
      refine lv_iload_n hx hb d_R_again_29 rfl (lv_at hl 1 rfl) ?_
      refine lv_iconst (v := (1 : Int32)) hx hb d_R_again_30 (by decide) ?_
      refine lv_iadd hx hb d_R_again_31 ?_
      refine lv_iconst (v := (0 : Int32)) hx hb d_R_again_32 (by decide) ?_
      obtain ⟨t4, hv5, hf⟩ := db_e hf
      refine call_v (isC := [0, 1, 3]) (run_V (As := [.int (x1 + (1 : Int32)), .int (0 : Int32)]) (rest := []) (ci := 12) (q0 := 0) hx hb hml hown htl (c_R_copiesText l G Y  h0 a_all a_text a_saved a_undone a_told a_pile a_open a_size a_capped a_connected a_bestCost a_bestCrosses a_bestPart a_part a_trees a_nodes a_out a_kept (0 : Int32) f_undos f_reached f_length f_begin f_sort f_sign f_value f_word f_wrongAt f_badAt f_bad f_read f_side f_piled f_opened f_joins f_had f_treeMany f_nodeMany f_moveNode f_movePart f_moveFirst f_moveThen f_moveOther f_outMany g_all g_text (x1 + (1 : Int32)) (0 : Int32) N t4 hv5) mv_R_copiesText k_1708 (hRk (by decide) (by decide)) hK hsk hS hP hD (isC := [0, 1, 3]) rfl (by decide) rfl rfl rfl hl.1 rfl (lv_room (Nat.le_of_ble_eq_true rfl)) d_R_again_33) hP hD hS rfl rfl (fun H locs hP hD hS => ?_)
      have hP : va_P G.1 classes [(h0, O_R (0 : Int32) a_all a_text a_saved a_undone f_undos f_reached f_length f_begin f_sort f_sign f_value f_word f_wrongAt f_badAt f_bad a_told f_read f_side a_pile f_piled a_open f_opened f_joins f_had a_size a_capped a_connected a_bestCost a_bestCrosses a_bestPart a_part a_trees f_treeMany a_nodes f_nodeMany f_moveNode f_movePart f_moveFirst f_moveThen f_moveOther a_out f_outMany a_kept), (a_all, aI G 1276 t4.1), (a_saved, aZ G 3 g_saved), (a_text, aB G 2000 t4.2)] H := hP
      have hD : va_D A [(h0, O_R (0 : Int32) a_all a_text a_saved a_undone f_undos f_reached f_length f_begin f_sort f_sign f_value f_word f_wrongAt f_badAt f_bad a_told f_read f_side a_pile f_piled a_open f_opened f_joins f_had a_size a_capped a_connected a_bestCost a_bestCrosses a_bestPart a_part a_trees f_treeMany a_nodes f_nodeMany f_moveNode f_movePart f_moveFirst f_moveThen f_moveOther a_out f_outMany a_kept), (a_all, aI G 1276 t4.1), (a_saved, aZ G 3 g_saved), (a_text, aB G 2000 t4.2)] := hD
      refine lv_aload_n hx hb d_R_again_36 rfl (lv_at hl 0 rfl) ?_
      refine lv_iconst (v := (0 : Int32)) hx hb d_R_again_37 (by decide) ?_
      refine va_put (D := G.1) (ci := 12) (v := .int (0 : Int32)) (ty := .int) (C := n_R) (T := T_R) (N := 44) hx hb htl iw_R ty_R ty_R_ok nm_R hown hK hP hD hS 0 rfl rfl 5 (by decide) (htl _ k_1201) (fun _ h9 => h9) rfl (by decide +kernel) rfl rfl (Nat.le_of_ble_eq_true rfl) d_R_again_38 (fun H locs hP hD hS => ?_)
      have hP : va_P G.1 classes [(h0, O_R (0 : Int32) a_all a_text a_saved a_undone (0 : Int32) f_reached f_length f_begin f_sort f_sign f_value f_word f_wrongAt f_badAt f_bad a_told f_read f_side a_pile f_piled a_open f_opened f_joins f_had a_size a_capped a_connected a_bestCost a_bestCrosses a_bestPart a_part a_trees f_treeMany a_nodes f_nodeMany f_moveNode f_movePart f_moveFirst f_moveThen f_moveOther a_out f_outMany a_kept), (a_all, aI G 1276 t4.1), (a_saved, aZ G 3 g_saved), (a_text, aB G 2000 t4.2)] H := hP
      have hD : va_D A [(h0, O_R (0 : Int32) a_all a_text a_saved a_undone (0 : Int32) f_reached f_length f_begin f_sort f_sign f_value f_word f_wrongAt f_badAt f_bad a_told f_read f_side a_pile f_piled a_open f_opened f_joins f_had a_size a_capped a_connected a_bestCost a_bestCrosses a_bestPart a_part a_trees f_treeMany a_nodes f_nodeMany f_moveNode f_movePart f_moveFirst f_moveThen f_moveOther a_out f_outMany a_kept), (a_all, aI G 1276 t4.1), (a_saved, aZ G 3 g_saved), (a_text, aB G 2000 t4.2)] := hD
      refine lv_iconst (v := (1 : Int32)) hx hb d_R_again_41 (by decide) ?_
      cases hf
      exact hret 42 ls H locs z_1 hP hS d_R_again_42
    · have hf := di_t c3 hf
      refine lv_iconst (v := (0 : Int32)) hx hb d_R_again_26 (by decide) ?_
      cases hf
      exact hret 27 ls H locs z_0 hP hS d_R_again_27
