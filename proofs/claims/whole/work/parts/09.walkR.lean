set_option maxHeartbeats 4000000 in
set_option maxRecDepth 100000 in
theorem c_R_partsOfGreedy (l : Launch) (G : va_G × (Nat → ClassId)) (Y : (Nat → Nat) × (Nat → Nat)) (h0 : Nat) (a_all : Nat) (a_text : Nat) (a_saved : Nat) (a_undone : Nat) (a_told : Nat) (a_pile : Nat) (a_open : Nat) (a_size : Nat) (a_capped : Nat) (a_connected : Nat) (a_bestCost : Nat) (a_bestCrosses : Nat) (a_bestPart : Nat) (a_part : Nat) (a_trees : Nat) (a_nodes : Nat) (a_out : Nat) (a_kept : Nat) (f_raised : Int32) (f_undos : Int32) (f_reached : Int32) (f_length : Int32) (f_begin : Int32) (f_sort : Int32) (f_sign : Int32) (f_value : Int32) (f_word : Int64) (f_wrongAt : Int32) (f_badAt : Int32) (f_bad : Int32) (f_read : Int32) (f_side : Int32) (f_piled : Int32) (f_opened : Int32) (f_joins : Int32) (f_had : Int32) (f_treeMany : Int32) (f_nodeMany : Int32) (f_moveNode : Int32) (f_movePart : Int32) (f_moveFirst : Int32) (f_moveThen : Int32) (f_moveOther : Int32) (f_outMany : Int32) (g_all : Nat → Int32) (g_part : Nat → Int32) (g_size : Nat → Int64) (g_trees : Nat → Int32) (N : Nat) (res : Int32 × (Nat → Int32) × (Nat → Int32)) (hf : R_partsOfGreedy N f_treeMany g_all g_part g_size g_trees = some res) : Cv l classes y_R_partsOfGreedy b_R_partsOfGreedy 2 none (rmk 3) G.1 (tyL G) Y [.ref h0] [(h0, O_R f_raised a_all a_text a_saved a_undone f_undos f_reached f_length f_begin f_sort f_sign f_value f_word f_wrongAt f_badAt f_bad a_told f_read f_side a_pile f_piled a_open f_opened f_joins f_had a_size a_capped a_connected a_bestCost a_bestCrosses a_bestPart a_part a_trees f_treeMany a_nodes f_nodeMany f_moveNode f_movePart f_moveFirst f_moveThen f_moveOther a_out f_outMany a_kept), (a_all, aI G 1276 g_all), (a_part, aI G 256 g_part), (a_size, aJ G 256 g_size), (a_trees, aI G 8 g_trees)] [(h0, O_R f_raised a_all a_text a_saved a_undone f_undos f_reached f_length f_begin f_sort f_sign f_value f_word f_wrongAt f_badAt f_bad a_told f_read f_side a_pile f_piled a_open f_opened f_joins f_had a_size a_capped a_connected a_bestCost a_bestCrosses a_bestPart a_part a_trees res.1 a_nodes f_nodeMany f_moveNode f_movePart f_moveFirst f_moveThen f_moveOther a_out f_outMany a_kept), (a_all, aI G 1276 g_all), (a_part, aI G 256 res.2.1), (a_size, aJ G 256 g_size), (a_trees, aI G 8 res.2.2)] := by
  refine entV (by decide) (Nat.le_of_ble_eq_true rfl) ?_
  intro p e s m args below meth c ls A Q hx hb hml hown htl hK hsk wq hl hret
  obtain ⟨hP, hD, hS⟩ := wq
  have hl : lv_has ls 2 [(0, .ref h0)] := hl
  have hS : va_S A s.heap s.heap [] := hS
  obtain ⟨H, hH⟩ : ∃ H : Heap, H = s.heap := ⟨_, rfl⟩
  obtain ⟨locs, hlocs⟩ : ∃ z : List Loc, z = [] := ⟨_, rfl⟩
  rw [← hH] at hP
  replace hS : va_S A s.heap H locs := by rw [hH, hlocs]; exact hS
  suffices hgo : W p l e (rmk 3) s m args below meth c H locs 0 0 Q (F0 m 0 ls []) by rw [hH, hlocs] at hgo; exact hgo
  have hJ54 : ∀ (f_treeMany : Int32) (g_part : Nat → Int32) (g_trees : Nat → Int32) (H : Heap) (locs : List Loc) (ls : Array Slot), PDS G.1 classes A s [(h0, O_R f_raised a_all a_text a_saved a_undone f_undos f_reached f_length f_begin f_sort f_sign f_value f_word f_wrongAt f_badAt f_bad a_told f_read f_side a_pile f_piled a_open f_opened f_joins f_had a_size a_capped a_connected a_bestCost a_bestCrosses a_bestPart a_part a_trees f_treeMany a_nodes f_nodeMany f_moveNode f_movePart f_moveFirst f_moveThen f_moveOther a_out f_outMany a_kept), (a_all, aI G 1276 g_all), (a_part, aI G 256 g_part), (a_size, aJ G 256 g_size), (a_trees, aI G 8 g_trees)] H locs → lv_has ls 2 [] → R_partsOfGreedy_54 N f_treeMany g_all g_part g_size g_trees = some res → W p l e (rmk 3) s m args below meth c H locs 0 0 Q (F0 m 54 ls []) := by
    intro f_treeMany g_part g_trees H locs ls wq hl hf
    obtain ⟨hP, hD, hS⟩ := wq
    cases hf
    exact hret 54 ls H locs hP hS d_R_partsOfGreedy_54
  have hJ39 : ∀ (f_treeMany : Int32) (g_part : Nat → Int32) (g_trees : Nat → Int32) (H : Heap) (locs : List Loc) (ls : Array Slot), PDS G.1 classes A s [(h0, O_R f_raised a_all a_text a_saved a_undone f_undos f_reached f_length f_begin f_sort f_sign f_value f_word f_wrongAt f_badAt f_bad a_told f_read f_side a_pile f_piled a_open f_opened f_joins f_had a_size a_capped a_connected a_bestCost a_bestCrosses a_bestPart a_part a_trees f_treeMany a_nodes f_nodeMany f_moveNode f_movePart f_moveFirst f_moveThen f_moveOther a_out f_outMany a_kept), (a_all, aI G 1276 g_all), (a_part, aI G 256 g_part), (a_size, aJ G 256 g_size), (a_trees, aI G 8 g_trees)] H locs → lv_has ls 2 [(0, .ref h0)] → R_partsOfGreedy_39 N f_treeMany g_all g_part g_size g_trees = some res → W p l e (rmk 3) s m args below meth c H locs 0 0 Q (F0 m 39 ls []) := by
    intro f_treeMany g_part g_trees H locs ls wq hl hf
    obtain ⟨hP, hD, hS⟩ := wq
    obtain ⟨y39, hy39, hfo39⟩ := db_e hf
    have hL39 : ∀ (n : Nat) (f_treeMany : Int32) (g_part : Nat → Int32) (g_trees : Nat → Int32) (H : Heap) (locs : List Loc) (ls : Array Slot), lp (fun x => R_partsOfGreedy_b39 N x.1 g_all x.2.1 g_size x.2.2) n (f_treeMany, g_part, g_trees) = some y39 → PDS G.1 classes A s [(h0, O_R f_raised a_all a_text a_saved a_undone f_undos f_reached f_length f_begin f_sort f_sign f_value f_word f_wrongAt f_badAt f_bad a_told f_read f_side a_pile f_piled a_open f_opened f_joins f_had a_size a_capped a_connected a_bestCost a_bestCrosses a_bestPart a_part a_trees f_treeMany a_nodes f_nodeMany f_moveNode f_movePart f_moveFirst f_moveThen f_moveOther a_out f_outMany a_kept), (a_all, aI G 1276 g_all), (a_part, aI G 256 g_part), (a_size, aJ G 256 g_size), (a_trees, aI G 8 g_trees)] H locs → lv_has ls 2 [(0, .ref h0)] → W p l e (rmk 3) s m args below meth c H locs 0 0 Q (F0 m 39 ls []) := by
      intro n
      induction n with
      | zero =>
        intro f_treeMany g_part g_trees H locs ls hf
        exact lp_0 hf
      | succ n ih39 =>
        intro f_treeMany g_part g_trees H locs ls hf wq hl
        obtain ⟨hP, hD, hS⟩ := wq
        obtain ⟨r39, hf, hk39⟩ := lp_s hf
        have hf : R_partsOfGreedy_b39 N f_treeMany g_all g_part g_size g_trees = some r39 := hf
        refine lv_aload_n hx hb d_R_partsOfGreedy_39 rfl (lv_at hl 0 rfl) ?_
        refine va_get (D := G.1) (ci := 12) (v := .int f_treeMany) (C := n_R) (T := T_R) (N := 44) hx hb htl iw_R hown hK hP 0 rfl rfl 33 (by decide) (htl _ k_1229) (fun _ h9 => h9) rfl d_R_partsOfGreedy_40 ?_
        refine lv_iconst (v := (1 : Int32)) hx hb d_R_partsOfGreedy_43 (by decide) ?_
        refine lv_icmp_le (tgt := 54) hx hb d_R_partsOfGreedy_44 (by decide) (fun c8 => ?_) (fun c8 => ?_)
        · have hf := di_t c8 hf
          have hq39 := lpk_x hf hk39
          have hf := ex_y (f := fun y => R_partsOfGreedy_a39 N g_all g_size y) hq39 hfo39
          have hf : R_partsOfGreedy_54 N f_treeMany g_all g_part g_size g_trees = some res := hf
          exact hJ54 f_treeMany g_part g_trees H locs ls ⟨hP, hD, hS⟩ (lv_sub hl [] rfl) hf
        · have hf := di_f c8 hf
          refine lv_aload_n hx hb d_R_partsOfGreedy_47 rfl (lv_at hl 0 rfl) ?_
          obtain ⟨t9, hv10, hf⟩ := db_e hf
          refine call_v (isC := [0, 1, 2, 3, 4]) (run_V (As := []) (rest := []) (ci := 12) (q0 := 0) hx hb hml hown htl (c_R_joinsGreedily l G Y  h0 a_all a_text a_saved a_undone a_told a_pile a_open a_size a_capped a_connected a_bestCost a_bestCrosses a_bestPart a_part a_trees a_nodes a_out a_kept f_raised f_undos f_reached f_length f_begin f_sort f_sign f_value f_word f_wrongAt f_badAt f_bad f_read f_side f_piled f_opened f_joins f_had f_treeMany f_nodeMany f_moveNode f_movePart f_moveFirst f_moveThen f_moveOther f_outMany g_all g_part g_size g_trees N t9 hv10) mv_R_joinsGreedily k_1554 (hRk (by decide) (by decide)) hK hsk hS hP hD (isC := [0, 1, 2, 3, 4]) rfl (by decide) rfl rfl rfl hl.1 rfl (lv_room (Nat.le_of_ble_eq_true rfl)) d_R_partsOfGreedy_48) hP hD hS rfl rfl (fun H locs hP hD hS => ?_)
          have hP : va_P G.1 classes [(h0, O_R f_raised a_all a_text a_saved a_undone f_undos f_reached f_length f_begin f_sort f_sign f_value f_word f_wrongAt f_badAt f_bad a_told f_read f_side a_pile f_piled a_open f_opened f_joins f_had a_size a_capped a_connected a_bestCost a_bestCrosses a_bestPart a_part a_trees t9.1 a_nodes f_nodeMany f_moveNode f_movePart f_moveFirst f_moveThen f_moveOther a_out f_outMany a_kept), (a_all, aI G 1276 g_all), (a_part, aI G 256 t9.2.1), (a_size, aJ G 256 g_size), (a_trees, aI G 8 t9.2.2)] H := hP
          have hD : va_D A [(h0, O_R f_raised a_all a_text a_saved a_undone f_undos f_reached f_length f_begin f_sort f_sign f_value f_word f_wrongAt f_badAt f_bad a_told f_read f_side a_pile f_piled a_open f_opened f_joins f_had a_size a_capped a_connected a_bestCost a_bestCrosses a_bestPart a_part a_trees t9.1 a_nodes f_nodeMany f_moveNode f_movePart f_moveFirst f_moveThen f_moveOther a_out f_outMany a_kept), (a_all, aI G 1276 g_all), (a_part, aI G 256 t9.2.1), (a_size, aJ G 256 g_size), (a_trees, aI G 8 t9.2.2)] := hD
          refine lv_goto (tgt := 39) hx hb d_R_partsOfGreedy_51 (by decide) ?_
          exact ih39 t9.1 t9.2.1 t9.2.2 H locs ls (lpk_i hf hk39) ⟨hP, hD, hS⟩ (lv_sub hl [0] rfl)
    exact hL39 N f_treeMany g_part g_trees H locs ls hy39 ⟨hP, hD, hS⟩ hl
  have hJ16 : ∀ (f_treeMany : Int32) (g_part : Nat → Int32) (g_trees : Nat → Int32) (x1 : Int32) (H : Heap) (locs : List Loc) (ls : Array Slot), PDS G.1 classes A s [(h0, O_R f_raised a_all a_text a_saved a_undone f_undos f_reached f_length f_begin f_sort f_sign f_value f_word f_wrongAt f_badAt f_bad a_told f_read f_side a_pile f_piled a_open f_opened f_joins f_had a_size a_capped a_connected a_bestCost a_bestCrosses a_bestPart a_part a_trees f_treeMany a_nodes f_nodeMany f_moveNode f_movePart f_moveFirst f_moveThen f_moveOther a_out f_outMany a_kept), (a_all, aI G 1276 g_all), (a_part, aI G 256 g_part), (a_size, aJ G 256 g_size), (a_trees, aI G 8 g_trees)] H locs → lv_has ls 2 [(0, .ref h0), (1, .int x1)] → R_partsOfGreedy_16 N f_treeMany g_all g_part g_size g_trees x1 = some res → W p l e (rmk 3) s m args below meth c H locs 0 0 Q (F0 m 16 ls []) := by
    intro f_treeMany g_part g_trees x1 H locs ls wq hl hf
    obtain ⟨hP, hD, hS⟩ := wq
    obtain ⟨y16, hy16, hfo16⟩ := db_e hf
    have hL16 : ∀ (n : Nat) (g_trees : Nat → Int32) (x1 : Int32) (H : Heap) (locs : List Loc) (ls : Array Slot), lp (fun x => R_partsOfGreedy_b16 N f_treeMany g_all g_part g_size x.1 x.2) n (g_trees, x1) = some y16 → PDS G.1 classes A s [(h0, O_R f_raised a_all a_text a_saved a_undone f_undos f_reached f_length f_begin f_sort f_sign f_value f_word f_wrongAt f_badAt f_bad a_told f_read f_side a_pile f_piled a_open f_opened f_joins f_had a_size a_capped a_connected a_bestCost a_bestCrosses a_bestPart a_part a_trees f_treeMany a_nodes f_nodeMany f_moveNode f_movePart f_moveFirst f_moveThen f_moveOther a_out f_outMany a_kept), (a_all, aI G 1276 g_all), (a_part, aI G 256 g_part), (a_size, aJ G 256 g_size), (a_trees, aI G 8 g_trees)] H locs → lv_has ls 2 [(0, .ref h0), (1, .int x1)] → W p l e (rmk 3) s m args below meth c H locs 0 0 Q (F0 m 16 ls []) := by
      intro n
      induction n with
      | zero =>
        intro g_trees x1 H locs ls hf
        exact lp_0 hf
      | succ n ih16 =>
        intro g_trees x1 H locs ls hf wq hl
        obtain ⟨hP, hD, hS⟩ := wq
        obtain ⟨r16, hf, hk16⟩ := lp_s hf
        have hf : R_partsOfGreedy_b16 N f_treeMany g_all g_part g_size g_trees x1 = some r16 := hf
        refine lv_iload_n hx hb d_R_partsOfGreedy_16 rfl (lv_at hl 1 rfl) ?_
        refine lv_aload_n hx hb d_R_partsOfGreedy_17 rfl (lv_at hl 0 rfl) ?_
        refine va_get (D := G.1) (ci := 12) (v := .int f_treeMany) (C := n_R) (T := T_R) (N := 44) hx hb htl iw_R hown hK hP 0 rfl rfl 33 (by decide) (htl _ k_1229) (fun _ h9 => h9) rfl d_R_partsOfGreedy_18 ?_
        refine lv_icmp_ge (tgt := 39) hx hb d_R_partsOfGreedy_21 (by decide) (fun c4 => ?_) (fun c4 => ?_)
        · have hf := di_t c4 hf
          have hq16 := lpk_x hf hk16
          have hf := ex_y (f := fun y => R_partsOfGreedy_a16 N f_treeMany g_all g_part g_size y) hq16 hfo16
          have hf : R_partsOfGreedy_39 N f_treeMany g_all g_part g_size g_trees = some res := hf
          exact hJ39 f_treeMany g_part g_trees H locs ls ⟨hP, hD, hS⟩ (lv_sub hl [0] rfl) hf
        · have hf := di_f c4 hf
          refine lv_aload_n hx hb d_R_partsOfGreedy_24 rfl (lv_at hl 0 rfl) ?_
          refine va_get (D := G.1) (ci := 12) (v := .ref a_trees) (C := n_R) (T := T_R) (N := 44) hx hb htl iw_R hown hK hP 0 rfl rfl 32 (by decide) (htl _ k_1228) (fun _ h9 => h9) rfl d_R_partsOfGreedy_25 ?_
          refine lv_iload_n hx hb d_R_partsOfGreedy_28 rfl (lv_at hl 1 rfl) ?_
          refine lv_iconst (v := (1 : Int32)) hx hb d_R_partsOfGreedy_29 (by decide) ?_
          refine lv_iload_n hx hb d_R_partsOfGreedy_30 rfl (lv_at hl 1 rfl) ?_
          refine lv_ishl hx hb d_R_partsOfGreedy_31 ?_
          obtain ⟨c5, hf⟩ := dk_e hf
          refine nx_iast hx hb hK hP hD hS 4 1 rfl rfl c5 d_R_partsOfGreedy_32 (fun v6 ev6 H locs hP hD hS => ?_)
          have hf := dn_e ev6 hf
          have hP : va_P G.1 classes [(h0, O_R f_raised a_all a_text a_saved a_undone f_undos f_reached f_length f_begin f_sort f_sign f_value f_word f_wrongAt f_badAt f_bad a_told f_read f_side a_pile f_piled a_open f_opened f_joins f_had a_size a_capped a_connected a_bestCost a_bestCrosses a_bestPart a_part a_trees f_treeMany a_nodes f_nodeMany f_moveNode f_movePart f_moveFirst f_moveThen f_moveOther a_out f_outMany a_kept), (a_all, aI G 1276 g_all), (a_part, aI G 256 g_part), (a_size, aJ G 256 g_size), (a_trees, aI G 8 v6)] H := hP
          have hD : va_D A [(h0, O_R f_raised a_all a_text a_saved a_undone f_undos f_reached f_length f_begin f_sort f_sign f_value f_word f_wrongAt f_badAt f_bad a_told f_read f_side a_pile f_piled a_open f_opened f_joins f_had a_size a_capped a_connected a_bestCost a_bestCrosses a_bestPart a_part a_trees f_treeMany a_nodes f_nodeMany f_moveNode f_movePart f_moveFirst f_moveThen f_moveOther a_out f_outMany a_kept), (a_all, aI G 1276 g_all), (a_part, aI G 256 g_part), (a_size, aJ G 256 g_size), (a_trees, aI G 8 v6)] := hD
          obtain ⟨v7, ev7⟩ : ∃ z : Int32, z = x1 + (1 : Int32) := ⟨_, rfl⟩
          have hf := dn_e ev7 hf
          refine lv_iinc (v := v7) (lv' := [(1, .int v7), (0, .ref h0)]) hx hb d_R_partsOfGreedy_33 hl (k := 1) rfl (by rw [ev7]; rfl) (by decide) rfl (fun ls hl => ?_)
          refine lv_goto (tgt := 16) hx hb d_R_partsOfGreedy_36 (by decide) ?_
          exact ih16 v6 v7 H locs ls (lpk_i hf hk16) ⟨hP, hD, hS⟩ (lv_sub hl [1, 0] rfl)
    exact hL16 N g_trees x1 H locs ls hy16 ⟨hP, hD, hS⟩ hl
  refine lv_aload_n hx hb d_R_partsOfGreedy_0 rfl (lv_at hl 0 rfl) ?_
  obtain ⟨t1, hv2, hf⟩ := db_e hf
  refine call_v (isC := [0, 2]) (run_V (As := []) (rest := []) (ci := 12) (q0 := 0) hx hb hml hown htl (c_R_noParts l G Y  h0 a_all a_text a_saved a_undone a_told a_pile a_open a_size a_capped a_connected a_bestCost a_bestCrosses a_bestPart a_part a_trees a_nodes a_out a_kept f_raised f_undos f_reached f_length f_begin f_sort f_sign f_value f_word f_wrongAt f_badAt f_bad f_read f_side f_piled f_opened f_joins f_had f_treeMany f_nodeMany f_moveNode f_movePart f_moveFirst f_moveThen f_moveOther f_outMany g_part N t1 hv2) mv_R_noParts k_1550 (hRk (by decide) (by decide)) hK hsk hS hP hD (isC := [0, 2]) rfl (by decide) rfl rfl rfl hl.1 rfl (lv_room (Nat.le_of_ble_eq_true rfl)) d_R_partsOfGreedy_1) hP hD hS rfl rfl (fun H locs hP hD hS => ?_)
  have hP : va_P G.1 classes [(h0, O_R f_raised a_all a_text a_saved a_undone f_undos f_reached f_length f_begin f_sort f_sign f_value f_word f_wrongAt f_badAt f_bad a_told f_read f_side a_pile f_piled a_open f_opened f_joins f_had a_size a_capped a_connected a_bestCost a_bestCrosses a_bestPart a_part a_trees f_treeMany a_nodes f_nodeMany f_moveNode f_movePart f_moveFirst f_moveThen f_moveOther a_out f_outMany a_kept), (a_all, aI G 1276 g_all), (a_part, aI G 256 t1), (a_size, aJ G 256 g_size), (a_trees, aI G 8 g_trees)] H := hP
  have hD : va_D A [(h0, O_R f_raised a_all a_text a_saved a_undone f_undos f_reached f_length f_begin f_sort f_sign f_value f_word f_wrongAt f_badAt f_bad a_told f_read f_side a_pile f_piled a_open f_opened f_joins f_had a_size a_capped a_connected a_bestCost a_bestCrosses a_bestPart a_part a_trees f_treeMany a_nodes f_nodeMany f_moveNode f_movePart f_moveFirst f_moveThen f_moveOther a_out f_outMany a_kept), (a_all, aI G 1276 g_all), (a_part, aI G 256 t1), (a_size, aJ G 256 g_size), (a_trees, aI G 8 g_trees)] := hD
  refine lv_aload_n hx hb d_R_partsOfGreedy_4 rfl (lv_at hl 0 rfl) ?_
  refine lv_aload_n hx hb d_R_partsOfGreedy_5 rfl (lv_at hl 0 rfl) ?_
  refine va_get (D := G.1) (ci := 12) (v := .ref a_all) (C := n_R) (T := T_R) (N := 44) hx hb htl iw_R hown hK hP 0 rfl rfl 1 (by decide) (htl _ k_1197) (fun _ h9 => h9) rfl d_R_partsOfGreedy_6 ?_
  refine lv_iconst (v := (0 : Int32)) hx hb d_R_partsOfGreedy_9 (by decide) ?_
  refine va_iald hx hb hK hP 1 1 rfl rfl (vp_lit (by decide)) d_R_partsOfGreedy_10 ?_
  refine lv_topi (fun v3 ev3 => ?_)
  have hf := dn_e ev3 hf
  refine va_put (D := G.1) (ci := 12) (v := .int v3) (ty := .int) (C := n_R) (T := T_R) (N := 44) hx hb htl iw_R ty_R ty_R_ok nm_R hown hK hP hD hS 0 rfl rfl 33 (by decide) (htl _ k_1229) (fun _ h9 => h9) rfl (by decide +kernel) rfl rfl (Nat.le_of_ble_eq_true rfl) d_R_partsOfGreedy_11 (fun H locs hP hD hS => ?_)
  have hP : va_P G.1 classes [(h0, O_R f_raised a_all a_text a_saved a_undone f_undos f_reached f_length f_begin f_sort f_sign f_value f_word f_wrongAt f_badAt f_bad a_told f_read f_side a_pile f_piled a_open f_opened f_joins f_had a_size a_capped a_connected a_bestCost a_bestCrosses a_bestPart a_part a_trees v3 a_nodes f_nodeMany f_moveNode f_movePart f_moveFirst f_moveThen f_moveOther a_out f_outMany a_kept), (a_all, aI G 1276 g_all), (a_part, aI G 256 t1), (a_size, aJ G 256 g_size), (a_trees, aI G 8 g_trees)] H := hP
  have hD : va_D A [(h0, O_R f_raised a_all a_text a_saved a_undone f_undos f_reached f_length f_begin f_sort f_sign f_value f_word f_wrongAt f_badAt f_bad a_told f_read f_side a_pile f_piled a_open f_opened f_joins f_had a_size a_capped a_connected a_bestCost a_bestCrosses a_bestPart a_part a_trees v3 a_nodes f_nodeMany f_moveNode f_movePart f_moveFirst f_moveThen f_moveOther a_out f_outMany a_kept), (a_all, aI G 1276 g_all), (a_part, aI G 256 t1), (a_size, aJ G 256 g_size), (a_trees, aI G 8 g_trees)] := hD
  refine lv_iconst (v := (0 : Int32)) hx hb d_R_partsOfGreedy_14 (by decide) ?_
  refine lv_istore_n (lv' := [(1, .int (0 : Int32)), (0, .ref h0)]) hx hb d_R_partsOfGreedy_15 rfl hl (by decide) rfl (fun ls hl => ?_)
  exact hJ16 v3 t1 g_trees (0 : Int32) H locs ls ⟨hP, hD, hS⟩ (lv_sub hl [1, 0] rfl) hf
set_option maxHeartbeats 4000000 in
set_option maxRecDepth 100000 in
theorem c_R_takesPlan (l : Launch) (G : va_G × (Nat → ClassId)) (Y : (Nat → Nat) × (Nat → Nat)) (h0 : Nat) (a_all : Nat) (a_text : Nat) (a_saved : Nat) (a_undone : Nat) (a_told : Nat) (a_pile : Nat) (a_open : Nat) (a_size : Nat) (a_capped : Nat) (a_connected : Nat) (a_bestCost : Nat) (a_bestCrosses : Nat) (a_bestPart : Nat) (a_part : Nat) (a_trees : Nat) (a_nodes : Nat) (a_out : Nat) (a_kept : Nat) (f_raised : Int32) (f_undos : Int32) (f_reached : Int32) (f_length : Int32) (f_begin : Int32) (f_sort : Int32) (f_sign : Int32) (f_value : Int32) (f_word : Int64) (f_wrongAt : Int32) (f_badAt : Int32) (f_bad : Int32) (f_read : Int32) (f_side : Int32) (f_piled : Int32) (f_opened : Int32) (f_joins : Int32) (f_had : Int32) (f_treeMany : Int32) (f_nodeMany : Int32) (f_moveNode : Int32) (f_movePart : Int32) (f_moveFirst : Int32) (f_moveThen : Int32) (f_moveOther : Int32) (f_outMany : Int32) (g_all : Nat → Int32) (g_part : Nat → Int32) (N : Nat) (res : (Nat → Int32)) (hf : R_takesPlan N g_all g_part = some res) : Cv l classes y_R_takesPlan b_R_takesPlan 2 none (rmk 0) G.1 (tyL G) Y [.ref h0] [(h0, O_R f_raised a_all a_text a_saved a_undone f_undos f_reached f_length f_begin f_sort f_sign f_value f_word f_wrongAt f_badAt f_bad a_told f_read f_side a_pile f_piled a_open f_opened f_joins f_had a_size a_capped a_connected a_bestCost a_bestCrosses a_bestPart a_part a_trees f_treeMany a_nodes f_nodeMany f_moveNode f_movePart f_moveFirst f_moveThen f_moveOther a_out f_outMany a_kept), (a_all, aI G 1276 g_all), (a_part, aI G 256 g_part)] [(h0, O_R f_raised a_all a_text a_saved a_undone f_undos f_reached f_length f_begin f_sort f_sign f_value f_word f_wrongAt f_badAt f_bad a_told f_read f_side a_pile f_piled a_open f_opened f_joins f_had a_size a_capped a_connected a_bestCost a_bestCrosses a_bestPart a_part a_trees f_treeMany a_nodes f_nodeMany f_moveNode f_movePart f_moveFirst f_moveThen f_moveOther a_out f_outMany a_kept), (a_all, aI G 1276 g_all), (a_part, aI G 256 res)] := by
  refine entV (by decide) (Nat.le_of_ble_eq_true rfl) ?_
  intro p e s m args below meth c ls A Q hx hb hml hown htl hK hsk wq hl hret
  obtain ⟨hP, hD, hS⟩ := wq
  have hl : lv_has ls 2 [(0, .ref h0)] := hl
  have hS : va_S A s.heap s.heap [] := hS
  obtain ⟨H, hH⟩ : ∃ H : Heap, H = s.heap := ⟨_, rfl⟩
  obtain ⟨locs, hlocs⟩ : ∃ z : List Loc, z = [] := ⟨_, rfl⟩
  rw [← hH] at hP
  replace hS : va_S A s.heap H locs := by rw [hH, hlocs]; exact hS
  suffices hgo : W p l e (rmk 0) s m args below meth c H locs 0 0 Q (F0 m 0 ls []) by rw [hH, hlocs] at hgo; exact hgo
  have hJ30 : ∀ (g_part : Nat → Int32) (H : Heap) (locs : List Loc) (ls : Array Slot), PDS G.1 classes A s [(h0, O_R f_raised a_all a_text a_saved a_undone f_undos f_reached f_length f_begin f_sort f_sign f_value f_word f_wrongAt f_badAt f_bad a_told f_read f_side a_pile f_piled a_open f_opened f_joins f_had a_size a_capped a_connected a_bestCost a_bestCrosses a_bestPart a_part a_trees f_treeMany a_nodes f_nodeMany f_moveNode f_movePart f_moveFirst f_moveThen f_moveOther a_out f_outMany a_kept), (a_all, aI G 1276 g_all), (a_part, aI G 256 g_part)] H locs → lv_has ls 2 [] → R_takesPlan_30 N g_all g_part = some res → W p l e (rmk 0) s m args below meth c H locs 0 0 Q (F0 m 30 ls []) := by
    intro g_part H locs ls wq hl hf
    obtain ⟨hP, hD, hS⟩ := wq
    cases hf
    exact hret 30 ls H locs hP hS d_R_takesPlan_30
  have hJ2 : ∀ (g_part : Nat → Int32) (x1 : Int32) (H : Heap) (locs : List Loc) (ls : Array Slot), PDS G.1 classes A s [(h0, O_R f_raised a_all a_text a_saved a_undone f_undos f_reached f_length f_begin f_sort f_sign f_value f_word f_wrongAt f_badAt f_bad a_told f_read f_side a_pile f_piled a_open f_opened f_joins f_had a_size a_capped a_connected a_bestCost a_bestCrosses a_bestPart a_part a_trees f_treeMany a_nodes f_nodeMany f_moveNode f_movePart f_moveFirst f_moveThen f_moveOther a_out f_outMany a_kept), (a_all, aI G 1276 g_all), (a_part, aI G 256 g_part)] H locs → lv_has ls 2 [(0, .ref h0), (1, .int x1)] → R_takesPlan_2 N g_all g_part x1 = some res → W p l e (rmk 0) s m args below meth c H locs 0 0 Q (F0 m 2 ls []) := by
    intro g_part x1 H locs ls wq hl hf
    obtain ⟨hP, hD, hS⟩ := wq
    obtain ⟨y2, hy2, hfo2⟩ := db_e hf
    have hL2 : ∀ (n : Nat) (g_part : Nat → Int32) (x1 : Int32) (H : Heap) (locs : List Loc) (ls : Array Slot), lp (fun x => R_takesPlan_b2 N g_all x.1 x.2) n (g_part, x1) = some y2 → PDS G.1 classes A s [(h0, O_R f_raised a_all a_text a_saved a_undone f_undos f_reached f_length f_begin f_sort f_sign f_value f_word f_wrongAt f_badAt f_bad a_told f_read f_side a_pile f_piled a_open f_opened f_joins f_had a_size a_capped a_connected a_bestCost a_bestCrosses a_bestPart a_part a_trees f_treeMany a_nodes f_nodeMany f_moveNode f_movePart f_moveFirst f_moveThen f_moveOther a_out f_outMany a_kept), (a_all, aI G 1276 g_all), (a_part, aI G 256 g_part)] H locs → lv_has ls 2 [(0, .ref h0), (1, .int x1)] → W p l e (rmk 0) s m args below meth c H locs 0 0 Q (F0 m 2 ls []) := by
      intro n
      induction n with
      | zero =>
        intro g_part x1 H locs ls hf
        exact lp_0 hf
      | succ n ih2 =>
        intro g_part x1 H locs ls hf wq hl
        obtain ⟨hP, hD, hS⟩ := wq
        obtain ⟨r2, hf, hk2⟩ := lp_s hf
        have hf : R_takesPlan_b2 N g_all g_part x1 = some r2 := hf
        refine lv_iload_n hx hb d_R_takesPlan_2 rfl (lv_at hl 1 rfl) ?_
        refine lv_sipush (v := (256 : Int32)) hx hb d_R_takesPlan_3 (by decide) ?_
        refine lv_icmp_ge (tgt := 30) hx hb d_R_takesPlan_6 (by decide) (fun c1 => ?_) (fun c1 => ?_)
        · have hf := di_t c1 hf
          have hq2 := lpk_x hf hk2
          have hf := ex_y (f := fun y => R_takesPlan_a2 N g_all y) hq2 hfo2
          have hf : R_takesPlan_30 N g_all g_part = some res := hf
          exact hJ30 g_part H locs ls ⟨hP, hD, hS⟩ (lv_sub hl [] rfl) hf
        · have hf := di_f c1 hf
          refine lv_aload_n hx hb d_R_takesPlan_9 rfl (lv_at hl 0 rfl) ?_
          refine va_get (D := G.1) (ci := 12) (v := .ref a_part) (C := n_R) (T := T_R) (N := 44) hx hb htl iw_R hown hK hP 0 rfl rfl 31 (by decide) (htl _ k_1227) (fun _ h9 => h9) rfl d_R_takesPlan_10 ?_
          refine lv_iload_n hx hb d_R_takesPlan_13 rfl (lv_at hl 1 rfl) ?_
          refine lv_aload_n hx hb d_R_takesPlan_14 rfl (lv_at hl 0 rfl) ?_
          refine va_get (D := G.1) (ci := 12) (v := .ref a_all) (C := n_R) (T := T_R) (N := 44) hx hb htl iw_R hown hK hP 0 rfl rfl 1 (by decide) (htl _ k_1197) (fun _ h9 => h9) rfl d_R_takesPlan_15 ?_
          refine lv_bipush (v := (60 : Int32)) hx hb d_R_takesPlan_18 (by decide) ?_
          refine lv_iload_n hx hb d_R_takesPlan_20 rfl (lv_at hl 1 rfl) ?_
          refine lv_iadd hx hb d_R_takesPlan_21 ?_
          obtain ⟨c2, hf⟩ := dk_e hf
          refine va_iald hx hb hK hP 1 1 rfl rfl c2 d_R_takesPlan_22 ?_
          obtain ⟨c3, hf⟩ := dk_e hf
          refine nx_iast hx hb hK hP hD hS 2 1 rfl rfl c3 d_R_takesPlan_23 (fun v4 ev4 H locs hP hD hS => ?_)
          have hf := dn_e ev4 hf
          have hP : va_P G.1 classes [(h0, O_R f_raised a_all a_text a_saved a_undone f_undos f_reached f_length f_begin f_sort f_sign f_value f_word f_wrongAt f_badAt f_bad a_told f_read f_side a_pile f_piled a_open f_opened f_joins f_had a_size a_capped a_connected a_bestCost a_bestCrosses a_bestPart a_part a_trees f_treeMany a_nodes f_nodeMany f_moveNode f_movePart f_moveFirst f_moveThen f_moveOther a_out f_outMany a_kept), (a_all, aI G 1276 g_all), (a_part, aI G 256 v4)] H := hP
          have hD : va_D A [(h0, O_R f_raised a_all a_text a_saved a_undone f_undos f_reached f_length f_begin f_sort f_sign f_value f_word f_wrongAt f_badAt f_bad a_told f_read f_side a_pile f_piled a_open f_opened f_joins f_had a_size a_capped a_connected a_bestCost a_bestCrosses a_bestPart a_part a_trees f_treeMany a_nodes f_nodeMany f_moveNode f_movePart f_moveFirst f_moveThen f_moveOther a_out f_outMany a_kept), (a_all, aI G 1276 g_all), (a_part, aI G 256 v4)] := hD
          obtain ⟨v5, ev5⟩ : ∃ z : Int32, z = x1 + (1 : Int32) := ⟨_, rfl⟩
          have hf := dn_e ev5 hf
          refine lv_iinc (v := v5) (lv' := [(1, .int v5), (0, .ref h0)]) hx hb d_R_takesPlan_24 hl (k := 1) rfl (by rw [ev5]; rfl) (by decide) rfl (fun ls hl => ?_)
          refine lv_goto (tgt := 2) hx hb d_R_takesPlan_27 (by decide) ?_
          exact ih2 v4 v5 H locs ls (lpk_i hf hk2) ⟨hP, hD, hS⟩ (lv_sub hl [1, 0] rfl)
    exact hL2 N g_part x1 H locs ls hy2 ⟨hP, hD, hS⟩ hl
  refine lv_iconst (v := (0 : Int32)) hx hb d_R_takesPlan_0 (by decide) ?_
  refine lv_istore_n (lv' := [(1, .int (0 : Int32)), (0, .ref h0)]) hx hb d_R_takesPlan_1 rfl hl (by decide) rfl (fun ls hl => ?_)
  exact hJ2 g_part (0 : Int32) H locs ls ⟨hP, hD, hS⟩ (lv_sub hl [1, 0] rfl) hf
set_option maxHeartbeats 4000000 in
set_option maxRecDepth 100000 in
theorem c_R_laysNodes (l : Launch) (G : va_G × (Nat → ClassId)) (Y : (Nat → Nat) × (Nat → Nat)) (h0 : Nat) (a_all : Nat) (a_text : Nat) (a_saved : Nat) (a_undone : Nat) (a_told : Nat) (a_pile : Nat) (a_open : Nat) (a_size : Nat) (a_capped : Nat) (a_connected : Nat) (a_bestCost : Nat) (a_bestCrosses : Nat) (a_bestPart : Nat) (a_part : Nat) (a_trees : Nat) (a_nodes : Nat) (a_out : Nat) (a_kept : Nat) (f_raised : Int32) (f_undos : Int32) (f_reached : Int32) (f_length : Int32) (f_begin : Int32) (f_sort : Int32) (f_sign : Int32) (f_value : Int32) (f_word : Int64) (f_wrongAt : Int32) (f_badAt : Int32) (f_bad : Int32) (f_read : Int32) (f_side : Int32) (f_piled : Int32) (f_opened : Int32) (f_joins : Int32) (f_had : Int32) (f_treeMany : Int32) (f_nodeMany : Int32) (f_moveNode : Int32) (f_movePart : Int32) (f_moveFirst : Int32) (f_moveThen : Int32) (f_moveOther : Int32) (f_outMany : Int32) (g_nodes : Nat → Int32) (g_open : Nat → Int32) (g_part : Nat → Int32) (x1 : Int32) (N : Nat) (res : Int32 × Int32 × (Nat → Int32) × (Nat → Int32)) (hf : R_laysNodes N f_opened f_nodeMany g_nodes g_open g_part x1 = some res) : Cv l classes y_R_laysNodes b_R_laysNodes 3 none (rmk 0) G.1 (tyL G) Y [.ref h0, .int x1] [(h0, O_R f_raised a_all a_text a_saved a_undone f_undos f_reached f_length f_begin f_sort f_sign f_value f_word f_wrongAt f_badAt f_bad a_told f_read f_side a_pile f_piled a_open f_opened f_joins f_had a_size a_capped a_connected a_bestCost a_bestCrosses a_bestPart a_part a_trees f_treeMany a_nodes f_nodeMany f_moveNode f_movePart f_moveFirst f_moveThen f_moveOther a_out f_outMany a_kept), (a_nodes, aI G 8 g_nodes), (a_open, aI G 502 g_open), (a_part, aI G 256 g_part)] [(h0, O_R f_raised a_all a_text a_saved a_undone f_undos f_reached f_length f_begin f_sort f_sign f_value f_word f_wrongAt f_badAt f_bad a_told f_read f_side a_pile f_piled a_open res.1 f_joins f_had a_size a_capped a_connected a_bestCost a_bestCrosses a_bestPart a_part a_trees f_treeMany a_nodes res.2.1 f_moveNode f_movePart f_moveFirst f_moveThen f_moveOther a_out f_outMany a_kept), (a_nodes, aI G 8 res.2.2.1), (a_open, aI G 502 res.2.2.2), (a_part, aI G 256 g_part)] := by
  refine entV (by decide) (Nat.le_of_ble_eq_true rfl) ?_
  intro p e s m args below meth c ls A Q hx hb hml hown htl hK hsk wq hl hret
  obtain ⟨hP, hD, hS⟩ := wq
  have hl : lv_has ls 3 [(0, .ref h0), (1, .int x1)] := hl
  have hS : va_S A s.heap s.heap [] := hS
  obtain ⟨H, hH⟩ : ∃ H : Heap, H = s.heap := ⟨_, rfl⟩
  obtain ⟨locs, hlocs⟩ : ∃ z : List Loc, z = [] := ⟨_, rfl⟩
  rw [← hH] at hP
  replace hS : va_S A s.heap H locs := by rw [hH, hlocs]; exact hS
  suffices hgo : W p l e (rmk 0) s m args below meth c H locs 0 0 Q (F0 m 0 ls []) by rw [hH, hlocs] at hgo; exact hgo
  have hJ122 : ∀ (f_opened : Int32) (f_nodeMany : Int32) (g_nodes : Nat → Int32) (g_open : Nat → Int32) (H : Heap) (locs : List Loc) (ls : Array Slot), PDS G.1 classes A s [(h0, O_R f_raised a_all a_text a_saved a_undone f_undos f_reached f_length f_begin f_sort f_sign f_value f_word f_wrongAt f_badAt f_bad a_told f_read f_side a_pile f_piled a_open f_opened f_joins f_had a_size a_capped a_connected a_bestCost a_bestCrosses a_bestPart a_part a_trees f_treeMany a_nodes f_nodeMany f_moveNode f_movePart f_moveFirst f_moveThen f_moveOther a_out f_outMany a_kept), (a_nodes, aI G 8 g_nodes), (a_open, aI G 502 g_open), (a_part, aI G 256 g_part)] H locs → lv_has ls 3 [] → R_laysNodes_122 N f_opened f_nodeMany g_nodes g_open g_part = some res → W p l e (rmk 0) s m args below meth c H locs 0 0 Q (F0 m 122 ls []) := by
    intro f_opened f_nodeMany g_nodes g_open H locs ls wq hl hf
    obtain ⟨hP, hD, hS⟩ := wq
    cases hf
    exact hret 122 ls H locs hP hS d_R_laysNodes_122
  have hJ17 : ∀ (f_opened : Int32) (f_nodeMany : Int32) (g_nodes : Nat → Int32) (g_open : Nat → Int32) (H : Heap) (locs : List Loc) (ls : Array Slot), PDS G.1 classes A s [(h0, O_R f_raised a_all a_text a_saved a_undone f_undos f_reached f_length f_begin f_sort f_sign f_value f_word f_wrongAt f_badAt f_bad a_told f_read f_side a_pile f_piled a_open f_opened f_joins f_had a_size a_capped a_connected a_bestCost a_bestCrosses a_bestPart a_part a_trees f_treeMany a_nodes f_nodeMany f_moveNode f_movePart f_moveFirst f_moveThen f_moveOther a_out f_outMany a_kept), (a_nodes, aI G 8 g_nodes), (a_open, aI G 502 g_open), (a_part, aI G 256 g_part)] H locs → lv_has ls 3 [(0, .ref h0)] → R_laysNodes_17 N f_opened f_nodeMany g_nodes g_open g_part = some res → W p l e (rmk 0) s m args below meth c H locs 0 0 Q (F0 m 17 ls []) := by
    intro f_opened f_nodeMany g_nodes g_open H locs ls wq hl hf
    obtain ⟨hP, hD, hS⟩ := wq
    obtain ⟨y17, hy17, hfo17⟩ := db_e hf
    have hL17 : ∀ (n : Nat) (f_opened : Int32) (f_nodeMany : Int32) (g_nodes : Nat → Int32) (g_open : Nat → Int32) (H : Heap) (locs : List Loc) (ls : Array Slot), lp (fun x => R_laysNodes_b17 N x.1 x.2.1 x.2.2.1 x.2.2.2 g_part) n (f_opened, f_nodeMany, g_nodes, g_open) = some y17 → PDS G.1 classes A s [(h0, O_R f_raised a_all a_text a_saved a_undone f_undos f_reached f_length f_begin f_sort f_sign f_value f_word f_wrongAt f_badAt f_bad a_told f_read f_side a_pile f_piled a_open f_opened f_joins f_had a_size a_capped a_connected a_bestCost a_bestCrosses a_bestPart a_part a_trees f_treeMany a_nodes f_nodeMany f_moveNode f_movePart f_moveFirst f_moveThen f_moveOther a_out f_outMany a_kept), (a_nodes, aI G 8 g_nodes), (a_open, aI G 502 g_open), (a_part, aI G 256 g_part)] H locs → lv_has ls 3 [(0, .ref h0)] → W p l e (rmk 0) s m args below meth c H locs 0 0 Q (F0 m 17 ls []) := by
      intro n
      induction n with
      | zero =>
        intro f_opened f_nodeMany g_nodes g_open H locs ls hf
        exact lp_0 hf
      | succ n ih17 =>
        intro f_opened f_nodeMany g_nodes g_open H locs ls hf wq hl
        obtain ⟨hP, hD, hS⟩ := wq
        obtain ⟨r17, hf, hk17⟩ := lp_s hf
        have hf : R_laysNodes_b17 N f_opened f_nodeMany g_nodes g_open g_part = some r17 := hf
        refine lv_aload_n hx hb d_R_laysNodes_17 rfl (lv_at hl 0 rfl) ?_
        refine va_get (D := G.1) (ci := 12) (v := .int f_opened) (C := n_R) (T := T_R) (N := 44) hx hb htl iw_R hown hK hP 0 rfl rfl 22 (by decide) (htl _ k_1218) (fun _ h9 => h9) rfl d_R_laysNodes_18 ?_
        refine lv_if_le (tgt := 122) hx hb d_R_laysNodes_21 (by decide) (fun c2 => ?_) (fun c2 => ?_)
        · have hf := di_t c2 hf
          have hq17 := lpk_x hf hk17
          have hf := ex_y (f := fun y => R_laysNodes_a17 N g_part y) hq17 hfo17
          have hf : R_laysNodes_122 N f_opened f_nodeMany g_nodes g_open g_part = some res := hf
          exact hJ122 f_opened f_nodeMany g_nodes g_open H locs ls ⟨hP, hD, hS⟩ (lv_sub hl [] rfl) hf
        · have hf := di_f c2 hf
          refine lv_aload_n hx hb d_R_laysNodes_24 rfl (lv_at hl 0 rfl) ?_
          refine lv_dup hx hb d_R_laysNodes_25 rfl ?_
          refine va_get (D := G.1) (ci := 12) (v := .int f_opened) (C := n_R) (T := T_R) (N := 44) hx hb htl iw_R hown hK hP 0 rfl rfl 22 (by decide) (htl _ k_1218) (fun _ h9 => h9) rfl d_R_laysNodes_26 ?_
          refine lv_iconst (v := (1 : Int32)) hx hb d_R_laysNodes_29 (by decide) ?_
          refine lv_isub hx hb d_R_laysNodes_30 ?_
          refine lv_topi (fun v3 ev3 => ?_)
          have hf := dn_e ev3 hf
          refine va_put (D := G.1) (ci := 12) (v := .int v3) (ty := .int) (C := n_R) (T := T_R) (N := 44) hx hb htl iw_R ty_R ty_R_ok nm_R hown hK hP hD hS 0 rfl rfl 22 (by decide) (htl _ k_1218) (fun _ h9 => h9) rfl (by decide +kernel) rfl rfl (Nat.le_of_ble_eq_true rfl) d_R_laysNodes_31 (fun H locs hP hD hS => ?_)
          have hP : va_P G.1 classes [(h0, O_R f_raised a_all a_text a_saved a_undone f_undos f_reached f_length f_begin f_sort f_sign f_value f_word f_wrongAt f_badAt f_bad a_told f_read f_side a_pile f_piled a_open v3 f_joins f_had a_size a_capped a_connected a_bestCost a_bestCrosses a_bestPart a_part a_trees f_treeMany a_nodes f_nodeMany f_moveNode f_movePart f_moveFirst f_moveThen f_moveOther a_out f_outMany a_kept), (a_nodes, aI G 8 g_nodes), (a_open, aI G 502 g_open), (a_part, aI G 256 g_part)] H := hP
          have hD : va_D A [(h0, O_R f_raised a_all a_text a_saved a_undone f_undos f_reached f_length f_begin f_sort f_sign f_value f_word f_wrongAt f_badAt f_bad a_told f_read f_side a_pile f_piled a_open v3 f_joins f_had a_size a_capped a_connected a_bestCost a_bestCrosses a_bestPart a_part a_trees f_treeMany a_nodes f_nodeMany f_moveNode f_movePart f_moveFirst f_moveThen f_moveOther a_out f_outMany a_kept), (a_nodes, aI G 8 g_nodes), (a_open, aI G 502 g_open), (a_part, aI G 256 g_part)] := hD
          refine lv_aload_n hx hb d_R_laysNodes_34 rfl (lv_at hl 0 rfl) ?_
          refine va_get (D := G.1) (ci := 12) (v := .ref a_open) (C := n_R) (T := T_R) (N := 44) hx hb htl iw_R hown hK hP 0 rfl rfl 21 (by decide) (htl _ k_1217) (fun _ h9 => h9) rfl d_R_laysNodes_35 ?_
          refine lv_aload_n hx hb d_R_laysNodes_38 rfl (lv_at hl 0 rfl) ?_
          refine va_get (D := G.1) (ci := 12) (v := .int v3) (C := n_R) (T := T_R) (N := 44) hx hb htl iw_R hown hK hP 0 rfl rfl 22 (by decide) (htl _ k_1218) (fun _ h9 => h9) rfl d_R_laysNodes_39 ?_
          obtain ⟨c4, hf⟩ := dk_e hf
          refine va_iald hx hb hK hP 2 1 rfl rfl c4 d_R_laysNodes_42 ?_
          refine lv_topi (fun v5 ev5 => ?_)
          have hf := dn_e ev5 hf
          refine lv_istore_n (lv' := [(2, .int v5), (0, .ref h0)]) hx hb d_R_laysNodes_43 rfl hl (by decide) rfl (fun ls hl => ?_)
          refine lv_aload_n hx hb d_R_laysNodes_44 rfl (lv_at hl 1 rfl) ?_
          refine va_get (D := G.1) (ci := 12) (v := .ref a_part) (C := n_R) (T := T_R) (N := 44) hx hb htl iw_R hown hK hP 0 rfl rfl 31 (by decide) (htl _ k_1227) (fun _ h9 => h9) rfl d_R_laysNodes_45 ?_
          refine lv_iload_n hx hb d_R_laysNodes_48 rfl (lv_at hl 0 rfl) ?_
          obtain ⟨c6, hf⟩ := dk_e hf
          refine va_iald hx hb hK hP 3 1 rfl rfl c6 d_R_laysNodes_49 ?_
          refine lv_if_le (tgt := 119) hx hb d_R_laysNodes_50 (by decide) (fun c7 => ?_) (fun c7 => ?_)
          · have hf := di_t c7 hf
            refine lv_goto (tgt := 17) hx hb d_R_laysNodes_119 (by decide) ?_
            exact ih17 v3 f_nodeMany g_nodes g_open H locs ls (lpk_i hf hk17) ⟨hP, hD, hS⟩ (lv_sub hl [1] rfl)
          · have hf := di_f c7 hf
            refine lv_aload_n hx hb d_R_laysNodes_53 rfl (lv_at hl 1 rfl) ?_
            refine va_get (D := G.1) (ci := 12) (v := .ref a_nodes) (C := n_R) (T := T_R) (N := 44) hx hb htl iw_R hown hK hP 0 rfl rfl 34 (by decide) (htl _ k_1230) (fun _ h9 => h9) rfl d_R_laysNodes_54 ?_
            refine lv_aload_n hx hb d_R_laysNodes_57 rfl (lv_at hl 1 rfl) ?_
            refine va_get (D := G.1) (ci := 12) (v := .int f_nodeMany) (C := n_R) (T := T_R) (N := 44) hx hb htl iw_R hown hK hP 0 rfl rfl 35 (by decide) (htl _ k_1231) (fun _ h9 => h9) rfl d_R_laysNodes_58 ?_
            refine lv_iload_n hx hb d_R_laysNodes_61 rfl (lv_at hl 0 rfl) ?_
            obtain ⟨c8, hf⟩ := dk_e hf
            refine nx_iast hx hb hK hP hD hS 1 1 rfl rfl c8 d_R_laysNodes_62 (fun v9 ev9 H locs hP hD hS => ?_)
            have hf := dn_e ev9 hf
            have hP : va_P G.1 classes [(h0, O_R f_raised a_all a_text a_saved a_undone f_undos f_reached f_length f_begin f_sort f_sign f_value f_word f_wrongAt f_badAt f_bad a_told f_read f_side a_pile f_piled a_open v3 f_joins f_had a_size a_capped a_connected a_bestCost a_bestCrosses a_bestPart a_part a_trees f_treeMany a_nodes f_nodeMany f_moveNode f_movePart f_moveFirst f_moveThen f_moveOther a_out f_outMany a_kept), (a_nodes, aI G 8 v9), (a_open, aI G 502 g_open), (a_part, aI G 256 g_part)] H := hP
            have hD : va_D A [(h0, O_R f_raised a_all a_text a_saved a_undone f_undos f_reached f_length f_begin f_sort f_sign f_value f_word f_wrongAt f_badAt f_bad a_told f_read f_side a_pile f_piled a_open v3 f_joins f_had a_size a_capped a_connected a_bestCost a_bestCrosses a_bestPart a_part a_trees f_treeMany a_nodes f_nodeMany f_moveNode f_movePart f_moveFirst f_moveThen f_moveOther a_out f_outMany a_kept), (a_nodes, aI G 8 v9), (a_open, aI G 502 g_open), (a_part, aI G 256 g_part)] := hD
            refine lv_aload_n hx hb d_R_laysNodes_63 rfl (lv_at hl 1 rfl) ?_
            refine lv_dup hx hb d_R_laysNodes_64 rfl ?_
            refine va_get (D := G.1) (ci := 12) (v := .int f_nodeMany) (C := n_R) (T := T_R) (N := 44) hx hb htl iw_R hown hK hP 0 rfl rfl 35 (by decide) (htl _ k_1231) (fun _ h9 => h9) rfl d_R_laysNodes_65 ?_
            refine lv_iconst (v := (1 : Int32)) hx hb d_R_laysNodes_68 (by decide) ?_
            refine lv_iadd hx hb d_R_laysNodes_69 ?_
            refine lv_topi (fun v10 ev10 => ?_)
            have hf := dn_e ev10 hf
            refine va_put (D := G.1) (ci := 12) (v := .int v10) (ty := .int) (C := n_R) (T := T_R) (N := 44) hx hb htl iw_R ty_R ty_R_ok nm_R hown hK hP hD hS 0 rfl rfl 35 (by decide) (htl _ k_1231) (fun _ h9 => h9) rfl (by decide +kernel) rfl rfl (Nat.le_of_ble_eq_true rfl) d_R_laysNodes_70 (fun H locs hP hD hS => ?_)
            have hP : va_P G.1 classes [(h0, O_R f_raised a_all a_text a_saved a_undone f_undos f_reached f_length f_begin f_sort f_sign f_value f_word f_wrongAt f_badAt f_bad a_told f_read f_side a_pile f_piled a_open v3 f_joins f_had a_size a_capped a_connected a_bestCost a_bestCrosses a_bestPart a_part a_trees f_treeMany a_nodes v10 f_moveNode f_movePart f_moveFirst f_moveThen f_moveOther a_out f_outMany a_kept), (a_nodes, aI G 8 v9), (a_open, aI G 502 g_open), (a_part, aI G 256 g_part)] H := hP
            have hD : va_D A [(h0, O_R f_raised a_all a_text a_saved a_undone f_undos f_reached f_length f_begin f_sort f_sign f_value f_word f_wrongAt f_badAt f_bad a_told f_read f_side a_pile f_piled a_open v3 f_joins f_had a_size a_capped a_connected a_bestCost a_bestCrosses a_bestPart a_part a_trees f_treeMany a_nodes v10 f_moveNode f_movePart f_moveFirst f_moveThen f_moveOther a_out f_outMany a_kept), (a_nodes, aI G 8 v9), (a_open, aI G 502 g_open), (a_part, aI G 256 g_part)] := hD
            refine lv_aload_n hx hb d_R_laysNodes_73 rfl (lv_at hl 1 rfl) ?_
            refine va_get (D := G.1) (ci := 12) (v := .ref a_open) (C := n_R) (T := T_R) (N := 44) hx hb htl iw_R hown hK hP 0 rfl rfl 21 (by decide) (htl _ k_1217) (fun _ h9 => h9) rfl d_R_laysNodes_74 ?_
            refine lv_aload_n hx hb d_R_laysNodes_77 rfl (lv_at hl 1 rfl) ?_
            refine va_get (D := G.1) (ci := 12) (v := .int v3) (C := n_R) (T := T_R) (N := 44) hx hb htl iw_R hown hK hP 0 rfl rfl 22 (by decide) (htl _ k_1218) (fun _ h9 => h9) rfl d_R_laysNodes_78 ?_
            refine lv_iload_n hx hb d_R_laysNodes_81 rfl (lv_at hl 0 rfl) ?_
            refine lv_aload_n hx hb d_R_laysNodes_82 rfl (lv_at hl 1 rfl) ?_
            refine va_get (D := G.1) (ci := 12) (v := .ref a_part) (C := n_R) (T := T_R) (N := 44) hx hb htl iw_R hown hK hP 0 rfl rfl 31 (by decide) (htl _ k_1227) (fun _ h9 => h9) rfl d_R_laysNodes_83 ?_
            refine lv_iload_n hx hb d_R_laysNodes_86 rfl (lv_at hl 0 rfl) ?_
            refine va_iald hx hb hK hP 3 1 rfl rfl c6 d_R_laysNodes_87 ?_
            refine lv_iconst (v := (-1 : Int32)) hx hb d_R_laysNodes_88 (by decide) ?_
            refine lv_ixor hx hb d_R_laysNodes_89 ?_
            refine lv_iand hx hb d_R_laysNodes_90 ?_
            refine nx_iast hx hb hK hP hD hS 2 1 rfl rfl c4 d_R_laysNodes_91 (fun v11 ev11 H locs hP hD hS => ?_)
            have hf := dn_e ev11 hf
            have hP : va_P G.1 classes [(h0, O_R f_raised a_all a_text a_saved a_undone f_undos f_reached f_length f_begin f_sort f_sign f_value f_word f_wrongAt f_badAt f_bad a_told f_read f_side a_pile f_piled a_open v3 f_joins f_had a_size a_capped a_connected a_bestCost a_bestCrosses a_bestPart a_part a_trees f_treeMany a_nodes v10 f_moveNode f_movePart f_moveFirst f_moveThen f_moveOther a_out f_outMany a_kept), (a_nodes, aI G 8 v9), (a_open, aI G 502 v11), (a_part, aI G 256 g_part)] H := hP
            have hD : va_D A [(h0, O_R f_raised a_all a_text a_saved a_undone f_undos f_reached f_length f_begin f_sort f_sign f_value f_word f_wrongAt f_badAt f_bad a_told f_read f_side a_pile f_piled a_open v3 f_joins f_had a_size a_capped a_connected a_bestCost a_bestCrosses a_bestPart a_part a_trees f_treeMany a_nodes v10 f_moveNode f_movePart f_moveFirst f_moveThen f_moveOther a_out f_outMany a_kept), (a_nodes, aI G 8 v9), (a_open, aI G 502 v11), (a_part, aI G 256 g_part)] := hD
            refine lv_aload_n hx hb d_R_laysNodes_92 rfl (lv_at hl 1 rfl) ?_
            refine va_get (D := G.1) (ci := 12) (v := .ref a_open) (C := n_R) (T := T_R) (N := 44) hx hb htl iw_R hown hK hP 0 rfl rfl 21 (by decide) (htl _ k_1217) (fun _ h9 => h9) rfl d_R_laysNodes_93 ?_
            refine lv_aload_n hx hb d_R_laysNodes_96 rfl (lv_at hl 1 rfl) ?_
            refine va_get (D := G.1) (ci := 12) (v := .int v3) (C := n_R) (T := T_R) (N := 44) hx hb htl iw_R hown hK hP 0 rfl rfl 22 (by decide) (htl _ k_1218) (fun _ h9 => h9) rfl d_R_laysNodes_97 ?_
            refine lv_iconst (v := (1 : Int32)) hx hb d_R_laysNodes_100 (by decide) ?_
            refine lv_iadd hx hb d_R_laysNodes_101 ?_
            refine lv_aload_n hx hb d_R_laysNodes_102 rfl (lv_at hl 1 rfl) ?_
            refine va_get (D := G.1) (ci := 12) (v := .ref a_part) (C := n_R) (T := T_R) (N := 44) hx hb htl iw_R hown hK hP 0 rfl rfl 31 (by decide) (htl _ k_1227) (fun _ h9 => h9) rfl d_R_laysNodes_103 ?_
            refine lv_iload_n hx hb d_R_laysNodes_106 rfl (lv_at hl 0 rfl) ?_
            refine va_iald hx hb hK hP 3 1 rfl rfl c6 d_R_laysNodes_107 ?_
            obtain ⟨c12, hf⟩ := dk_e hf
            refine nx_iast hx hb hK hP hD hS 2 1 rfl rfl c12 d_R_laysNodes_108 (fun v13 ev13 H locs hP hD hS => ?_)
            have hf := dn_e ev13 hf
            have hP : va_P G.1 classes [(h0, O_R f_raised a_all a_text a_saved a_undone f_undos f_reached f_length f_begin f_sort f_sign f_value f_word f_wrongAt f_badAt f_bad a_told f_read f_side a_pile f_piled a_open v3 f_joins f_had a_size a_capped a_connected a_bestCost a_bestCrosses a_bestPart a_part a_trees f_treeMany a_nodes v10 f_moveNode f_movePart f_moveFirst f_moveThen f_moveOther a_out f_outMany a_kept), (a_nodes, aI G 8 v9), (a_open, aI G 502 v13), (a_part, aI G 256 g_part)] H := hP
            have hD : va_D A [(h0, O_R f_raised a_all a_text a_saved a_undone f_undos f_reached f_length f_begin f_sort f_sign f_value f_word f_wrongAt f_badAt f_bad a_told f_read f_side a_pile f_piled a_open v3 f_joins f_had a_size a_capped a_connected a_bestCost a_bestCrosses a_bestPart a_part a_trees f_treeMany a_nodes v10 f_moveNode f_movePart f_moveFirst f_moveThen f_moveOther a_out f_outMany a_kept), (a_nodes, aI G 8 v9), (a_open, aI G 502 v13), (a_part, aI G 256 g_part)] := hD
            refine lv_aload_n hx hb d_R_laysNodes_109 rfl (lv_at hl 1 rfl) ?_
            refine lv_dup hx hb d_R_laysNodes_110 rfl ?_
            refine va_get (D := G.1) (ci := 12) (v := .int v3) (C := n_R) (T := T_R) (N := 44) hx hb htl iw_R hown hK hP 0 rfl rfl 22 (by decide) (htl _ k_1218) (fun _ h9 => h9) rfl d_R_laysNodes_111 ?_
            refine lv_iconst (v := (2 : Int32)) hx hb d_R_laysNodes_114 (by decide) ?_
            refine lv_iadd hx hb d_R_laysNodes_115 ?_
            refine lv_topi (fun v14 ev14 => ?_)
            have hf := dn_e ev14 hf
            refine va_put (D := G.1) (ci := 12) (v := .int v14) (ty := .int) (C := n_R) (T := T_R) (N := 44) hx hb htl iw_R ty_R ty_R_ok nm_R hown hK hP hD hS 0 rfl rfl 22 (by decide) (htl _ k_1218) (fun _ h9 => h9) rfl (by decide +kernel) rfl rfl (Nat.le_of_ble_eq_true rfl) d_R_laysNodes_116 (fun H locs hP hD hS => ?_)
            have hP : va_P G.1 classes [(h0, O_R f_raised a_all a_text a_saved a_undone f_undos f_reached f_length f_begin f_sort f_sign f_value f_word f_wrongAt f_badAt f_bad a_told f_read f_side a_pile f_piled a_open v14 f_joins f_had a_size a_capped a_connected a_bestCost a_bestCrosses a_bestPart a_part a_trees f_treeMany a_nodes v10 f_moveNode f_movePart f_moveFirst f_moveThen f_moveOther a_out f_outMany a_kept), (a_nodes, aI G 8 v9), (a_open, aI G 502 v13), (a_part, aI G 256 g_part)] H := hP
            have hD : va_D A [(h0, O_R f_raised a_all a_text a_saved a_undone f_undos f_reached f_length f_begin f_sort f_sign f_value f_word f_wrongAt f_badAt f_bad a_told f_read f_side a_pile f_piled a_open v14 f_joins f_had a_size a_capped a_connected a_bestCost a_bestCrosses a_bestPart a_part a_trees f_treeMany a_nodes v10 f_moveNode f_movePart f_moveFirst f_moveThen f_moveOther a_out f_outMany a_kept), (a_nodes, aI G 8 v9), (a_open, aI G 502 v13), (a_part, aI G 256 g_part)] := hD
            refine lv_goto (tgt := 17) hx hb d_R_laysNodes_119 (by decide) ?_
            exact ih17 v14 v10 v9 v13 H locs ls (lpk_i hf hk17) ⟨hP, hD, hS⟩ (lv_sub hl [1] rfl)
    exact hL17 N f_opened f_nodeMany g_nodes g_open H locs ls hy17 ⟨hP, hD, hS⟩ hl
  refine lv_aload_n hx hb d_R_laysNodes_0 rfl (lv_at hl 0 rfl) ?_
  refine lv_iconst (v := (0 : Int32)) hx hb d_R_laysNodes_1 (by decide) ?_
  refine va_put (D := G.1) (ci := 12) (v := .int (0 : Int32)) (ty := .int) (C := n_R) (T := T_R) (N := 44) hx hb htl iw_R ty_R ty_R_ok nm_R hown hK hP hD hS 0 rfl rfl 35 (by decide) (htl _ k_1231) (fun _ h9 => h9) rfl (by decide +kernel) rfl rfl (Nat.le_of_ble_eq_true rfl) d_R_laysNodes_2 (fun H locs hP hD hS => ?_)
  have hP : va_P G.1 classes [(h0, O_R f_raised a_all a_text a_saved a_undone f_undos f_reached f_length f_begin f_sort f_sign f_value f_word f_wrongAt f_badAt f_bad a_told f_read f_side a_pile f_piled a_open f_opened f_joins f_had a_size a_capped a_connected a_bestCost a_bestCrosses a_bestPart a_part a_trees f_treeMany a_nodes (0 : Int32) f_moveNode f_movePart f_moveFirst f_moveThen f_moveOther a_out f_outMany a_kept), (a_nodes, aI G 8 g_nodes), (a_open, aI G 502 g_open), (a_part, aI G 256 g_part)] H := hP
  have hD : va_D A [(h0, O_R f_raised a_all a_text a_saved a_undone f_undos f_reached f_length f_begin f_sort f_sign f_value f_word f_wrongAt f_badAt f_bad a_told f_read f_side a_pile f_piled a_open f_opened f_joins f_had a_size a_capped a_connected a_bestCost a_bestCrosses a_bestPart a_part a_trees f_treeMany a_nodes (0 : Int32) f_moveNode f_movePart f_moveFirst f_moveThen f_moveOther a_out f_outMany a_kept), (a_nodes, aI G 8 g_nodes), (a_open, aI G 502 g_open), (a_part, aI G 256 g_part)] := hD
  refine lv_aload_n hx hb d_R_laysNodes_5 rfl (lv_at hl 0 rfl) ?_
  refine lv_iconst (v := (1 : Int32)) hx hb d_R_laysNodes_6 (by decide) ?_
  refine va_put (D := G.1) (ci := 12) (v := .int (1 : Int32)) (ty := .int) (C := n_R) (T := T_R) (N := 44) hx hb htl iw_R ty_R ty_R_ok nm_R hown hK hP hD hS 0 rfl rfl 22 (by decide) (htl _ k_1218) (fun _ h9 => h9) rfl (by decide +kernel) rfl rfl (Nat.le_of_ble_eq_true rfl) d_R_laysNodes_7 (fun H locs hP hD hS => ?_)
  have hP : va_P G.1 classes [(h0, O_R f_raised a_all a_text a_saved a_undone f_undos f_reached f_length f_begin f_sort f_sign f_value f_word f_wrongAt f_badAt f_bad a_told f_read f_side a_pile f_piled a_open (1 : Int32) f_joins f_had a_size a_capped a_connected a_bestCost a_bestCrosses a_bestPart a_part a_trees f_treeMany a_nodes (0 : Int32) f_moveNode f_movePart f_moveFirst f_moveThen f_moveOther a_out f_outMany a_kept), (a_nodes, aI G 8 g_nodes), (a_open, aI G 502 g_open), (a_part, aI G 256 g_part)] H := hP
  have hD : va_D A [(h0, O_R f_raised a_all a_text a_saved a_undone f_undos f_reached f_length f_begin f_sort f_sign f_value f_word f_wrongAt f_badAt f_bad a_told f_read f_side a_pile f_piled a_open (1 : Int32) f_joins f_had a_size a_capped a_connected a_bestCost a_bestCrosses a_bestPart a_part a_trees f_treeMany a_nodes (0 : Int32) f_moveNode f_movePart f_moveFirst f_moveThen f_moveOther a_out f_outMany a_kept), (a_nodes, aI G 8 g_nodes), (a_open, aI G 502 g_open), (a_part, aI G 256 g_part)] := hD
  refine lv_aload_n hx hb d_R_laysNodes_10 rfl (lv_at hl 0 rfl) ?_
  refine va_get (D := G.1) (ci := 12) (v := .ref a_open) (C := n_R) (T := T_R) (N := 44) hx hb htl iw_R hown hK hP 0 rfl rfl 21 (by decide) (htl _ k_1217) (fun _ h9 => h9) rfl d_R_laysNodes_11 ?_
  refine lv_iconst (v := (0 : Int32)) hx hb d_R_laysNodes_14 (by decide) ?_
  refine lv_iload_n hx hb d_R_laysNodes_15 rfl (lv_at hl 1 rfl) ?_
  refine nx_iast hx hb hK hP hD hS 2 1 rfl rfl (vp_lit (by decide)) d_R_laysNodes_16 (fun v1 ev1 H locs hP hD hS => ?_)
  have hf := dn_e ev1 hf
  have hP : va_P G.1 classes [(h0, O_R f_raised a_all a_text a_saved a_undone f_undos f_reached f_length f_begin f_sort f_sign f_value f_word f_wrongAt f_badAt f_bad a_told f_read f_side a_pile f_piled a_open (1 : Int32) f_joins f_had a_size a_capped a_connected a_bestCost a_bestCrosses a_bestPart a_part a_trees f_treeMany a_nodes (0 : Int32) f_moveNode f_movePart f_moveFirst f_moveThen f_moveOther a_out f_outMany a_kept), (a_nodes, aI G 8 g_nodes), (a_open, aI G 502 v1), (a_part, aI G 256 g_part)] H := hP
  have hD : va_D A [(h0, O_R f_raised a_all a_text a_saved a_undone f_undos f_reached f_length f_begin f_sort f_sign f_value f_word f_wrongAt f_badAt f_bad a_told f_read f_side a_pile f_piled a_open (1 : Int32) f_joins f_had a_size a_capped a_connected a_bestCost a_bestCrosses a_bestPart a_part a_trees f_treeMany a_nodes (0 : Int32) f_moveNode f_movePart f_moveFirst f_moveThen f_moveOther a_out f_outMany a_kept), (a_nodes, aI G 8 g_nodes), (a_open, aI G 502 v1), (a_part, aI G 256 g_part)] := hD
  exact hJ17 (1 : Int32) (0 : Int32) g_nodes v1 H locs ls ⟨hP, hD, hS⟩ (lv_sub hl [0] rfl) hf
set_option maxHeartbeats 4000000 in
set_option maxRecDepth 100000 in
theorem c_R_isMove (l : Launch) (G : va_G × (Nat → ClassId)) (Y : (Nat → Nat) × (Nat → Nat)) (h0 : Nat) (a_all : Nat) (a_text : Nat) (a_saved : Nat) (a_undone : Nat) (a_told : Nat) (a_pile : Nat) (a_open : Nat) (a_size : Nat) (a_capped : Nat) (a_connected : Nat) (a_bestCost : Nat) (a_bestCrosses : Nat) (a_bestPart : Nat) (a_part : Nat) (a_trees : Nat) (a_nodes : Nat) (a_out : Nat) (a_kept : Nat) (f_raised : Int32) (f_undos : Int32) (f_reached : Int32) (f_length : Int32) (f_begin : Int32) (f_sort : Int32) (f_sign : Int32) (f_value : Int32) (f_word : Int64) (f_wrongAt : Int32) (f_badAt : Int32) (f_bad : Int32) (f_read : Int32) (f_side : Int32) (f_piled : Int32) (f_opened : Int32) (f_joins : Int32) (f_had : Int32) (f_treeMany : Int32) (f_nodeMany : Int32) (f_moveNode : Int32) (f_movePart : Int32) (f_moveFirst : Int32) (f_moveThen : Int32) (f_moveOther : Int32) (f_outMany : Int32) (g_nodes : Nat → Int32) (g_part : Nat → Int32) (x1 : Int32) (N : Nat) (res : Int32 × Int32 × Int32 × Int32 × Int32 × Int32) (hf : R_isMove N f_nodeMany f_moveNode f_movePart f_moveFirst f_moveThen f_moveOther g_nodes g_part x1 = some res) : Ci l classes y_R_isMove b_R_isMove 7 (some .boolean) (rmk 0) G.1 (tyL G) Y [.ref h0, .int x1] [(h0, O_R f_raised a_all a_text a_saved a_undone f_undos f_reached f_length f_begin f_sort f_sign f_value f_word f_wrongAt f_badAt f_bad a_told f_read f_side a_pile f_piled a_open f_opened f_joins f_had a_size a_capped a_connected a_bestCost a_bestCrosses a_bestPart a_part a_trees f_treeMany a_nodes f_nodeMany f_moveNode f_movePart f_moveFirst f_moveThen f_moveOther a_out f_outMany a_kept), (a_nodes, aI G 8 g_nodes), (a_part, aI G 256 g_part)] [(h0, O_R f_raised a_all a_text a_saved a_undone f_undos f_reached f_length f_begin f_sort f_sign f_value f_word f_wrongAt f_badAt f_bad a_told f_read f_side a_pile f_piled a_open f_opened f_joins f_had a_size a_capped a_connected a_bestCost a_bestCrosses a_bestPart a_part a_trees f_treeMany a_nodes f_nodeMany res.2.1 res.2.2.1 res.2.2.2.1 res.2.2.2.2.1 res.2.2.2.2.2 a_out f_outMany a_kept), (a_nodes, aI G 8 g_nodes), (a_part, aI G 256 g_part)] res.1 := by
  refine entZ (by decide) (Nat.le_of_ble_eq_true rfl) ?_
  intro p e s m args below meth c ls A Q hx hb hml hown htl hK hsk wq hl hret
  obtain ⟨hP, hD, hS⟩ := wq
  have hl : lv_has ls 7 [(0, .ref h0), (1, .int x1)] := hl
  have hS : va_S A s.heap s.heap [] := hS
  obtain ⟨H, hH⟩ : ∃ H : Heap, H = s.heap := ⟨_, rfl⟩
  obtain ⟨locs, hlocs⟩ : ∃ z : List Loc, z = [] := ⟨_, rfl⟩
  rw [← hH] at hP
  replace hS : va_S A s.heap H locs := by rw [hH, hlocs]; exact hS
  suffices hgo : W p l e (rmk 0) s m args below meth c H locs 0 0 Q (F0 m 0 ls []) by rw [hH, hlocs] at hgo; exact hgo
  have hJ159 : ∀ (f_moveNode : Int32) (f_movePart : Int32) (f_moveFirst : Int32) (f_moveThen : Int32) (f_moveOther : Int32) (H : Heap) (locs : List Loc) (ls : Array Slot), PDS G.1 classes A s [(h0, O_R f_raised a_all a_text a_saved a_undone f_undos f_reached f_length f_begin f_sort f_sign f_value f_word f_wrongAt f_badAt f_bad a_told f_read f_side a_pile f_piled a_open f_opened f_joins f_had a_size a_capped a_connected a_bestCost a_bestCrosses a_bestPart a_part a_trees f_treeMany a_nodes f_nodeMany f_moveNode f_movePart f_moveFirst f_moveThen f_moveOther a_out f_outMany a_kept), (a_nodes, aI G 8 g_nodes), (a_part, aI G 256 g_part)] H locs → lv_has ls 7 [] → R_isMove_159 N f_nodeMany f_moveNode f_movePart f_moveFirst f_moveThen f_moveOther g_nodes g_part = some res → W p l e (rmk 0) s m args below meth c H locs 0 0 Q (F0 m 159 ls []) := by
    intro f_moveNode f_movePart f_moveFirst f_moveThen f_moveOther H locs ls wq hl hf
    obtain ⟨hP, hD, hS⟩ := wq
    refine lv_iconst (v := (0 : Int32)) hx hb d_R_isMove_159 (by decide) ?_
    cases hf
    exact hret 160 ls H locs z_0 hP hS d_R_isMove_160
  have hJ126 : ∀ (f_moveNode : Int32) (f_movePart : Int32) (f_moveFirst : Int32) (f_moveThen : Int32) (f_moveOther : Int32) (x6 : Int32) (z1 : Int32) (H : Heap) (locs : List Loc) (ls : Array Slot), PDS G.1 classes A s [(h0, O_R f_raised a_all a_text a_saved a_undone f_undos f_reached f_length f_begin f_sort f_sign f_value f_word f_wrongAt f_badAt f_bad a_told f_read f_side a_pile f_piled a_open f_opened f_joins f_had a_size a_capped a_connected a_bestCost a_bestCrosses a_bestPart a_part a_trees f_treeMany a_nodes f_nodeMany f_moveNode f_movePart f_moveFirst f_moveThen f_moveOther a_out f_outMany a_kept), (a_nodes, aI G 8 g_nodes), (a_part, aI G 256 g_part)] H locs → lv_has ls 7 [(0, .ref h0), (6, .int x6)] → R_isMove_126 N f_nodeMany f_moveNode f_movePart f_moveFirst f_moveThen f_moveOther g_nodes g_part x6 z1 = some res → W p l e (rmk 0) s m args below meth c H locs 0 0 Q (F0 m 126 ls [.int z1, .ref h0]) := by
    intro f_moveNode f_movePart f_moveFirst f_moveThen f_moveOther x6 z1 H locs ls wq hl hf
    obtain ⟨hP, hD, hS⟩ := wq
    refine va_put (D := G.1) (ci := 12) (v := .int z1) (ty := .int) (C := n_R) (T := T_R) (N := 44) hx hb htl iw_R ty_R ty_R_ok nm_R hown hK hP hD hS 0 rfl rfl 38 (by decide) (htl _ k_1234) (fun _ h9 => h9) rfl (by decide +kernel) rfl rfl (Nat.le_of_ble_eq_true rfl) d_R_isMove_126 (fun H locs hP hD hS => ?_)
    have hP : va_P G.1 classes [(h0, O_R f_raised a_all a_text a_saved a_undone f_undos f_reached f_length f_begin f_sort f_sign f_value f_word f_wrongAt f_badAt f_bad a_told f_read f_side a_pile f_piled a_open f_opened f_joins f_had a_size a_capped a_connected a_bestCost a_bestCrosses a_bestPart a_part a_trees f_treeMany a_nodes f_nodeMany f_moveNode f_movePart z1 f_moveThen f_moveOther a_out f_outMany a_kept), (a_nodes, aI G 8 g_nodes), (a_part, aI G 256 g_part)] H := hP
    have hD : va_D A [(h0, O_R f_raised a_all a_text a_saved a_undone f_undos f_reached f_length f_begin f_sort f_sign f_value f_word f_wrongAt f_badAt f_bad a_told f_read f_side a_pile f_piled a_open f_opened f_joins f_had a_size a_capped a_connected a_bestCost a_bestCrosses a_bestPart a_part a_trees f_treeMany a_nodes f_nodeMany f_moveNode f_movePart z1 f_moveThen f_moveOther a_out f_outMany a_kept), (a_nodes, aI G 8 g_nodes), (a_part, aI G 256 g_part)] := hD
    refine lv_aload_n hx hb d_R_isMove_129 rfl (lv_at hl 0 rfl) ?_
    refine lv_iload hx hb d_R_isMove_130 (lv_at hl 1 rfl) ?_
    refine lv_aload_n hx hb d_R_isMove_132 rfl (lv_at hl 0 rfl) ?_
    refine va_get (D := G.1) (ci := 12) (v := .int z1) (C := n_R) (T := T_R) (N := 44) hx hb htl iw_R hown hK hP 0 rfl rfl 38 (by decide) (htl _ k_1234) (fun _ h9 => h9) rfl d_R_isMove_133 ?_
    refine lv_iconst (v := (-1 : Int32)) hx hb d_R_isMove_136 (by decide) ?_
    refine lv_ixor hx hb d_R_isMove_137 ?_
    refine lv_iand hx hb d_R_isMove_138 ?_
    refine lv_topi (fun v19 ev19 => ?_)
    have hf := dn_e ev19 hf
    refine va_put (D := G.1) (ci := 12) (v := .int v19) (ty := .int) (C := n_R) (T := T_R) (N := 44) hx hb htl iw_R ty_R ty_R_ok nm_R hown hK hP hD hS 0 rfl rfl 39 (by decide) (htl _ k_1235) (fun _ h9 => h9) rfl (by decide +kernel) rfl rfl (Nat.le_of_ble_eq_true rfl) d_R_isMove_139 (fun H locs hP hD hS => ?_)
    have hP : va_P G.1 classes [(h0, O_R f_raised a_all a_text a_saved a_undone f_undos f_reached f_length f_begin f_sort f_sign f_value f_word f_wrongAt f_badAt f_bad a_told f_read f_side a_pile f_piled a_open f_opened f_joins f_had a_size a_capped a_connected a_bestCost a_bestCrosses a_bestPart a_part a_trees f_treeMany a_nodes f_nodeMany f_moveNode f_movePart z1 v19 f_moveOther a_out f_outMany a_kept), (a_nodes, aI G 8 g_nodes), (a_part, aI G 256 g_part)] H := hP
    have hD : va_D A [(h0, O_R f_raised a_all a_text a_saved a_undone f_undos f_reached f_length f_begin f_sort f_sign f_value f_word f_wrongAt f_badAt f_bad a_told f_read f_side a_pile f_piled a_open f_opened f_joins f_had a_size a_capped a_connected a_bestCost a_bestCrosses a_bestPart a_part a_trees f_treeMany a_nodes f_nodeMany f_moveNode f_movePart z1 v19 f_moveOther a_out f_outMany a_kept), (a_nodes, aI G 8 g_nodes), (a_part, aI G 256 g_part)] := hD
    refine lv_iconst (v := (1 : Int32)) hx hb d_R_isMove_142 (by decide) ?_
    cases hf
    exact hret 143 ls H locs z_1 hP hS d_R_isMove_143
  have hJ76 : ∀ (f_moveNode : Int32) (f_movePart : Int32) (f_moveFirst : Int32) (f_moveThen : Int32) (f_moveOther : Int32) (x2 : Int32) (x5 : Int32) (x6 : Int32) (H : Heap) (locs : List Loc) (ls : Array Slot), PDS G.1 classes A s [(h0, O_R f_raised a_all a_text a_saved a_undone f_undos f_reached f_length f_begin f_sort f_sign f_value f_word f_wrongAt f_badAt f_bad a_told f_read f_side a_pile f_piled a_open f_opened f_joins f_had a_size a_capped a_connected a_bestCost a_bestCrosses a_bestPart a_part a_trees f_treeMany a_nodes f_nodeMany f_moveNode f_movePart f_moveFirst f_moveThen f_moveOther a_out f_outMany a_kept), (a_nodes, aI G 8 g_nodes), (a_part, aI G 256 g_part)] H locs → lv_has ls 7 [(0, .ref h0), (2, .int x2), (5, .int x5), (6, .int x6)] → R_isMove_76 N f_nodeMany f_moveNode f_movePart f_moveFirst f_moveThen f_moveOther g_nodes g_part x2 x5 x6 = some res → W p l e (rmk 0) s m args below meth c H locs 0 0 Q (F0 m 76 ls []) := by
    intro f_moveNode f_movePart f_moveFirst f_moveThen f_moveOther x2 x5 x6 H locs ls wq hl hf
    obtain ⟨hP, hD, hS⟩ := wq
    refine lv_aload_n hx hb d_R_isMove_76 rfl (lv_at hl 0 rfl) ?_
    refine lv_iload hx hb d_R_isMove_77 (lv_at hl 2 rfl) ?_
    refine va_put (D := G.1) (ci := 12) (v := .int x5) (ty := .int) (C := n_R) (T := T_R) (N := 44) hx hb htl iw_R ty_R ty_R_ok nm_R hown hK hP hD hS 0 rfl rfl 36 (by decide) (htl _ k_1232) (fun _ h9 => h9) rfl (by decide +kernel) rfl rfl (Nat.le_of_ble_eq_true rfl) d_R_isMove_79 (fun H locs hP hD hS => ?_)
    have hP : va_P G.1 classes [(h0, O_R f_raised a_all a_text a_saved a_undone f_undos f_reached f_length f_begin f_sort f_sign f_value f_word f_wrongAt f_badAt f_bad a_told f_read f_side a_pile f_piled a_open f_opened f_joins f_had a_size a_capped a_connected a_bestCost a_bestCrosses a_bestPart a_part a_trees f_treeMany a_nodes f_nodeMany x5 f_movePart f_moveFirst f_moveThen f_moveOther a_out f_outMany a_kept), (a_nodes, aI G 8 g_nodes), (a_part, aI G 256 g_part)] H := hP
    have hD : va_D A [(h0, O_R f_raised a_all a_text a_saved a_undone f_undos f_reached f_length f_begin f_sort f_sign f_value f_word f_wrongAt f_badAt f_bad a_told f_read f_side a_pile f_piled a_open f_opened f_joins f_had a_size a_capped a_connected a_bestCost a_bestCrosses a_bestPart a_part a_trees f_treeMany a_nodes f_nodeMany x5 f_movePart f_moveFirst f_moveThen f_moveOther a_out f_outMany a_kept), (a_nodes, aI G 8 g_nodes), (a_part, aI G 256 g_part)] := hD
    refine lv_aload_n hx hb d_R_isMove_82 rfl (lv_at hl 0 rfl) ?_
    refine lv_iload hx hb d_R_isMove_83 (lv_at hl 3 rfl) ?_
    refine va_put (D := G.1) (ci := 12) (v := .int x6) (ty := .int) (C := n_R) (T := T_R) (N := 44) hx hb htl iw_R ty_R ty_R_ok nm_R hown hK hP hD hS 0 rfl rfl 37 (by decide) (htl _ k_1233) (fun _ h9 => h9) rfl (by decide +kernel) rfl rfl (Nat.le_of_ble_eq_true rfl) d_R_isMove_85 (fun H locs hP hD hS => ?_)
    have hP : va_P G.1 classes [(h0, O_R f_raised a_all a_text a_saved a_undone f_undos f_reached f_length f_begin f_sort f_sign f_value f_word f_wrongAt f_badAt f_bad a_told f_read f_side a_pile f_piled a_open f_opened f_joins f_had a_size a_capped a_connected a_bestCost a_bestCrosses a_bestPart a_part a_trees f_treeMany a_nodes f_nodeMany x5 x6 f_moveFirst f_moveThen f_moveOther a_out f_outMany a_kept), (a_nodes, aI G 8 g_nodes), (a_part, aI G 256 g_part)] H := hP
    have hD : va_D A [(h0, O_R f_raised a_all a_text a_saved a_undone f_undos f_reached f_length f_begin f_sort f_sign f_value f_word f_wrongAt f_badAt f_bad a_told f_read f_side a_pile f_piled a_open f_opened f_joins f_had a_size a_capped a_connected a_bestCost a_bestCrosses a_bestPart a_part a_trees f_treeMany a_nodes f_nodeMany x5 x6 f_moveFirst f_moveThen f_moveOther a_out f_outMany a_kept), (a_nodes, aI G 8 g_nodes), (a_part, aI G 256 g_part)] := hD
    refine lv_aload_n hx hb d_R_isMove_88 rfl (lv_at hl 0 rfl) ?_
    refine lv_iload hx hb d_R_isMove_89 (lv_at hl 2 rfl) ?_
    refine lv_iload hx hb d_R_isMove_91 (lv_at hl 3 rfl) ?_
    refine lv_iconst (v := (-1 : Int32)) hx hb d_R_isMove_93 (by decide) ?_
    refine lv_ixor hx hb d_R_isMove_94 ?_
    refine lv_iand hx hb d_R_isMove_95 ?_
    refine lv_topi (fun v15 ev15 => ?_)
    have hf := dn_e ev15 hf
    refine va_put (D := G.1) (ci := 12) (v := .int v15) (ty := .int) (C := n_R) (T := T_R) (N := 44) hx hb htl iw_R ty_R ty_R_ok nm_R hown hK hP hD hS 0 rfl rfl 40 (by decide) (htl _ k_1236) (fun _ h9 => h9) rfl (by decide +kernel) rfl rfl (Nat.le_of_ble_eq_true rfl) d_R_isMove_96 (fun H locs hP hD hS => ?_)
    have hP : va_P G.1 classes [(h0, O_R f_raised a_all a_text a_saved a_undone f_undos f_reached f_length f_begin f_sort f_sign f_value f_word f_wrongAt f_badAt f_bad a_told f_read f_side a_pile f_piled a_open f_opened f_joins f_had a_size a_capped a_connected a_bestCost a_bestCrosses a_bestPart a_part a_trees f_treeMany a_nodes f_nodeMany x5 x6 f_moveFirst f_moveThen v15 a_out f_outMany a_kept), (a_nodes, aI G 8 g_nodes), (a_part, aI G 256 g_part)] H := hP
    have hD : va_D A [(h0, O_R f_raised a_all a_text a_saved a_undone f_undos f_reached f_length f_begin f_sort f_sign f_value f_word f_wrongAt f_badAt f_bad a_told f_read f_side a_pile f_piled a_open f_opened f_joins f_had a_size a_capped a_connected a_bestCost a_bestCrosses a_bestPart a_part a_trees f_treeMany a_nodes f_nodeMany x5 x6 f_moveFirst f_moveThen v15 a_out f_outMany a_kept), (a_nodes, aI G 8 g_nodes), (a_part, aI G 256 g_part)] := hD
    refine lv_aload_n hx hb d_R_isMove_99 rfl (lv_at hl 0 rfl) ?_
    refine lv_iload_n hx hb d_R_isMove_100 rfl (lv_at hl 1 rfl) ?_
    refine lv_if_ne (tgt := 114) hx hb d_R_isMove_101 (by decide) (fun c16 => ?_) (fun c16 => ?_)
    · have hf := di_f c16 hf
      refine lv_iload hx hb d_R_isMove_114 (lv_at hl 3 rfl) ?_
      refine lv_aload_n hx hb d_R_isMove_116 rfl (lv_at hl 0 rfl) ?_
      refine va_get (D := G.1) (ci := 12) (v := .ref a_part) (C := n_R) (T := T_R) (N := 44) hx hb htl iw_R hown hK hP 0 rfl rfl 31 (by decide) (htl _ k_1227) (fun _ h9 => h9) rfl d_R_isMove_117 ?_
      refine lv_iload hx hb d_R_isMove_120 (lv_at hl 3 rfl) ?_
      obtain ⟨c17, hf⟩ := dk_e hf
      refine va_iald hx hb hK hP 2 1 rfl rfl c17 d_R_isMove_122 ?_
      refine lv_iconst (v := (-1 : Int32)) hx hb d_R_isMove_123 (by decide) ?_
      refine lv_ixor hx hb d_R_isMove_124 ?_
      refine lv_iand hx hb d_R_isMove_125 ?_
      exact hJ126 x5 x6 f_moveFirst f_moveThen v15 x6 (x6 &&& ((g_part x6.toNatClampNeg) ^^^ (-1 : Int32))) H locs ls ⟨hP, hD, hS⟩ (lv_sub hl [0, 3] rfl) hf
    · have hf := di_t c16 hf
      refine lv_aload_n hx hb d_R_isMove_104 rfl (lv_at hl 0 rfl) ?_
      refine va_get (D := G.1) (ci := 12) (v := .ref a_part) (C := n_R) (T := T_R) (N := 44) hx hb htl iw_R hown hK hP 0 rfl rfl 31 (by decide) (htl _ k_1227) (fun _ h9 => h9) rfl d_R_isMove_105 ?_
      refine lv_iload hx hb d_R_isMove_108 (lv_at hl 3 rfl) ?_
      obtain ⟨c18, hf⟩ := dk_e hf
      refine va_iald hx hb hK hP 2 1 rfl rfl c18 d_R_isMove_110 ?_
      refine lv_goto (tgt := 126) hx hb d_R_isMove_111 (by decide) ?_
      exact hJ126 x5 x6 f_moveFirst f_moveThen v15 x6 (g_part x6.toNatClampNeg) H locs ls ⟨hP, hD, hS⟩ (lv_sub hl [0, 3] rfl) hf
  have hJ4 : ∀ (f_moveNode : Int32) (f_movePart : Int32) (f_moveFirst : Int32) (f_moveThen : Int32) (f_moveOther : Int32) (x2 : Int32) (x3 : Int32) (H : Heap) (locs : List Loc) (ls : Array Slot), PDS G.1 classes A s [(h0, O_R f_raised a_all a_text a_saved a_undone f_undos f_reached f_length f_begin f_sort f_sign f_value f_word f_wrongAt f_badAt f_bad a_told f_read f_side a_pile f_piled a_open f_opened f_joins f_had a_size a_capped a_connected a_bestCost a_bestCrosses a_bestPart a_part a_trees f_treeMany a_nodes f_nodeMany f_moveNode f_movePart f_moveFirst f_moveThen f_moveOther a_out f_outMany a_kept), (a_nodes, aI G 8 g_nodes), (a_part, aI G 256 g_part)] H locs → lv_has ls 7 [(0, .ref h0), (2, .int x2), (3, .int x3)] → R_isMove_4 N f_nodeMany f_moveNode f_movePart f_moveFirst f_moveThen f_moveOther g_nodes g_part x2 x3 = some res → W p l e (rmk 0) s m args below meth c H locs 0 0 Q (F0 m 4 ls []) := by
    intro f_moveNode f_movePart f_moveFirst f_moveThen f_moveOther x2 x3 H locs ls wq hl hf
    obtain ⟨hP, hD, hS⟩ := wq
    obtain ⟨y4, hy4, hfo4⟩ := db_e hf
    have hL4 : ∀ (n : Nat) (x2 : Int32) (x3 : Int32) (H : Heap) (locs : List Loc) (ls : Array Slot), lp (fun x => R_isMove_b4 N f_nodeMany f_moveNode f_movePart f_moveFirst f_moveThen f_moveOther g_nodes g_part x.1 x.2) n (x2, x3) = some y4 → PDS G.1 classes A s [(h0, O_R f_raised a_all a_text a_saved a_undone f_undos f_reached f_length f_begin f_sort f_sign f_value f_word f_wrongAt f_badAt f_bad a_told f_read f_side a_pile f_piled a_open f_opened f_joins f_had a_size a_capped a_connected a_bestCost a_bestCrosses a_bestPart a_part a_trees f_treeMany a_nodes f_nodeMany f_moveNode f_movePart f_moveFirst f_moveThen f_moveOther a_out f_outMany a_kept), (a_nodes, aI G 8 g_nodes), (a_part, aI G 256 g_part)] H locs → lv_has ls 7 [(0, .ref h0), (2, .int x2), (3, .int x3)] → W p l e (rmk 0) s m args below meth c H locs 0 0 Q (F0 m 4 ls []) := by
      intro n
      induction n with
      | zero =>
        intro x2 x3 H locs ls hf
        exact lp_0 hf
      | succ n ih4 =>
        intro x2 x3 H locs ls hf wq hl
        obtain ⟨hP, hD, hS⟩ := wq
        obtain ⟨r4, hf, hk4⟩ := lp_s hf
        have hf : R_isMove_b4 N f_nodeMany f_moveNode f_movePart f_moveFirst f_moveThen f_moveOther g_nodes g_part x2 x3 = some r4 := hf
        have hJ153 : ∀ (x2 : Int32) (x3 : Int32) (H : Heap) (locs : List Loc) (ls : Array Slot), PDS G.1 classes A s [(h0, O_R f_raised a_all a_text a_saved a_undone f_undos f_reached f_length f_begin f_sort f_sign f_value f_word f_wrongAt f_badAt f_bad a_told f_read f_side a_pile f_piled a_open f_opened f_joins f_had a_size a_capped a_connected a_bestCost a_bestCrosses a_bestPart a_part a_trees f_treeMany a_nodes f_nodeMany f_moveNode f_movePart f_moveFirst f_moveThen f_moveOther a_out f_outMany a_kept), (a_nodes, aI G 8 g_nodes), (a_part, aI G 256 g_part)] H locs → lv_has ls 7 [(0, .ref h0), (2, .int x2), (3, .int x3)] → R_isMove_153 N f_nodeMany f_moveNode f_movePart f_moveFirst f_moveThen f_moveOther g_nodes g_part x2 x3 = some r4 → W p l e (rmk 0) s m args below meth c H locs 0 0 Q (F0 m 153 ls []) := by
          intro x2 x3 H locs ls wq hl hf
          obtain ⟨hP, hD, hS⟩ := wq
          obtain ⟨v14, ev14⟩ : ∃ z : Int32, z = x3 + (1 : Int32) := ⟨_, rfl⟩
          have hf := dn_e ev14 hf
          refine lv_iinc (v := v14) (lv' := [(3, .int v14), (0, .ref h0), (2, .int x2)]) hx hb d_R_isMove_153 hl (k := 2) rfl (by rw [ev14]; rfl) (by decide) rfl (fun ls hl => ?_)
          refine lv_goto (tgt := 4) hx hb d_R_isMove_156 (by decide) ?_
          exact ih4 x2 v14 H locs ls (lpk_i hf hk4) ⟨hP, hD, hS⟩ (lv_sub hl [1, 2, 0] rfl)
        have hJ15 : ∀ (x2 : Int32) (x3 : Int32) (x4 : Int32) (H : Heap) (locs : List Loc) (ls : Array Slot), PDS G.1 classes A s [(h0, O_R f_raised a_all a_text a_saved a_undone f_undos f_reached f_length f_begin f_sort f_sign f_value f_word f_wrongAt f_badAt f_bad a_told f_read f_side a_pile f_piled a_open f_opened f_joins f_had a_size a_capped a_connected a_bestCost a_bestCrosses a_bestPart a_part a_trees f_treeMany a_nodes f_nodeMany f_moveNode f_movePart f_moveFirst f_moveThen f_moveOther a_out f_outMany a_kept), (a_nodes, aI G 8 g_nodes), (a_part, aI G 256 g_part)] H locs → lv_has ls 7 [(0, .ref h0), (2, .int x2), (3, .int x3), (4, .int x4)] → R_isMove_15 N f_nodeMany f_moveNode f_movePart f_moveFirst f_moveThen f_moveOther g_nodes g_part x2 x3 x4 = some r4 → W p l e (rmk 0) s m args below meth c H locs 0 0 Q (F0 m 15 ls []) := by
          intro x2 x3 x4 H locs ls wq hl hf
          obtain ⟨hP, hD, hS⟩ := wq
          obtain ⟨y15, hy15, hfo15⟩ := db_e hf
          have hL15 : ∀ (n : Nat) (x2 : Int32) (x4 : Int32) (H : Heap) (locs : List Loc) (ls : Array Slot), lp (fun x => R_isMove_b15 N f_nodeMany f_moveNode f_movePart f_moveFirst f_moveThen f_moveOther g_nodes g_part x.1 x3 x.2) n (x2, x4) = some y15 → PDS G.1 classes A s [(h0, O_R f_raised a_all a_text a_saved a_undone f_undos f_reached f_length f_begin f_sort f_sign f_value f_word f_wrongAt f_badAt f_bad a_told f_read f_side a_pile f_piled a_open f_opened f_joins f_had a_size a_capped a_connected a_bestCost a_bestCrosses a_bestPart a_part a_trees f_treeMany a_nodes f_nodeMany f_moveNode f_movePart f_moveFirst f_moveThen f_moveOther a_out f_outMany a_kept), (a_nodes, aI G 8 g_nodes), (a_part, aI G 256 g_part)] H locs → lv_has ls 7 [(0, .ref h0), (2, .int x2), (3, .int x3), (4, .int x4)] → W p l e (rmk 0) s m args below meth c H locs 0 0 Q (F0 m 15 ls []) := by
            intro n
            induction n with
            | zero =>
              intro x2 x4 H locs ls hf
              exact lp_0 hf
            | succ n ih15 =>
              intro x2 x4 H locs ls hf wq hl
              obtain ⟨hP, hD, hS⟩ := wq
              obtain ⟨r15, hf, hk15⟩ := lp_s hf
              have hf : R_isMove_b15 N f_nodeMany f_moveNode f_movePart f_moveFirst f_moveThen f_moveOther g_nodes g_part x2 x3 x4 = some r15 := hf
              have hJ56 : ∀ (x2 : Int32) (x4 : Int32) (x5 : Int32) (z0 : Int32) (H : Heap) (locs : List Loc) (ls : Array Slot), PDS G.1 classes A s [(h0, O_R f_raised a_all a_text a_saved a_undone f_undos f_reached f_length f_begin f_sort f_sign f_value f_word f_wrongAt f_badAt f_bad a_told f_read f_side a_pile f_piled a_open f_opened f_joins f_had a_size a_capped a_connected a_bestCost a_bestCrosses a_bestPart a_part a_trees f_treeMany a_nodes f_nodeMany f_moveNode f_movePart f_moveFirst f_moveThen f_moveOther a_out f_outMany a_kept), (a_nodes, aI G 8 g_nodes), (a_part, aI G 256 g_part)] H locs → lv_has ls 7 [(0, .ref h0), (2, .int x2), (3, .int x3), (4, .int x4), (5, .int x5)] → R_isMove_56 N f_nodeMany f_moveNode f_movePart f_moveFirst f_moveThen f_moveOther g_nodes g_part x2 x3 x4 x5 z0 = some r15 → W p l e (rmk 0) s m args below meth c H locs 0 0 Q (F0 m 56 ls [.int z0]) := by
                intro x2 x4 x5 z0 H locs ls wq hl hf
                obtain ⟨hP, hD, hS⟩ := wq
                refine lv_istore (lv' := [(6, .int z0), (0, .ref h0), (2, .int x2), (3, .int x3), (4, .int x4), (5, .int x5)]) hx hb d_R_isMove_56 hl (by decide) rfl (fun ls hl => ?_)
                refine lv_aload_n hx hb d_R_isMove_58 rfl (lv_at hl 1 rfl) ?_
                refine va_get (D := G.1) (ci := 12) (v := .ref a_part) (C := n_R) (T := T_R) (N := 44) hx hb htl iw_R hown hK hP 0 rfl rfl 31 (by decide) (htl _ k_1227) (fun _ h9 => h9) rfl d_R_isMove_59 ?_
                refine lv_iload hx hb d_R_isMove_62 (lv_at hl 0 rfl) ?_
                obtain ⟨c8, hf⟩ := dk_e hf
                refine va_iald hx hb hK hP 2 1 rfl rfl c8 d_R_isMove_64 ?_
                refine lv_if_ne (tgt := 71) hx hb d_R_isMove_65 (by decide) (fun c9 => ?_) (fun c9 => ?_)
                · have hf := di_f c9 hf
                  refine lv_iload_n hx hb d_R_isMove_71 rfl (lv_at hl 2 rfl) ?_
                  refine lv_iconst (v := (2 : Int32)) hx hb d_R_isMove_72 (by decide) ?_
                  refine lv_icmp_ge (tgt := 144) hx hb d_R_isMove_73 (by decide) (fun c10 => ?_) (fun c10 => ?_)
                  · have hf := di_t c10 hf
                    obtain ⟨v11, ev11⟩ : ∃ z : Int32, z = x2 + (-2 : Int32) := ⟨_, rfl⟩
                    have hf := dn_e ev11 hf
                    refine lv_iinc (v := v11) (lv' := [(2, .int v11), (6, .int z0), (0, .ref h0), (3, .int x3), (4, .int x4), (5, .int x5)]) hx hb d_R_isMove_144 hl (k := 2) rfl (by rw [ev11]; rfl) (by decide) rfl (fun ls hl => ?_)
                    obtain ⟨v12, ev12⟩ : ∃ z : Int32, z = x4 + (1 : Int32) := ⟨_, rfl⟩
                    have hf := dn_e ev12 hf
                    refine lv_iinc (v := v12) (lv' := [(4, .int v12), (2, .int v11), (6, .int z0), (0, .ref h0), (3, .int x3), (5, .int x5)]) hx hb d_R_isMove_147 hl (k := 4) rfl (by rw [ev12]; rfl) (by decide) rfl (fun ls hl => ?_)
                    refine lv_goto (tgt := 15) hx hb d_R_isMove_150 (by decide) ?_
                    exact ih15 v11 v12 H locs ls (lpk_i hf hk15) ⟨hP, hD, hS⟩ (lv_sub hl [3, 1, 4, 0] rfl)
                  · have hf := di_f c10 hf
                    have hq15 := lpk_x hf hk15
                    have hf := ex_y (f := fun y => R_isMove_a15 N f_nodeMany f_moveNode f_movePart f_moveFirst f_moveThen f_moveOther g_nodes g_part x3 y) hq15 hfo15
                    have hf : some (Sum.inr (Sum.inl (x2, x5, z0))) = some r4 := hf
                    have hq4 := lpk_x hf hk4
                    have hf := ex_y (f := fun y => R_isMove_a4 N f_nodeMany f_moveNode f_movePart f_moveFirst f_moveThen f_moveOther g_nodes g_part y) hq4 hfo4
                    have hf : R_isMove_76 N f_nodeMany f_moveNode f_movePart f_moveFirst f_moveThen f_moveOther g_nodes g_part x2 x5 z0 = some res := hf
                    exact hJ76 f_moveNode f_movePart f_moveFirst f_moveThen f_moveOther x2 x5 z0 H locs ls ⟨hP, hD, hS⟩ (lv_sub hl [1, 2, 5, 0] rfl) hf
                · have hf := di_t c9 hf
                  refine lv_goto (tgt := 147) hx hb d_R_isMove_68 (by decide) ?_
                  obtain ⟨v13, ev13⟩ : ∃ z : Int32, z = x4 + (1 : Int32) := ⟨_, rfl⟩
                  have hf := dn_e ev13 hf
                  refine lv_iinc (v := v13) (lv' := [(4, .int v13), (6, .int z0), (0, .ref h0), (2, .int x2), (3, .int x3), (5, .int x5)]) hx hb d_R_isMove_147 hl (k := 4) rfl (by rw [ev13]; rfl) (by decide) rfl (fun ls hl => ?_)
                  refine lv_goto (tgt := 15) hx hb d_R_isMove_150 (by decide) ?_
                  exact ih15 x2 v13 H locs ls (lpk_i hf hk15) ⟨hP, hD, hS⟩ (lv_sub hl [2, 3, 4, 0] rfl)
              refine lv_iload hx hb d_R_isMove_15 (lv_at hl 3 rfl) ?_
              refine lv_iconst (v := (2 : Int32)) hx hb d_R_isMove_17 (by decide) ?_
              refine lv_icmp_ge (tgt := 153) hx hb d_R_isMove_18 (by decide) (fun c2 => ?_) (fun c2 => ?_)
              · have hf := di_t c2 hf
                have hq15 := lpk_x hf hk15
                have hf := ex_y (f := fun y => R_isMove_a15 N f_nodeMany f_moveNode f_movePart f_moveFirst f_moveThen f_moveOther g_nodes g_part x3 y) hq15 hfo15
                have hf : R_isMove_153 N f_nodeMany f_moveNode f_movePart f_moveFirst f_moveThen f_moveOther g_nodes g_part x2 x3 = some r4 := hf
                exact hJ153 x2 x3 H locs ls ⟨hP, hD, hS⟩ (lv_sub hl [0, 1, 2] rfl) hf
              · have hf := di_f c2 hf
                refine lv_aload_n hx hb d_R_isMove_21 rfl (lv_at hl 0 rfl) ?_
                refine va_get (D := G.1) (ci := 12) (v := .ref a_nodes) (C := n_R) (T := T_R) (N := 44) hx hb htl iw_R hown hK hP 0 rfl rfl 34 (by decide) (htl _ k_1230) (fun _ h9 => h9) rfl d_R_isMove_22 ?_
                refine lv_iload_n hx hb d_R_isMove_25 rfl (lv_at hl 2 rfl) ?_
                obtain ⟨c3, hf⟩ := dk_e hf
                refine va_iald hx hb hK hP 1 1 rfl rfl c3 d_R_isMove_26 ?_
                refine lv_topi (fun v4 ev4 => ?_)
                have hf := dn_e ev4 hf
                refine lv_istore (lv' := [(5, .int v4), (0, .ref h0), (2, .int x2), (3, .int x3), (4, .int x4)]) hx hb d_R_isMove_27 hl (by decide) rfl (fun ls hl => ?_)
                refine lv_iload hx hb d_R_isMove_29 (lv_at hl 4 rfl) ?_
                refine lv_if_ne (tgt := 44) hx hb d_R_isMove_31 (by decide) (fun c5 => ?_) (fun c5 => ?_)
                · have hf := di_f c5 hf
                  refine lv_iload hx hb d_R_isMove_44 (lv_at hl 0 rfl) ?_
                  refine lv_aload_n hx hb d_R_isMove_46 rfl (lv_at hl 1 rfl) ?_
                  refine va_get (D := G.1) (ci := 12) (v := .ref a_part) (C := n_R) (T := T_R) (N := 44) hx hb htl iw_R hown hK hP 0 rfl rfl 31 (by decide) (htl _ k_1227) (fun _ h9 => h9) rfl d_R_isMove_47 ?_
                  refine lv_iload hx hb d_R_isMove_50 (lv_at hl 0 rfl) ?_
                  obtain ⟨c6, hf⟩ := dk_e hf
                  refine va_iald hx hb hK hP 2 1 rfl rfl c6 d_R_isMove_52 ?_
                  refine lv_iconst (v := (-1 : Int32)) hx hb d_R_isMove_53 (by decide) ?_
                  refine lv_ixor hx hb d_R_isMove_54 ?_
                  refine lv_iand hx hb d_R_isMove_55 ?_
                  exact hJ56 x2 x4 v4 (v4 &&& ((g_part v4.toNatClampNeg) ^^^ (-1 : Int32))) H locs ls ⟨hP, hD, hS⟩ (lv_sub hl [1, 2, 3, 4, 0] rfl) hf
                · have hf := di_t c5 hf
                  refine lv_aload_n hx hb d_R_isMove_34 rfl (lv_at hl 1 rfl) ?_
                  refine va_get (D := G.1) (ci := 12) (v := .ref a_part) (C := n_R) (T := T_R) (N := 44) hx hb htl iw_R hown hK hP 0 rfl rfl 31 (by decide) (htl _ k_1227) (fun _ h9 => h9) rfl d_R_isMove_35 ?_
                  refine lv_iload hx hb d_R_isMove_38 (lv_at hl 0 rfl) ?_
                  obtain ⟨c7, hf⟩ := dk_e hf
                  refine va_iald hx hb hK hP 2 1 rfl rfl c7 d_R_isMove_40 ?_
                  refine lv_goto (tgt := 56) hx hb d_R_isMove_41 (by decide) ?_
                  exact hJ56 x2 x4 v4 (g_part v4.toNatClampNeg) H locs ls ⟨hP, hD, hS⟩ (lv_sub hl [1, 2, 3, 4, 0] rfl) hf
          exact hL15 N x2 x4 H locs ls hy15 ⟨hP, hD, hS⟩ hl
        refine lv_iload_n hx hb d_R_isMove_4 rfl (lv_at hl 2 rfl) ?_
        refine lv_aload_n hx hb d_R_isMove_5 rfl (lv_at hl 0 rfl) ?_
        refine va_get (D := G.1) (ci := 12) (v := .int f_nodeMany) (C := n_R) (T := T_R) (N := 44) hx hb htl iw_R hown hK hP 0 rfl rfl 35 (by decide) (htl _ k_1231) (fun _ h9 => h9) rfl d_R_isMove_6 ?_
        refine lv_icmp_ge (tgt := 159) hx hb d_R_isMove_9 (by decide) (fun c1 => ?_) (fun c1 => ?_)
        · have hf := di_t c1 hf
          have hq4 := lpk_x hf hk4
          have hf := ex_y (f := fun y => R_isMove_a4 N f_nodeMany f_moveNode f_movePart f_moveFirst f_moveThen f_moveOther g_nodes g_part y) hq4 hfo4
          have hf : R_isMove_159 N f_nodeMany f_moveNode f_movePart f_moveFirst f_moveThen f_moveOther g_nodes g_part = some res := hf
          exact hJ159 f_moveNode f_movePart f_moveFirst f_moveThen f_moveOther H locs ls ⟨hP, hD, hS⟩ (lv_sub hl [] rfl) hf
        · have hf := di_f c1 hf
          refine lv_iconst (v := (0 : Int32)) hx hb d_R_isMove_12 (by decide) ?_
          refine lv_istore (lv' := [(4, .int (0 : Int32)), (0, .ref h0), (2, .int x2), (3, .int x3)]) hx hb d_R_isMove_13 hl (by decide) rfl (fun ls hl => ?_)
          exact hJ15 x2 x3 (0 : Int32) H locs ls ⟨hP, hD, hS⟩ (lv_sub hl [1, 2, 3, 0] rfl) hf
    exact hL4 N x2 x3 H locs ls hy4 ⟨hP, hD, hS⟩ hl
  refine lv_iload_n hx hb d_R_isMove_0 rfl (lv_at hl 1 rfl) ?_
  refine lv_istore_n (lv' := [(2, .int x1), (0, .ref h0), (1, .int x1)]) hx hb d_R_isMove_1 rfl hl (by decide) rfl (fun ls hl => ?_)
  refine lv_iconst (v := (0 : Int32)) hx hb d_R_isMove_2 (by decide) ?_
  refine lv_istore_n (lv' := [(3, .int (0 : Int32)), (2, .int x1), (0, .ref h0), (1, .int x1)]) hx hb d_R_isMove_3 rfl hl (by decide) rfl (fun ls hl => ?_)
  exact hJ4 f_moveNode f_movePart f_moveFirst f_moveThen f_moveOther x1 (0 : Int32) H locs ls ⟨hP, hD, hS⟩ (lv_sub hl [2, 1, 0] rfl) hf
set_option maxHeartbeats 4000000 in
set_option maxRecDepth 100000 in
theorem c_R_moveMany (l : Launch) (G : va_G × (Nat → ClassId)) (Y : (Nat → Nat) × (Nat → Nat)) (h0 : Nat) (a_all : Nat) (a_text : Nat) (a_saved : Nat) (a_undone : Nat) (a_told : Nat) (a_pile : Nat) (a_open : Nat) (a_size : Nat) (a_capped : Nat) (a_connected : Nat) (a_bestCost : Nat) (a_bestCrosses : Nat) (a_bestPart : Nat) (a_part : Nat) (a_trees : Nat) (a_nodes : Nat) (a_out : Nat) (a_kept : Nat) (f_raised : Int32) (f_undos : Int32) (f_reached : Int32) (f_length : Int32) (f_begin : Int32) (f_sort : Int32) (f_sign : Int32) (f_value : Int32) (f_word : Int64) (f_wrongAt : Int32) (f_badAt : Int32) (f_bad : Int32) (f_read : Int32) (f_side : Int32) (f_piled : Int32) (f_opened : Int32) (f_joins : Int32) (f_had : Int32) (f_treeMany : Int32) (f_nodeMany : Int32) (f_moveNode : Int32) (f_movePart : Int32) (f_moveFirst : Int32) (f_moveThen : Int32) (f_moveOther : Int32) (f_outMany : Int32) (g_nodes : Nat → Int32) (g_part : Nat → Int32) (N : Nat) (res : Int32 × Int32 × Int32 × Int32 × Int32 × Int32) (hf : R_moveMany N f_nodeMany f_moveNode f_movePart f_moveFirst f_moveThen f_moveOther g_nodes g_part = some res) : Ci l classes y_R_moveMany b_R_moveMany 2 (some .int) (rmk 1) G.1 (tyL G) Y [.ref h0] [(h0, O_R f_raised a_all a_text a_saved a_undone f_undos f_reached f_length f_begin f_sort f_sign f_value f_word f_wrongAt f_badAt f_bad a_told f_read f_side a_pile f_piled a_open f_opened f_joins f_had a_size a_capped a_connected a_bestCost a_bestCrosses a_bestPart a_part a_trees f_treeMany a_nodes f_nodeMany f_moveNode f_movePart f_moveFirst f_moveThen f_moveOther a_out f_outMany a_kept), (a_nodes, aI G 8 g_nodes), (a_part, aI G 256 g_part)] [(h0, O_R f_raised a_all a_text a_saved a_undone f_undos f_reached f_length f_begin f_sort f_sign f_value f_word f_wrongAt f_badAt f_bad a_told f_read f_side a_pile f_piled a_open f_opened f_joins f_had a_size a_capped a_connected a_bestCost a_bestCrosses a_bestPart a_part a_trees f_treeMany a_nodes f_nodeMany res.2.1 res.2.2.1 res.2.2.2.1 res.2.2.2.2.1 res.2.2.2.2.2 a_out f_outMany a_kept), (a_nodes, aI G 8 g_nodes), (a_part, aI G 256 g_part)] res.1 := by
  refine entI (by decide) (Nat.le_of_ble_eq_true rfl) ?_
  intro p e s m args below meth c ls A Q hx hb hml hown htl hK hsk wq hl hret
  obtain ⟨hP, hD, hS⟩ := wq
  have hl : lv_has ls 2 [(0, .ref h0)] := hl
  have hS : va_S A s.heap s.heap [] := hS
  obtain ⟨H, hH⟩ : ∃ H : Heap, H = s.heap := ⟨_, rfl⟩
  obtain ⟨locs, hlocs⟩ : ∃ z : List Loc, z = [] := ⟨_, rfl⟩
  rw [← hH] at hP
  replace hS : va_S A s.heap H locs := by rw [hH, hlocs]; exact hS
  suffices hgo : W p l e (rmk 1) s m args below meth c H locs 0 0 Q (F0 m 0 ls []) by rw [hH, hlocs] at hgo; exact hgo
  have hJ16 : ∀ (f_moveNode : Int32) (f_movePart : Int32) (f_moveFirst : Int32) (f_moveThen : Int32) (f_moveOther : Int32) (x1 : Int32) (H : Heap) (locs : List Loc) (ls : Array Slot), PDS G.1 classes A s [(h0, O_R f_raised a_all a_text a_saved a_undone f_undos f_reached f_length f_begin f_sort f_sign f_value f_word f_wrongAt f_badAt f_bad a_told f_read f_side a_pile f_piled a_open f_opened f_joins f_had a_size a_capped a_connected a_bestCost a_bestCrosses a_bestPart a_part a_trees f_treeMany a_nodes f_nodeMany f_moveNode f_movePart f_moveFirst f_moveThen f_moveOther a_out f_outMany a_kept), (a_nodes, aI G 8 g_nodes), (a_part, aI G 256 g_part)] H locs → lv_has ls 2 [(1, .int x1)] → R_moveMany_16 N f_nodeMany f_moveNode f_movePart f_moveFirst f_moveThen f_moveOther g_nodes g_part x1 = some res → W p l e (rmk 1) s m args below meth c H locs 0 0 Q (F0 m 16 ls []) := by
    intro f_moveNode f_movePart f_moveFirst f_moveThen f_moveOther x1 H locs ls wq hl hf
    obtain ⟨hP, hD, hS⟩ := wq
    refine lv_iload_n hx hb d_R_moveMany_16 rfl (lv_at hl 0 rfl) ?_
    cases hf
    exact hret 17 ls H locs hP hS d_R_moveMany_17
  have hJ2 : ∀ (f_moveNode : Int32) (f_movePart : Int32) (f_moveFirst : Int32) (f_moveThen : Int32) (f_moveOther : Int32) (x1 : Int32) (H : Heap) (locs : List Loc) (ls : Array Slot), PDS G.1 classes A s [(h0, O_R f_raised a_all a_text a_saved a_undone f_undos f_reached f_length f_begin f_sort f_sign f_value f_word f_wrongAt f_badAt f_bad a_told f_read f_side a_pile f_piled a_open f_opened f_joins f_had a_size a_capped a_connected a_bestCost a_bestCrosses a_bestPart a_part a_trees f_treeMany a_nodes f_nodeMany f_moveNode f_movePart f_moveFirst f_moveThen f_moveOther a_out f_outMany a_kept), (a_nodes, aI G 8 g_nodes), (a_part, aI G 256 g_part)] H locs → lv_has ls 2 [(0, .ref h0), (1, .int x1)] → R_moveMany_2 N f_nodeMany f_moveNode f_movePart f_moveFirst f_moveThen f_moveOther g_nodes g_part x1 = some res → W p l e (rmk 1) s m args below meth c H locs 0 0 Q (F0 m 2 ls []) := by
    intro f_moveNode f_movePart f_moveFirst f_moveThen f_moveOther x1 H locs ls wq hl hf
    obtain ⟨hP, hD, hS⟩ := wq
    obtain ⟨y2, hy2, hfo2⟩ := db_e hf
    have hL2 : ∀ (n : Nat) (f_moveNode : Int32) (f_movePart : Int32) (f_moveFirst : Int32) (f_moveThen : Int32) (f_moveOther : Int32) (x1 : Int32) (H : Heap) (locs : List Loc) (ls : Array Slot), lp (fun x => R_moveMany_b2 N f_nodeMany x.1 x.2.1 x.2.2.1 x.2.2.2.1 x.2.2.2.2.1 g_nodes g_part x.2.2.2.2.2) n (f_moveNode, f_movePart, f_moveFirst, f_moveThen, f_moveOther, x1) = some y2 → PDS G.1 classes A s [(h0, O_R f_raised a_all a_text a_saved a_undone f_undos f_reached f_length f_begin f_sort f_sign f_value f_word f_wrongAt f_badAt f_bad a_told f_read f_side a_pile f_piled a_open f_opened f_joins f_had a_size a_capped a_connected a_bestCost a_bestCrosses a_bestPart a_part a_trees f_treeMany a_nodes f_nodeMany f_moveNode f_movePart f_moveFirst f_moveThen f_moveOther a_out f_outMany a_kept), (a_nodes, aI G 8 g_nodes), (a_part, aI G 256 g_part)] H locs → lv_has ls 2 [(0, .ref h0), (1, .int x1)] → W p l e (rmk 1) s m args below meth c H locs 0 0 Q (F0 m 2 ls []) := by
      intro n
      induction n with
      | zero =>
        intro f_moveNode f_movePart f_moveFirst f_moveThen f_moveOther x1 H locs ls hf
        exact lp_0 hf
      | succ n ih2 =>
        intro f_moveNode f_movePart f_moveFirst f_moveThen f_moveOther x1 H locs ls hf wq hl
        obtain ⟨hP, hD, hS⟩ := wq
        obtain ⟨r2, hf, hk2⟩ := lp_s hf
        have hf : R_moveMany_b2 N f_nodeMany f_moveNode f_movePart f_moveFirst f_moveThen f_moveOther g_nodes g_part x1 = some r2 := hf
        refine lv_aload_n hx hb d_R_moveMany_2 rfl (lv_at hl 0 rfl) ?_
        refine lv_iload_n hx hb d_R_moveMany_3 rfl (lv_at hl 1 rfl) ?_
        obtain ⟨t1, hv2, hf⟩ := db_e hf
        refine call_i (isC := [0, 1, 2]) (run_V (As := [.int x1]) (rest := []) (ci := 12) (q0 := 0) hx hb hml hown htl (c_R_isMove l G Y  h0 a_all a_text a_saved a_undone a_told a_pile a_open a_size a_capped a_connected a_bestCost a_bestCrosses a_bestPart a_part a_trees a_nodes a_out a_kept f_raised f_undos f_reached f_length f_begin f_sort f_sign f_value f_word f_wrongAt f_badAt f_bad f_read f_side f_piled f_opened f_joins f_had f_treeMany f_nodeMany f_moveNode f_movePart f_moveFirst f_moveThen f_moveOther f_outMany g_nodes g_part x1 N t1 hv2) mv_R_isMove k_1598 (hRk (by decide) (by decide)) hK hsk hS hP hD (isC := [0, 1, 2]) rfl (by decide) rfl rfl rfl hl.1 rfl (lv_room (Nat.le_of_ble_eq_true rfl)) d_R_moveMany_4) hP hD hS rfl rfl (fun H locs hP hD hS => ?_)
        have hP : va_P G.1 classes [(h0, O_R f_raised a_all a_text a_saved a_undone f_undos f_reached f_length f_begin f_sort f_sign f_value f_word f_wrongAt f_badAt f_bad a_told f_read f_side a_pile f_piled a_open f_opened f_joins f_had a_size a_capped a_connected a_bestCost a_bestCrosses a_bestPart a_part a_trees f_treeMany a_nodes f_nodeMany t1.2.1 t1.2.2.1 t1.2.2.2.1 t1.2.2.2.2.1 t1.2.2.2.2.2 a_out f_outMany a_kept), (a_nodes, aI G 8 g_nodes), (a_part, aI G 256 g_part)] H := hP
        have hD : va_D A [(h0, O_R f_raised a_all a_text a_saved a_undone f_undos f_reached f_length f_begin f_sort f_sign f_value f_word f_wrongAt f_badAt f_bad a_told f_read f_side a_pile f_piled a_open f_opened f_joins f_had a_size a_capped a_connected a_bestCost a_bestCrosses a_bestPart a_part a_trees f_treeMany a_nodes f_nodeMany t1.2.1 t1.2.2.1 t1.2.2.2.1 t1.2.2.2.2.1 t1.2.2.2.2.2 a_out f_outMany a_kept), (a_nodes, aI G 8 g_nodes), (a_part, aI G 256 g_part)] := hD
        refine lv_if_eq (tgt := 16) hx hb d_R_moveMany_7 (by decide) (fun c3 => ?_) (fun c3 => ?_)
        · have hf := di_t c3 hf
          have hq2 := lpk_x hf hk2
          have hf := ex_y (f := fun y => R_moveMany_a2 N f_nodeMany g_nodes g_part y) hq2 hfo2
          have hf : R_moveMany_16 N f_nodeMany t1.2.1 t1.2.2.1 t1.2.2.2.1 t1.2.2.2.2.1 t1.2.2.2.2.2 g_nodes g_part x1 = some res := hf
          exact hJ16 t1.2.1 t1.2.2.1 t1.2.2.2.1 t1.2.2.2.2.1 t1.2.2.2.2.2 x1 H locs ls ⟨hP, hD, hS⟩ (lv_sub hl [1] rfl) hf
        · have hf := di_f c3 hf
          obtain ⟨v4, ev4⟩ : ∃ z : Int32, z = x1 + (1 : Int32) := ⟨_, rfl⟩
          have hf := dn_e ev4 hf
          refine lv_iinc (v := v4) (lv' := [(1, .int v4), (0, .ref h0)]) hx hb d_R_moveMany_10 hl (k := 1) rfl (by rw [ev4]; rfl) (by decide) rfl (fun ls hl => ?_)
          refine lv_goto (tgt := 2) hx hb d_R_moveMany_13 (by decide) ?_
          exact ih2 t1.2.1 t1.2.2.1 t1.2.2.2.1 t1.2.2.2.2.1 t1.2.2.2.2.2 v4 H locs ls (lpk_i hf hk2) ⟨hP, hD, hS⟩ (lv_sub hl [1, 0] rfl)
    exact hL2 N f_moveNode f_movePart f_moveFirst f_moveThen f_moveOther x1 H locs ls hy2 ⟨hP, hD, hS⟩ hl
  refine lv_iconst (v := (0 : Int32)) hx hb d_R_moveMany_0 (by decide) ?_
  refine lv_istore_n (lv' := [(1, .int (0 : Int32)), (0, .ref h0)]) hx hb d_R_moveMany_1 rfl hl (by decide) rfl (fun ls hl => ?_)
  exact hJ2 f_moveNode f_movePart f_moveFirst f_moveThen f_moveOther (0 : Int32) H locs ls ⟨hP, hD, hS⟩ (lv_sub hl [1, 0] rfl) hf
set_option maxHeartbeats 4000000 in
set_option maxRecDepth 100000 in
theorem c_R_goes (l : Launch) (G : va_G × (Nat → ClassId)) (Y : (Nat → Nat) × (Nat → Nat)) (h0 : Nat) (a_all : Nat) (a_text : Nat) (a_saved : Nat) (a_undone : Nat) (a_told : Nat) (a_pile : Nat) (a_open : Nat) (a_size : Nat) (a_capped : Nat) (a_connected : Nat) (a_bestCost : Nat) (a_bestCrosses : Nat) (a_bestPart : Nat) (a_part : Nat) (a_trees : Nat) (a_nodes : Nat) (a_out : Nat) (a_kept : Nat) (f_raised : Int32) (f_undos : Int32) (f_reached : Int32) (f_length : Int32) (f_begin : Int32) (f_sort : Int32) (f_sign : Int32) (f_value : Int32) (f_word : Int64) (f_wrongAt : Int32) (f_badAt : Int32) (f_bad : Int32) (f_read : Int32) (f_side : Int32) (f_piled : Int32) (f_opened : Int32) (f_joins : Int32) (f_had : Int32) (f_treeMany : Int32) (f_nodeMany : Int32) (f_moveNode : Int32) (f_movePart : Int32) (f_moveFirst : Int32) (f_moveThen : Int32) (f_moveOther : Int32) (f_outMany : Int32) (g_part : Nat → Int32) (res : (Nat → Int32)) (hf : R_goes f_moveNode f_movePart f_moveFirst f_moveThen f_moveOther g_part = some res) : Cv l classes y_R_goes b_R_goes 2 none (rmk 2) G.1 (tyL G) Y [.ref h0] [(h0, O_R f_raised a_all a_text a_saved a_undone f_undos f_reached f_length f_begin f_sort f_sign f_value f_word f_wrongAt f_badAt f_bad a_told f_read f_side a_pile f_piled a_open f_opened f_joins f_had a_size a_capped a_connected a_bestCost a_bestCrosses a_bestPart a_part a_trees f_treeMany a_nodes f_nodeMany f_moveNode f_movePart f_moveFirst f_moveThen f_moveOther a_out f_outMany a_kept), (a_part, aI G 256 g_part)] [(h0, O_R f_raised a_all a_text a_saved a_undone f_undos f_reached f_length f_begin f_sort f_sign f_value f_word f_wrongAt f_badAt f_bad a_told f_read f_side a_pile f_piled a_open f_opened f_joins f_had a_size a_capped a_connected a_bestCost a_bestCrosses a_bestPart a_part a_trees f_treeMany a_nodes f_nodeMany f_moveNode f_movePart f_moveFirst f_moveThen f_moveOther a_out f_outMany a_kept), (a_part, aI G 256 res)] := by
  refine entV (by decide) (Nat.le_of_ble_eq_true rfl) ?_
  intro p e s m args below meth c ls A Q hx hb hml hown htl hK hsk wq hl hret
  obtain ⟨hP, hD, hS⟩ := wq
  have hl : lv_has ls 2 [(0, .ref h0)] := hl
  have hS : va_S A s.heap s.heap [] := hS
  obtain ⟨H, hH⟩ : ∃ H : Heap, H = s.heap := ⟨_, rfl⟩
  obtain ⟨locs, hlocs⟩ : ∃ z : List Loc, z = [] := ⟨_, rfl⟩
  rw [← hH] at hP
  replace hS : va_S A s.heap H locs := by rw [hH, hlocs]; exact hS
  suffices hgo : W p l e (rmk 2) s m args below meth c H locs 0 0 Q (F0 m 0 ls []) by rw [hH, hlocs] at hgo; exact hgo
  have hJ78 : ∀ (g_part : Nat → Int32) (z1 : Int32) (z2 : Int32) (H : Heap) (locs : List Loc) (ls : Array Slot), PDS G.1 classes A s [(h0, O_R f_raised a_all a_text a_saved a_undone f_undos f_reached f_length f_begin f_sort f_sign f_value f_word f_wrongAt f_badAt f_bad a_told f_read f_side a_pile f_piled a_open f_opened f_joins f_had a_size a_capped a_connected a_bestCost a_bestCrosses a_bestPart a_part a_trees f_treeMany a_nodes f_nodeMany f_moveNode f_movePart f_moveFirst f_moveThen f_moveOther a_out f_outMany a_kept), (a_part, aI G 256 g_part)] H locs → lv_has ls 2 [] → R_goes_78 f_moveNode f_movePart f_moveFirst f_moveThen f_moveOther g_part z1 z2 = some res → W p l e (rmk 2) s m args below meth c H locs 0 0 Q (F0 m 78 ls [.int z2, .int z1, .ref a_part]) := by
    intro g_part z1 z2 H locs ls wq hl hf
    obtain ⟨hP, hD, hS⟩ := wq
    obtain ⟨c8, hf⟩ := dk_e hf
    refine nx_iast hx hb hK hP hD hS 1 1 rfl rfl c8 d_R_goes_78 (fun v9 ev9 H locs hP hD hS => ?_)
    have hf := dn_e ev9 hf
    have hP : va_P G.1 classes [(h0, O_R f_raised a_all a_text a_saved a_undone f_undos f_reached f_length f_begin f_sort f_sign f_value f_word f_wrongAt f_badAt f_bad a_told f_read f_side a_pile f_piled a_open f_opened f_joins f_had a_size a_capped a_connected a_bestCost a_bestCrosses a_bestPart a_part a_trees f_treeMany a_nodes f_nodeMany f_moveNode f_movePart f_moveFirst f_moveThen f_moveOther a_out f_outMany a_kept), (a_part, aI G 256 v9)] H := hP
    have hD : va_D A [(h0, O_R f_raised a_all a_text a_saved a_undone f_undos f_reached f_length f_begin f_sort f_sign f_value f_word f_wrongAt f_badAt f_bad a_told f_read f_side a_pile f_piled a_open f_opened f_joins f_had a_size a_capped a_connected a_bestCost a_bestCrosses a_bestPart a_part a_trees f_treeMany a_nodes f_nodeMany f_moveNode f_movePart f_moveFirst f_moveThen f_moveOther a_out f_outMany a_kept), (a_part, aI G 256 v9)] := hD
    cases hf
    exact hret 79 ls H locs hP hS d_R_goes_79
  have hJ50 : ∀ (g_part : Nat → Int32) (x1 : Int32) (z1 : Int32) (z2 : Int32) (H : Heap) (locs : List Loc) (ls : Array Slot), PDS G.1 classes A s [(h0, O_R f_raised a_all a_text a_saved a_undone f_undos f_reached f_length f_begin f_sort f_sign f_value f_word f_wrongAt f_badAt f_bad a_told f_read f_side a_pile f_piled a_open f_opened f_joins f_had a_size a_capped a_connected a_bestCost a_bestCrosses a_bestPart a_part a_trees f_treeMany a_nodes f_nodeMany f_moveNode f_movePart f_moveFirst f_moveThen f_moveOther a_out f_outMany a_kept), (a_part, aI G 256 g_part)] H locs → lv_has ls 2 [(0, .ref h0), (1, .int x1)] → R_goes_50 f_moveNode f_movePart f_moveFirst f_moveThen f_moveOther g_part x1 z1 z2 = some res → W p l e (rmk 2) s m args below meth c H locs 0 0 Q (F0 m 50 ls [.int z2, .int z1, .ref a_part]) := by
    intro g_part x1 z1 z2 H locs ls wq hl hf
    obtain ⟨hP, hD, hS⟩ := wq
    obtain ⟨c5, hf⟩ := dk_e hf
    refine nx_iast hx hb hK hP hD hS 1 1 rfl rfl c5 d_R_goes_50 (fun v6 ev6 H locs hP hD hS => ?_)
    have hf := dn_e ev6 hf
    have hP : va_P G.1 classes [(h0, O_R f_raised a_all a_text a_saved a_undone f_undos f_reached f_length f_begin f_sort f_sign f_value f_word f_wrongAt f_badAt f_bad a_told f_read f_side a_pile f_piled a_open f_opened f_joins f_had a_size a_capped a_connected a_bestCost a_bestCrosses a_bestPart a_part a_trees f_treeMany a_nodes f_nodeMany f_moveNode f_movePart f_moveFirst f_moveThen f_moveOther a_out f_outMany a_kept), (a_part, aI G 256 v6)] H := hP
    have hD : va_D A [(h0, O_R f_raised a_all a_text a_saved a_undone f_undos f_reached f_length f_begin f_sort f_sign f_value f_word f_wrongAt f_badAt f_bad a_told f_read f_side a_pile f_piled a_open f_opened f_joins f_had a_size a_capped a_connected a_bestCost a_bestCrosses a_bestPart a_part a_trees f_treeMany a_nodes f_nodeMany f_moveNode f_movePart f_moveFirst f_moveThen f_moveOther a_out f_outMany a_kept), (a_part, aI G 256 v6)] := hD
    refine lv_aload_n hx hb d_R_goes_51 rfl (lv_at hl 0 rfl) ?_
    refine va_get (D := G.1) (ci := 12) (v := .ref a_part) (C := n_R) (T := T_R) (N := 44) hx hb htl iw_R hown hK hP 0 rfl rfl 31 (by decide) (htl _ k_1227) (fun _ h9 => h9) rfl d_R_goes_52 ?_
    refine lv_aload_n hx hb d_R_goes_55 rfl (lv_at hl 0 rfl) ?_
    refine va_get (D := G.1) (ci := 12) (v := .int f_moveNode) (C := n_R) (T := T_R) (N := 44) hx hb htl iw_R hown hK hP 0 rfl rfl 36 (by decide) (htl _ k_1232) (fun _ h9 => h9) rfl d_R_goes_56 ?_
    refine lv_aload_n hx hb d_R_goes_59 rfl (lv_at hl 0 rfl) ?_
    refine va_get (D := G.1) (ci := 12) (v := .int f_moveFirst) (C := n_R) (T := T_R) (N := 44) hx hb htl iw_R hown hK hP 0 rfl rfl 38 (by decide) (htl _ k_1234) (fun _ h9 => h9) rfl d_R_goes_60 ?_
    refine lv_iload_n hx hb d_R_goes_63 rfl (lv_at hl 1 rfl) ?_
    refine call_i (isC := []) (run_S (As := [.int f_moveFirst, .int x1]) (rest := [.int f_moveNode, .ref a_part]) hx hb hml hown htl (c_R_isAheadOf l G Y  f_moveFirst x1 _ rfl) ms_R_isAheadOf k_1431 (hRk (by decide) (by decide)) hK hsk hS hP hD (isC := []) rfl (by decide) rfl hl.1 rfl (lv_room (Nat.le_of_ble_eq_true rfl)) d_R_goes_64) hP hD hS rfl rfl (fun H locs hP hD hS => ?_)
    have hP : va_P G.1 classes [(h0, O_R f_raised a_all a_text a_saved a_undone f_undos f_reached f_length f_begin f_sort f_sign f_value f_word f_wrongAt f_badAt f_bad a_told f_read f_side a_pile f_piled a_open f_opened f_joins f_had a_size a_capped a_connected a_bestCost a_bestCrosses a_bestPart a_part a_trees f_treeMany a_nodes f_nodeMany f_moveNode f_movePart f_moveFirst f_moveThen f_moveOther a_out f_outMany a_kept), (a_part, aI G 256 v6)] H := hP
    have hD : va_D A [(h0, O_R f_raised a_all a_text a_saved a_undone f_undos f_reached f_length f_begin f_sort f_sign f_value f_word f_wrongAt f_badAt f_bad a_told f_read f_side a_pile f_piled a_open f_opened f_joins f_had a_size a_capped a_connected a_bestCost a_bestCrosses a_bestPart a_part a_trees f_treeMany a_nodes f_nodeMany f_moveNode f_movePart f_moveFirst f_moveThen f_moveOther a_out f_outMany a_kept), (a_part, aI G 256 v6)] := hD
    refine lv_if_eq (tgt := 77) hx hb d_R_goes_67 (by decide) (fun c7 => ?_) (fun c7 => ?_)
    · have hf := di_t c7 hf
      refine lv_iload_n hx hb d_R_goes_77 rfl (lv_at hl 1 rfl) ?_
      exact hJ78 v6 f_moveNode x1 H locs ls ⟨hP, hD, hS⟩ (lv_sub hl [] rfl) hf
    · have hf := di_f c7 hf
      refine lv_aload_n hx hb d_R_goes_70 rfl (lv_at hl 0 rfl) ?_
      refine va_get (D := G.1) (ci := 12) (v := .int f_moveFirst) (C := n_R) (T := T_R) (N := 44) hx hb htl iw_R hown hK hP 0 rfl rfl 38 (by decide) (htl _ k_1234) (fun _ h9 => h9) rfl d_R_goes_71 ?_
      refine lv_goto (tgt := 78) hx hb d_R_goes_74 (by decide) ?_
      exact hJ78 v6 f_moveNode f_moveFirst H locs ls ⟨hP, hD, hS⟩ (lv_sub hl [] rfl) hf
  refine lv_aload_n hx hb d_R_goes_0 rfl (lv_at hl 0 rfl) ?_
  refine va_get (D := G.1) (ci := 12) (v := .int f_moveThen) (C := n_R) (T := T_R) (N := 44) hx hb htl iw_R hown hK hP 0 rfl rfl 39 (by decide) (htl _ k_1235) (fun _ h9 => h9) rfl d_R_goes_1 ?_
  refine lv_aload_n hx hb d_R_goes_4 rfl (lv_at hl 0 rfl) ?_
  refine va_get (D := G.1) (ci := 12) (v := .int f_moveOther) (C := n_R) (T := T_R) (N := 44) hx hb htl iw_R hown hK hP 0 rfl rfl 40 (by decide) (htl _ k_1236) (fun _ h9 => h9) rfl d_R_goes_5 ?_
  refine lv_ior hx hb d_R_goes_8 ?_
  refine lv_topi (fun v1 ev1 => ?_)
  have hf := dn_e ev1 hf
  refine lv_istore_n (lv' := [(1, .int v1), (0, .ref h0)]) hx hb d_R_goes_9 rfl hl (by decide) rfl (fun ls hl => ?_)
  refine lv_aload_n hx hb d_R_goes_10 rfl (lv_at hl 1 rfl) ?_
  refine va_get (D := G.1) (ci := 12) (v := .ref a_part) (C := n_R) (T := T_R) (N := 44) hx hb htl iw_R hown hK hP 0 rfl rfl 31 (by decide) (htl _ k_1227) (fun _ h9 => h9) rfl d_R_goes_11 ?_
  refine lv_aload_n hx hb d_R_goes_14 rfl (lv_at hl 1 rfl) ?_
  refine va_get (D := G.1) (ci := 12) (v := .int f_movePart) (C := n_R) (T := T_R) (N := 44) hx hb htl iw_R hown hK hP 0 rfl rfl 37 (by decide) (htl _ k_1233) (fun _ h9 => h9) rfl d_R_goes_15 ?_
  refine lv_iconst (v := (0 : Int32)) hx hb d_R_goes_18 (by decide) ?_
  obtain ⟨c2, hf⟩ := dk_e hf
  refine nx_iast hx hb hK hP hD hS 1 1 rfl rfl c2 d_R_goes_19 (fun v3 ev3 H locs hP hD hS => ?_)
  have hf := dn_e ev3 hf
  have hP : va_P G.1 classes [(h0, O_R f_raised a_all a_text a_saved a_undone f_undos f_reached f_length f_begin f_sort f_sign f_value f_word f_wrongAt f_badAt f_bad a_told f_read f_side a_pile f_piled a_open f_opened f_joins f_had a_size a_capped a_connected a_bestCost a_bestCrosses a_bestPart a_part a_trees f_treeMany a_nodes f_nodeMany f_moveNode f_movePart f_moveFirst f_moveThen f_moveOther a_out f_outMany a_kept), (a_part, aI G 256 v3)] H := hP
  have hD : va_D A [(h0, O_R f_raised a_all a_text a_saved a_undone f_undos f_reached f_length f_begin f_sort f_sign f_value f_word f_wrongAt f_badAt f_bad a_told f_read f_side a_pile f_piled a_open f_opened f_joins f_had a_size a_capped a_connected a_bestCost a_bestCrosses a_bestPart a_part a_trees f_treeMany a_nodes f_nodeMany f_moveNode f_movePart f_moveFirst f_moveThen f_moveOther a_out f_outMany a_kept), (a_part, aI G 256 v3)] := hD
  refine lv_aload_n hx hb d_R_goes_20 rfl (lv_at hl 1 rfl) ?_
  refine va_get (D := G.1) (ci := 12) (v := .ref a_part) (C := n_R) (T := T_R) (N := 44) hx hb htl iw_R hown hK hP 0 rfl rfl 31 (by decide) (htl _ k_1227) (fun _ h9 => h9) rfl d_R_goes_21 ?_
  refine lv_iload_n hx hb d_R_goes_24 rfl (lv_at hl 0 rfl) ?_
  refine lv_aload_n hx hb d_R_goes_25 rfl (lv_at hl 1 rfl) ?_
  refine va_get (D := G.1) (ci := 12) (v := .int f_moveThen) (C := n_R) (T := T_R) (N := 44) hx hb htl iw_R hown hK hP 0 rfl rfl 39 (by decide) (htl _ k_1235) (fun _ h9 => h9) rfl d_R_goes_26 ?_
  refine lv_aload_n hx hb d_R_goes_29 rfl (lv_at hl 1 rfl) ?_
  refine va_get (D := G.1) (ci := 12) (v := .int f_moveOther) (C := n_R) (T := T_R) (N := 44) hx hb htl iw_R hown hK hP 0 rfl rfl 40 (by decide) (htl _ k_1236) (fun _ h9 => h9) rfl d_R_goes_30 ?_
  refine call_i (isC := []) (run_S (As := [.int f_moveThen, .int f_moveOther]) (rest := [.int v1, .ref a_part]) hx hb hml hown htl (c_R_isAheadOf l G Y  f_moveThen f_moveOther _ rfl) ms_R_isAheadOf k_1431 (hRk (by decide) (by decide)) hK hsk hS hP hD (isC := []) rfl (by decide) rfl hl.1 rfl (lv_room (Nat.le_of_ble_eq_true rfl)) d_R_goes_33) hP hD hS rfl rfl (fun H locs hP hD hS => ?_)
  have hP : va_P G.1 classes [(h0, O_R f_raised a_all a_text a_saved a_undone f_undos f_reached f_length f_begin f_sort f_sign f_value f_word f_wrongAt f_badAt f_bad a_told f_read f_side a_pile f_piled a_open f_opened f_joins f_had a_size a_capped a_connected a_bestCost a_bestCrosses a_bestPart a_part a_trees f_treeMany a_nodes f_nodeMany f_moveNode f_movePart f_moveFirst f_moveThen f_moveOther a_out f_outMany a_kept), (a_part, aI G 256 v3)] H := hP
  have hD : va_D A [(h0, O_R f_raised a_all a_text a_saved a_undone f_undos f_reached f_length f_begin f_sort f_sign f_value f_word f_wrongAt f_badAt f_bad a_told f_read f_side a_pile f_piled a_open f_opened f_joins f_had a_size a_capped a_connected a_bestCost a_bestCrosses a_bestPart a_part a_trees f_treeMany a_nodes f_nodeMany f_moveNode f_movePart f_moveFirst f_moveThen f_moveOther a_out f_outMany a_kept), (a_part, aI G 256 v3)] := hD
  refine lv_if_eq (tgt := 46) hx hb d_R_goes_36 (by decide) (fun c4 => ?_) (fun c4 => ?_)
  · have hf := di_t c4 hf
    refine lv_aload_n hx hb d_R_goes_46 rfl (lv_at hl 1 rfl) ?_
    refine va_get (D := G.1) (ci := 12) (v := .int f_moveOther) (C := n_R) (T := T_R) (N := 44) hx hb htl iw_R hown hK hP 0 rfl rfl 40 (by decide) (htl _ k_1236) (fun _ h9 => h9) rfl d_R_goes_47 ?_
    exact hJ50 v3 v1 v1 f_moveOther H locs ls ⟨hP, hD, hS⟩ (lv_sub hl [1, 0] rfl) hf
  · have hf := di_f c4 hf
    refine lv_aload_n hx hb d_R_goes_39 rfl (lv_at hl 1 rfl) ?_
    refine va_get (D := G.1) (ci := 12) (v := .int f_moveThen) (C := n_R) (T := T_R) (N := 44) hx hb htl iw_R hown hK hP 0 rfl rfl 39 (by decide) (htl _ k_1235) (fun _ h9 => h9) rfl d_R_goes_40 ?_
    refine lv_goto (tgt := 50) hx hb d_R_goes_43 (by decide) ?_
    exact hJ50 v3 v1 v1 f_moveThen H locs ls ⟨hP, hD, hS⟩ (lv_sub hl [1, 0] rfl) hf
set_option maxHeartbeats 4000000 in
set_option maxRecDepth 100000 in
theorem c_R_goesBack (l : Launch) (G : va_G × (Nat → ClassId)) (Y : (Nat → Nat) × (Nat → Nat)) (h0 : Nat) (a_all : Nat) (a_text : Nat) (a_saved : Nat) (a_undone : Nat) (a_told : Nat) (a_pile : Nat) (a_open : Nat) (a_size : Nat) (a_capped : Nat) (a_connected : Nat) (a_bestCost : Nat) (a_bestCrosses : Nat) (a_bestPart : Nat) (a_part : Nat) (a_trees : Nat) (a_nodes : Nat) (a_out : Nat) (a_kept : Nat) (f_raised : Int32) (f_undos : Int32) (f_reached : Int32) (f_length : Int32) (f_begin : Int32) (f_sort : Int32) (f_sign : Int32) (f_value : Int32) (f_word : Int64) (f_wrongAt : Int32) (f_badAt : Int32) (f_bad : Int32) (f_read : Int32) (f_side : Int32) (f_piled : Int32) (f_opened : Int32) (f_joins : Int32) (f_had : Int32) (f_treeMany : Int32) (f_nodeMany : Int32) (f_moveNode : Int32) (f_movePart : Int32) (f_moveFirst : Int32) (f_moveThen : Int32) (f_moveOther : Int32) (f_outMany : Int32) (g_part : Nat → Int32) (res : (Nat → Int32)) (hf : R_goesBack f_moveNode f_movePart f_moveFirst f_moveThen f_moveOther g_part = some res) : Cv l classes y_R_goesBack b_R_goesBack 2 none (rmk 2) G.1 (tyL G) Y [.ref h0] [(h0, O_R f_raised a_all a_text a_saved a_undone f_undos f_reached f_length f_begin f_sort f_sign f_value f_word f_wrongAt f_badAt f_bad a_told f_read f_side a_pile f_piled a_open f_opened f_joins f_had a_size a_capped a_connected a_bestCost a_bestCrosses a_bestPart a_part a_trees f_treeMany a_nodes f_nodeMany f_moveNode f_movePart f_moveFirst f_moveThen f_moveOther a_out f_outMany a_kept), (a_part, aI G 256 g_part)] [(h0, O_R f_raised a_all a_text a_saved a_undone f_undos f_reached f_length f_begin f_sort f_sign f_value f_word f_wrongAt f_badAt f_bad a_told f_read f_side a_pile f_piled a_open f_opened f_joins f_had a_size a_capped a_connected a_bestCost a_bestCrosses a_bestPart a_part a_trees f_treeMany a_nodes f_nodeMany f_moveNode f_movePart f_moveFirst f_moveThen f_moveOther a_out f_outMany a_kept), (a_part, aI G 256 res)] := by
  refine entV (by decide) (Nat.le_of_ble_eq_true rfl) ?_
  intro p e s m args below meth c ls A Q hx hb hml hown htl hK hsk wq hl hret
  obtain ⟨hP, hD, hS⟩ := wq
  have hl : lv_has ls 2 [(0, .ref h0)] := hl
  have hS : va_S A s.heap s.heap [] := hS
  obtain ⟨H, hH⟩ : ∃ H : Heap, H = s.heap := ⟨_, rfl⟩
  obtain ⟨locs, hlocs⟩ : ∃ z : List Loc, z = [] := ⟨_, rfl⟩
  rw [← hH] at hP
  replace hS : va_S A s.heap H locs := by rw [hH, hlocs]; exact hS
  suffices hgo : W p l e (rmk 2) s m args below meth c H locs 0 0 Q (F0 m 0 ls []) by rw [hH, hlocs] at hgo; exact hgo
  have hJ84 : ∀ (g_part : Nat → Int32) (z1 : Int32) (z2 : Int32) (H : Heap) (locs : List Loc) (ls : Array Slot), PDS G.1 classes A s [(h0, O_R f_raised a_all a_text a_saved a_undone f_undos f_reached f_length f_begin f_sort f_sign f_value f_word f_wrongAt f_badAt f_bad a_told f_read f_side a_pile f_piled a_open f_opened f_joins f_had a_size a_capped a_connected a_bestCost a_bestCrosses a_bestPart a_part a_trees f_treeMany a_nodes f_nodeMany f_moveNode f_movePart f_moveFirst f_moveThen f_moveOther a_out f_outMany a_kept), (a_part, aI G 256 g_part)] H locs → lv_has ls 2 [] → R_goesBack_84 f_moveNode f_movePart f_moveFirst f_moveThen f_moveOther g_part z1 z2 = some res → W p l e (rmk 2) s m args below meth c H locs 0 0 Q (F0 m 84 ls [.int z2, .int z1, .ref a_part]) := by
    intro g_part z1 z2 H locs ls wq hl hf
    obtain ⟨hP, hD, hS⟩ := wq
    obtain ⟨c8, hf⟩ := dk_e hf
    refine nx_iast hx hb hK hP hD hS 1 1 rfl rfl c8 d_R_goesBack_84 (fun v9 ev9 H locs hP hD hS => ?_)
    have hf := dn_e ev9 hf
    have hP : va_P G.1 classes [(h0, O_R f_raised a_all a_text a_saved a_undone f_undos f_reached f_length f_begin f_sort f_sign f_value f_word f_wrongAt f_badAt f_bad a_told f_read f_side a_pile f_piled a_open f_opened f_joins f_had a_size a_capped a_connected a_bestCost a_bestCrosses a_bestPart a_part a_trees f_treeMany a_nodes f_nodeMany f_moveNode f_movePart f_moveFirst f_moveThen f_moveOther a_out f_outMany a_kept), (a_part, aI G 256 v9)] H := hP
    have hD : va_D A [(h0, O_R f_raised a_all a_text a_saved a_undone f_undos f_reached f_length f_begin f_sort f_sign f_value f_word f_wrongAt f_badAt f_bad a_told f_read f_side a_pile f_piled a_open f_opened f_joins f_had a_size a_capped a_connected a_bestCost a_bestCrosses a_bestPart a_part a_trees f_treeMany a_nodes f_nodeMany f_moveNode f_movePart f_moveFirst f_moveThen f_moveOther a_out f_outMany a_kept), (a_part, aI G 256 v9)] := hD
    cases hf
    exact hret 85 ls H locs hP hS d_R_goesBack_85
  have hJ50 : ∀ (g_part : Nat → Int32) (z1 : Int32) (z2 : Int32) (H : Heap) (locs : List Loc) (ls : Array Slot), PDS G.1 classes A s [(h0, O_R f_raised a_all a_text a_saved a_undone f_undos f_reached f_length f_begin f_sort f_sign f_value f_word f_wrongAt f_badAt f_bad a_told f_read f_side a_pile f_piled a_open f_opened f_joins f_had a_size a_capped a_connected a_bestCost a_bestCrosses a_bestPart a_part a_trees f_treeMany a_nodes f_nodeMany f_moveNode f_movePart f_moveFirst f_moveThen f_moveOther a_out f_outMany a_kept), (a_part, aI G 256 g_part)] H locs → lv_has ls 2 [(0, .ref h0)] → R_goesBack_50 f_moveNode f_movePart f_moveFirst f_moveThen f_moveOther g_part z1 z2 = some res → W p l e (rmk 2) s m args below meth c H locs 0 0 Q (F0 m 50 ls [.int z2, .int z1, .ref a_part]) := by
    intro g_part z1 z2 H locs ls wq hl hf
    obtain ⟨hP, hD, hS⟩ := wq
    obtain ⟨c5, hf⟩ := dk_e hf
    refine nx_iast hx hb hK hP hD hS 1 1 rfl rfl c5 d_R_goesBack_50 (fun v6 ev6 H locs hP hD hS => ?_)
    have hf := dn_e ev6 hf
    have hP : va_P G.1 classes [(h0, O_R f_raised a_all a_text a_saved a_undone f_undos f_reached f_length f_begin f_sort f_sign f_value f_word f_wrongAt f_badAt f_bad a_told f_read f_side a_pile f_piled a_open f_opened f_joins f_had a_size a_capped a_connected a_bestCost a_bestCrosses a_bestPart a_part a_trees f_treeMany a_nodes f_nodeMany f_moveNode f_movePart f_moveFirst f_moveThen f_moveOther a_out f_outMany a_kept), (a_part, aI G 256 v6)] H := hP
    have hD : va_D A [(h0, O_R f_raised a_all a_text a_saved a_undone f_undos f_reached f_length f_begin f_sort f_sign f_value f_word f_wrongAt f_badAt f_bad a_told f_read f_side a_pile f_piled a_open f_opened f_joins f_had a_size a_capped a_connected a_bestCost a_bestCrosses a_bestPart a_part a_trees f_treeMany a_nodes f_nodeMany f_moveNode f_movePart f_moveFirst f_moveThen f_moveOther a_out f_outMany a_kept), (a_part, aI G 256 v6)] := hD
    refine lv_aload_n hx hb d_R_goesBack_51 rfl (lv_at hl 0 rfl) ?_
    refine va_get (D := G.1) (ci := 12) (v := .ref a_part) (C := n_R) (T := T_R) (N := 44) hx hb htl iw_R hown hK hP 0 rfl rfl 31 (by decide) (htl _ k_1227) (fun _ h9 => h9) rfl d_R_goesBack_52 ?_
    refine lv_aload_n hx hb d_R_goesBack_55 rfl (lv_at hl 0 rfl) ?_
    refine va_get (D := G.1) (ci := 12) (v := .int f_moveNode) (C := n_R) (T := T_R) (N := 44) hx hb htl iw_R hown hK hP 0 rfl rfl 36 (by decide) (htl _ k_1232) (fun _ h9 => h9) rfl d_R_goesBack_56 ?_
    refine lv_aload_n hx hb d_R_goesBack_59 rfl (lv_at hl 0 rfl) ?_
    refine va_get (D := G.1) (ci := 12) (v := .int f_movePart) (C := n_R) (T := T_R) (N := 44) hx hb htl iw_R hown hK hP 0 rfl rfl 37 (by decide) (htl _ k_1233) (fun _ h9 => h9) rfl d_R_goesBack_60 ?_
    refine lv_aload_n hx hb d_R_goesBack_63 rfl (lv_at hl 0 rfl) ?_
    refine va_get (D := G.1) (ci := 12) (v := .int f_moveOther) (C := n_R) (T := T_R) (N := 44) hx hb htl iw_R hown hK hP 0 rfl rfl 40 (by decide) (htl _ k_1236) (fun _ h9 => h9) rfl d_R_goesBack_64 ?_
    refine call_i (isC := []) (run_S (As := [.int f_movePart, .int f_moveOther]) (rest := [.int f_moveNode, .ref a_part]) hx hb hml hown htl (c_R_isAheadOf l G Y  f_movePart f_moveOther _ rfl) ms_R_isAheadOf k_1431 (hRk (by decide) (by decide)) hK hsk hS hP hD (isC := []) rfl (by decide) rfl hl.1 rfl (lv_room (Nat.le_of_ble_eq_true rfl)) d_R_goesBack_67) hP hD hS rfl rfl (fun H locs hP hD hS => ?_)
    have hP : va_P G.1 classes [(h0, O_R f_raised a_all a_text a_saved a_undone f_undos f_reached f_length f_begin f_sort f_sign f_value f_word f_wrongAt f_badAt f_bad a_told f_read f_side a_pile f_piled a_open f_opened f_joins f_had a_size a_capped a_connected a_bestCost a_bestCrosses a_bestPart a_part a_trees f_treeMany a_nodes f_nodeMany f_moveNode f_movePart f_moveFirst f_moveThen f_moveOther a_out f_outMany a_kept), (a_part, aI G 256 v6)] H := hP
    have hD : va_D A [(h0, O_R f_raised a_all a_text a_saved a_undone f_undos f_reached f_length f_begin f_sort f_sign f_value f_word f_wrongAt f_badAt f_bad a_told f_read f_side a_pile f_piled a_open f_opened f_joins f_had a_size a_capped a_connected a_bestCost a_bestCrosses a_bestPart a_part a_trees f_treeMany a_nodes f_nodeMany f_moveNode f_movePart f_moveFirst f_moveThen f_moveOther a_out f_outMany a_kept), (a_part, aI G 256 v6)] := hD
    refine lv_if_eq (tgt := 80) hx hb d_R_goesBack_70 (by decide) (fun c7 => ?_) (fun c7 => ?_)
    · have hf := di_t c7 hf
      refine lv_aload_n hx hb d_R_goesBack_80 rfl (lv_at hl 0 rfl) ?_
      refine va_get (D := G.1) (ci := 12) (v := .int f_moveOther) (C := n_R) (T := T_R) (N := 44) hx hb htl iw_R hown hK hP 0 rfl rfl 40 (by decide) (htl _ k_1236) (fun _ h9 => h9) rfl d_R_goesBack_81 ?_
      exact hJ84 v6 f_moveNode f_moveOther H locs ls ⟨hP, hD, hS⟩ (lv_sub hl [] rfl) hf
    · have hf := di_f c7 hf
      refine lv_aload_n hx hb d_R_goesBack_73 rfl (lv_at hl 0 rfl) ?_
      refine va_get (D := G.1) (ci := 12) (v := .int f_movePart) (C := n_R) (T := T_R) (N := 44) hx hb htl iw_R hown hK hP 0 rfl rfl 37 (by decide) (htl _ k_1233) (fun _ h9 => h9) rfl d_R_goesBack_74 ?_
      refine lv_goto (tgt := 84) hx hb d_R_goesBack_77 (by decide) ?_
      exact hJ84 v6 f_moveNode f_movePart H locs ls ⟨hP, hD, hS⟩ (lv_sub hl [] rfl) hf
  refine lv_aload_n hx hb d_R_goesBack_0 rfl (lv_at hl 0 rfl) ?_
  refine va_get (D := G.1) (ci := 12) (v := .int f_moveThen) (C := n_R) (T := T_R) (N := 44) hx hb htl iw_R hown hK hP 0 rfl rfl 39 (by decide) (htl _ k_1235) (fun _ h9 => h9) rfl d_R_goesBack_1 ?_
  refine lv_aload_n hx hb d_R_goesBack_4 rfl (lv_at hl 0 rfl) ?_
  refine va_get (D := G.1) (ci := 12) (v := .int f_moveOther) (C := n_R) (T := T_R) (N := 44) hx hb htl iw_R hown hK hP 0 rfl rfl 40 (by decide) (htl _ k_1236) (fun _ h9 => h9) rfl d_R_goesBack_5 ?_
  refine lv_ior hx hb d_R_goesBack_8 ?_
  refine lv_topi (fun v1 ev1 => ?_)
  have hf := dn_e ev1 hf
  refine lv_istore_n (lv' := [(1, .int v1), (0, .ref h0)]) hx hb d_R_goesBack_9 rfl hl (by decide) rfl (fun ls hl => ?_)
  refine lv_aload_n hx hb d_R_goesBack_10 rfl (lv_at hl 1 rfl) ?_
  refine va_get (D := G.1) (ci := 12) (v := .ref a_part) (C := n_R) (T := T_R) (N := 44) hx hb htl iw_R hown hK hP 0 rfl rfl 31 (by decide) (htl _ k_1227) (fun _ h9 => h9) rfl d_R_goesBack_11 ?_
  refine lv_iload_n hx hb d_R_goesBack_14 rfl (lv_at hl 0 rfl) ?_
  refine lv_iconst (v := (0 : Int32)) hx hb d_R_goesBack_15 (by decide) ?_
  obtain ⟨c2, hf⟩ := dk_e hf
  refine nx_iast hx hb hK hP hD hS 1 1 rfl rfl c2 d_R_goesBack_16 (fun v3 ev3 H locs hP hD hS => ?_)
  have hf := dn_e ev3 hf
  have hP : va_P G.1 classes [(h0, O_R f_raised a_all a_text a_saved a_undone f_undos f_reached f_length f_begin f_sort f_sign f_value f_word f_wrongAt f_badAt f_bad a_told f_read f_side a_pile f_piled a_open f_opened f_joins f_had a_size a_capped a_connected a_bestCost a_bestCrosses a_bestPart a_part a_trees f_treeMany a_nodes f_nodeMany f_moveNode f_movePart f_moveFirst f_moveThen f_moveOther a_out f_outMany a_kept), (a_part, aI G 256 v3)] H := hP
  have hD : va_D A [(h0, O_R f_raised a_all a_text a_saved a_undone f_undos f_reached f_length f_begin f_sort f_sign f_value f_word f_wrongAt f_badAt f_bad a_told f_read f_side a_pile f_piled a_open f_opened f_joins f_had a_size a_capped a_connected a_bestCost a_bestCrosses a_bestPart a_part a_trees f_treeMany a_nodes f_nodeMany f_moveNode f_movePart f_moveFirst f_moveThen f_moveOther a_out f_outMany a_kept), (a_part, aI G 256 v3)] := hD
  refine lv_aload_n hx hb d_R_goesBack_17 rfl (lv_at hl 1 rfl) ?_
  refine va_get (D := G.1) (ci := 12) (v := .ref a_part) (C := n_R) (T := T_R) (N := 44) hx hb htl iw_R hown hK hP 0 rfl rfl 31 (by decide) (htl _ k_1227) (fun _ h9 => h9) rfl d_R_goesBack_18 ?_
  refine lv_aload_n hx hb d_R_goesBack_21 rfl (lv_at hl 1 rfl) ?_
  refine va_get (D := G.1) (ci := 12) (v := .int f_movePart) (C := n_R) (T := T_R) (N := 44) hx hb htl iw_R hown hK hP 0 rfl rfl 37 (by decide) (htl _ k_1233) (fun _ h9 => h9) rfl d_R_goesBack_22 ?_
  refine lv_aload_n hx hb d_R_goesBack_25 rfl (lv_at hl 1 rfl) ?_
  refine va_get (D := G.1) (ci := 12) (v := .int f_moveFirst) (C := n_R) (T := T_R) (N := 44) hx hb htl iw_R hown hK hP 0 rfl rfl 38 (by decide) (htl _ k_1234) (fun _ h9 => h9) rfl d_R_goesBack_26 ?_
  refine lv_aload_n hx hb d_R_goesBack_29 rfl (lv_at hl 1 rfl) ?_
  refine va_get (D := G.1) (ci := 12) (v := .int f_moveThen) (C := n_R) (T := T_R) (N := 44) hx hb htl iw_R hown hK hP 0 rfl rfl 39 (by decide) (htl _ k_1235) (fun _ h9 => h9) rfl d_R_goesBack_30 ?_
  refine call_i (isC := []) (run_S (As := [.int f_moveFirst, .int f_moveThen]) (rest := [.int f_movePart, .ref a_part]) hx hb hml hown htl (c_R_isAheadOf l G Y  f_moveFirst f_moveThen _ rfl) ms_R_isAheadOf k_1431 (hRk (by decide) (by decide)) hK hsk hS hP hD (isC := []) rfl (by decide) rfl hl.1 rfl (lv_room (Nat.le_of_ble_eq_true rfl)) d_R_goesBack_33) hP hD hS rfl rfl (fun H locs hP hD hS => ?_)
  have hP : va_P G.1 classes [(h0, O_R f_raised a_all a_text a_saved a_undone f_undos f_reached f_length f_begin f_sort f_sign f_value f_word f_wrongAt f_badAt f_bad a_told f_read f_side a_pile f_piled a_open f_opened f_joins f_had a_size a_capped a_connected a_bestCost a_bestCrosses a_bestPart a_part a_trees f_treeMany a_nodes f_nodeMany f_moveNode f_movePart f_moveFirst f_moveThen f_moveOther a_out f_outMany a_kept), (a_part, aI G 256 v3)] H := hP
  have hD : va_D A [(h0, O_R f_raised a_all a_text a_saved a_undone f_undos f_reached f_length f_begin f_sort f_sign f_value f_word f_wrongAt f_badAt f_bad a_told f_read f_side a_pile f_piled a_open f_opened f_joins f_had a_size a_capped a_connected a_bestCost a_bestCrosses a_bestPart a_part a_trees f_treeMany a_nodes f_nodeMany f_moveNode f_movePart f_moveFirst f_moveThen f_moveOther a_out f_outMany a_kept), (a_part, aI G 256 v3)] := hD
  refine lv_if_eq (tgt := 46) hx hb d_R_goesBack_36 (by decide) (fun c4 => ?_) (fun c4 => ?_)
  · have hf := di_t c4 hf
    refine lv_aload_n hx hb d_R_goesBack_46 rfl (lv_at hl 1 rfl) ?_
    refine va_get (D := G.1) (ci := 12) (v := .int f_moveThen) (C := n_R) (T := T_R) (N := 44) hx hb htl iw_R hown hK hP 0 rfl rfl 39 (by decide) (htl _ k_1235) (fun _ h9 => h9) rfl d_R_goesBack_47 ?_
    exact hJ50 v3 f_movePart f_moveThen H locs ls ⟨hP, hD, hS⟩ (lv_sub hl [1] rfl) hf
  · have hf := di_f c4 hf
    refine lv_aload_n hx hb d_R_goesBack_39 rfl (lv_at hl 1 rfl) ?_
    refine va_get (D := G.1) (ci := 12) (v := .int f_moveFirst) (C := n_R) (T := T_R) (N := 44) hx hb htl iw_R hown hK hP 0 rfl rfl 38 (by decide) (htl _ k_1234) (fun _ h9 => h9) rfl d_R_goesBack_40 ?_
    refine lv_goto (tgt := 50) hx hb d_R_goesBack_43 (by decide) ?_
    exact hJ50 v3 f_movePart f_moveFirst H locs ls ⟨hP, hD, hS⟩ (lv_sub hl [1] rfl) hf
set_option maxHeartbeats 4000000 in
set_option maxRecDepth 100000 in
theorem c_R_bestMove (l : Launch) (G : va_G × (Nat → ClassId)) (Y : (Nat → Nat) × (Nat → Nat)) (h0 : Nat) (a_all : Nat) (a_text : Nat) (a_saved : Nat) (a_undone : Nat) (a_told : Nat) (a_pile : Nat) (a_open : Nat) (a_size : Nat) (a_capped : Nat) (a_connected : Nat) (a_bestCost : Nat) (a_bestCrosses : Nat) (a_bestPart : Nat) (a_part : Nat) (a_trees : Nat) (a_nodes : Nat) (a_out : Nat) (a_kept : Nat) (f_raised : Int32) (f_undos : Int32) (f_reached : Int32) (f_length : Int32) (f_begin : Int32) (f_sort : Int32) (f_sign : Int32) (f_value : Int32) (f_word : Int64) (f_wrongAt : Int32) (f_badAt : Int32) (f_bad : Int32) (f_read : Int32) (f_side : Int32) (f_piled : Int32) (f_opened : Int32) (f_joins : Int32) (f_had : Int32) (f_treeMany : Int32) (f_nodeMany : Int32) (f_moveNode : Int32) (f_movePart : Int32) (f_moveFirst : Int32) (f_moveThen : Int32) (f_moveOther : Int32) (f_outMany : Int32) (g_all : Nat → Int32) (g_nodes : Nat → Int32) (g_open : Nat → Int32) (g_part : Nat → Int32) (g_size : Nat → Int64) (x1 : Int32) (N : Nat) (res : Int32 × Int32 × Int32 × Int32 × Int32 × Int32 × Int32 × Int32 × (Nat → Int32) × (Nat → Int32) × (Nat → Int32)) (hf : R_bestMove N f_opened f_nodeMany f_moveNode f_movePart f_moveFirst f_moveThen f_moveOther g_all g_nodes g_open g_part g_size x1 = some res) : Ci l classes y_R_bestMove b_R_bestMove 12 (some .int) (rmk 3) G.1 (tyL G) Y [.ref h0, .int x1] [(h0, O_R f_raised a_all a_text a_saved a_undone f_undos f_reached f_length f_begin f_sort f_sign f_value f_word f_wrongAt f_badAt f_bad a_told f_read f_side a_pile f_piled a_open f_opened f_joins f_had a_size a_capped a_connected a_bestCost a_bestCrosses a_bestPart a_part a_trees f_treeMany a_nodes f_nodeMany f_moveNode f_movePart f_moveFirst f_moveThen f_moveOther a_out f_outMany a_kept), (a_all, aI G 1276 g_all), (a_nodes, aI G 8 g_nodes), (a_open, aI G 502 g_open), (a_part, aI G 256 g_part), (a_size, aJ G 256 g_size)] [(h0, O_R f_raised a_all a_text a_saved a_undone f_undos f_reached f_length f_begin f_sort f_sign f_value f_word f_wrongAt f_badAt f_bad a_told f_read f_side a_pile f_piled a_open res.2.1 f_joins f_had a_size a_capped a_connected a_bestCost a_bestCrosses a_bestPart a_part a_trees f_treeMany a_nodes res.2.2.1 res.2.2.2.1 res.2.2.2.2.1 res.2.2.2.2.2.1 res.2.2.2.2.2.2.1 res.2.2.2.2.2.2.2.1 a_out f_outMany a_kept), (a_all, aI G 1276 g_all), (a_nodes, aI G 8 res.2.2.2.2.2.2.2.2.1), (a_open, aI G 502 res.2.2.2.2.2.2.2.2.2.1), (a_part, aI G 256 res.2.2.2.2.2.2.2.2.2.2), (a_size, aJ G 256 g_size)] res.1 := by
  refine entI (by decide) (Nat.le_of_ble_eq_true rfl) ?_
  intro p e s m args below meth c ls A Q hx hb hml hown htl hK hsk wq hl hret
  obtain ⟨hP, hD, hS⟩ := wq
  have hl : lv_has ls 12 [(0, .ref h0), (1, .int x1)] := hl
  have hS : va_S A s.heap s.heap [] := hS
  obtain ⟨H, hH⟩ : ∃ H : Heap, H = s.heap := ⟨_, rfl⟩
  obtain ⟨locs, hlocs⟩ : ∃ z : List Loc, z = [] := ⟨_, rfl⟩
  rw [← hH] at hP
  replace hS : va_S A s.heap H locs := by rw [hH, hlocs]; exact hS
  suffices hgo : W p l e (rmk 3) s m args below meth c H locs 0 0 Q (F0 m 0 ls []) by rw [hH, hlocs] at hgo; exact hgo
  have hJ105 : ∀ (f_opened : Int32) (f_nodeMany : Int32) (f_moveNode : Int32) (f_movePart : Int32) (f_moveFirst : Int32) (f_moveThen : Int32) (f_moveOther : Int32) (g_nodes : Nat → Int32) (g_open : Nat → Int32) (g_part : Nat → Int32) (x2 : Int32) (H : Heap) (locs : List Loc) (ls : Array Slot), PDS G.1 classes A s [(h0, O_R f_raised a_all a_text a_saved a_undone f_undos f_reached f_length f_begin f_sort f_sign f_value f_word f_wrongAt f_badAt f_bad a_told f_read f_side a_pile f_piled a_open f_opened f_joins f_had a_size a_capped a_connected a_bestCost a_bestCrosses a_bestPart a_part a_trees f_treeMany a_nodes f_nodeMany f_moveNode f_movePart f_moveFirst f_moveThen f_moveOther a_out f_outMany a_kept), (a_all, aI G 1276 g_all), (a_nodes, aI G 8 g_nodes), (a_open, aI G 502 g_open), (a_part, aI G 256 g_part), (a_size, aJ G 256 g_size)] H locs → lv_has ls 12 [(2, .int x2)] → R_bestMove_105 N f_opened f_nodeMany f_moveNode f_movePart f_moveFirst f_moveThen f_moveOther g_all g_nodes g_open g_part g_size x2 = some res → W p l e (rmk 3) s m args below meth c H locs 0 0 Q (F0 m 105 ls []) := by
    intro f_opened f_nodeMany f_moveNode f_movePart f_moveFirst f_moveThen f_moveOther g_nodes g_open g_part x2 H locs ls wq hl hf
    obtain ⟨hP, hD, hS⟩ := wq
    refine lv_iload_n hx hb d_R_bestMove_105 rfl (lv_at hl 0 rfl) ?_
    cases hf
    exact hret 106 ls H locs hP hS d_R_bestMove_106
  have hJ28 : ∀ (f_opened : Int32) (f_nodeMany : Int32) (f_moveNode : Int32) (f_movePart : Int32) (f_moveFirst : Int32) (f_moveThen : Int32) (f_moveOther : Int32) (g_nodes : Nat → Int32) (g_open : Nat → Int32) (g_part : Nat → Int32) (x2 : Int32) (x3 : Int32) (x4 : Int64) (x6 : Int32) (x7 : Int32) (H : Heap) (locs : List Loc) (ls : Array Slot), PDS G.1 classes A s [(h0, O_R f_raised a_all a_text a_saved a_undone f_undos f_reached f_length f_begin f_sort f_sign f_value f_word f_wrongAt f_badAt f_bad a_told f_read f_side a_pile f_piled a_open f_opened f_joins f_had a_size a_capped a_connected a_bestCost a_bestCrosses a_bestPart a_part a_trees f_treeMany a_nodes f_nodeMany f_moveNode f_movePart f_moveFirst f_moveThen f_moveOther a_out f_outMany a_kept), (a_all, aI G 1276 g_all), (a_nodes, aI G 8 g_nodes), (a_open, aI G 502 g_open), (a_part, aI G 256 g_part), (a_size, aJ G 256 g_size)] H locs → lv_has ls 12 [(0, .ref h0), (1, .int x1), (2, .int x2), (3, .int x3), (4, .long x4), (6, .int x6), (7, .int x7)] → R_bestMove_28 N f_opened f_nodeMany f_moveNode f_movePart f_moveFirst f_moveThen f_moveOther g_all g_nodes g_open g_part g_size x1 x2 x3 x4 x6 x7 = some res → W p l e (rmk 3) s m args below meth c H locs 0 0 Q (F0 m 28 ls []) := by
    intro f_opened f_nodeMany f_moveNode f_movePart f_moveFirst f_moveThen f_moveOther g_nodes g_open g_part x2 x3 x4 x6 x7 H locs ls wq hl hf
    obtain ⟨hP, hD, hS⟩ := wq
    obtain ⟨y28, hy28, hfo28⟩ := db_e hf
    have hL28 : ∀ (n : Nat) (f_moveNode : Int32) (f_movePart : Int32) (f_moveFirst : Int32) (f_moveThen : Int32) (f_moveOther : Int32) (g_part : Nat → Int32) (x2 : Int32) (x3 : Int32) (x4 : Int64) (x7 : Int32) (H : Heap) (locs : List Loc) (ls : Array Slot), lp (fun x => R_bestMove_b28 N f_opened f_nodeMany x.1 x.2.1 x.2.2.1 x.2.2.2.1 x.2.2.2.2.1 g_all g_nodes g_open x.2.2.2.2.2.1 g_size x1 x.2.2.2.2.2.2.1 x.2.2.2.2.2.2.2.1 x.2.2.2.2.2.2.2.2.1 x6 x.2.2.2.2.2.2.2.2.2) n (f_moveNode, f_movePart, f_moveFirst, f_moveThen, f_moveOther, g_part, x2, x3, x4, x7) = some y28 → PDS G.1 classes A s [(h0, O_R f_raised a_all a_text a_saved a_undone f_undos f_reached f_length f_begin f_sort f_sign f_value f_word f_wrongAt f_badAt f_bad a_told f_read f_side a_pile f_piled a_open f_opened f_joins f_had a_size a_capped a_connected a_bestCost a_bestCrosses a_bestPart a_part a_trees f_treeMany a_nodes f_nodeMany f_moveNode f_movePart f_moveFirst f_moveThen f_moveOther a_out f_outMany a_kept), (a_all, aI G 1276 g_all), (a_nodes, aI G 8 g_nodes), (a_open, aI G 502 g_open), (a_part, aI G 256 g_part), (a_size, aJ G 256 g_size)] H locs → lv_has ls 12 [(0, .ref h0), (1, .int x1), (2, .int x2), (3, .int x3), (4, .long x4), (6, .int x6), (7, .int x7)] → W p l e (rmk 3) s m args below meth c H locs 0 0 Q (F0 m 28 ls []) := by
      intro n
      induction n with
      | zero =>
        intro f_moveNode f_movePart f_moveFirst f_moveThen f_moveOther g_part x2 x3 x4 x7 H locs ls hf
        exact lp_0 hf
      | succ n ih28 =>
        intro f_moveNode f_movePart f_moveFirst f_moveThen f_moveOther g_part x2 x3 x4 x7 H locs ls hf wq hl
        obtain ⟨hP, hD, hS⟩ := wq
        obtain ⟨r28, hf, hk28⟩ := lp_s hf
        have hf : R_bestMove_b28 N f_opened f_nodeMany f_moveNode f_movePart f_moveFirst f_moveThen f_moveOther g_all g_nodes g_open g_part g_size x1 x2 x3 x4 x6 x7 = some r28 := hf
        have hJ89 : ∀ (f_moveNode : Int32) (f_movePart : Int32) (f_moveFirst : Int32) (f_moveThen : Int32) (f_moveOther : Int32) (g_part : Nat → Int32) (x7 : Int32) (x9 : Int32) (x10 : Int64) (H : Heap) (locs : List Loc) (ls : Array Slot), PDS G.1 classes A s [(h0, O_R f_raised a_all a_text a_saved a_undone f_undos f_reached f_length f_begin f_sort f_sign f_value f_word f_wrongAt f_badAt f_bad a_told f_read f_side a_pile f_piled a_open f_opened f_joins f_had a_size a_capped a_connected a_bestCost a_bestCrosses a_bestPart a_part a_trees f_treeMany a_nodes f_nodeMany f_moveNode f_movePart f_moveFirst f_moveThen f_moveOther a_out f_outMany a_kept), (a_all, aI G 1276 g_all), (a_nodes, aI G 8 g_nodes), (a_open, aI G 502 g_open), (a_part, aI G 256 g_part), (a_size, aJ G 256 g_size)] H locs → lv_has ls 12 [(0, .ref h0), (1, .int x1), (6, .int x6), (7, .int x7), (9, .int x9), (10, .long x10)] → R_bestMove_89 N f_opened f_nodeMany f_moveNode f_movePart f_moveFirst f_moveThen f_moveOther g_all g_nodes g_open g_part g_size x1 x6 x7 x9 x10 = some r28 → W p l e (rmk 3) s m args below meth c H locs 0 0 Q (F0 m 89 ls []) := by
          intro f_moveNode f_movePart f_moveFirst f_moveThen f_moveOther g_part x7 x9 x10 H locs ls wq hl hf
          obtain ⟨hP, hD, hS⟩ := wq
          refine lv_iload hx hb d_R_bestMove_89 (lv_at hl 3 rfl) ?_
          refine lv_istore_n (lv' := [(2, .int x7), (0, .ref h0), (1, .int x1), (6, .int x6), (7, .int x7), (9, .int x9), (10, .long x10)]) hx hb d_R_bestMove_91 rfl hl (by decide) rfl (fun ls hl => ?_)
          refine lv_iload hx hb d_R_bestMove_92 (lv_at hl 5 rfl) ?_
          refine lv_istore_n (lv' := [(3, .int x9), (2, .int x7), (0, .ref h0), (1, .int x1), (6, .int x6), (7, .int x7), (9, .int x9), (10, .long x10)]) hx hb d_R_bestMove_94 rfl hl (by decide) rfl (fun ls hl => ?_)
          refine lv_lload hx hb d_R_bestMove_95 (lv_at hl 7 rfl) ?_
          refine lv_lstore (lv' := [(4, .long x10), (3, .int x9), (2, .int x7), (0, .ref h0), (1, .int x1), (6, .int x6), (7, .int x7), (9, .int x9), (10, .long x10)]) hx hb d_R_bestMove_97 hl (by decide) rfl (fun ls hl => ?_)
          obtain ⟨v27, ev27⟩ : ∃ z : Int32, z = x7 + (1 : Int32) := ⟨_, rfl⟩
          have hf := dn_e ev27 hf
          refine lv_iinc (v := v27) (lv' := [(7, .int v27), (4, .long x10), (3, .int x9), (2, .int x7), (0, .ref h0), (1, .int x1), (6, .int x6), (9, .int x9), (10, .long x10)]) hx hb d_R_bestMove_99 hl (k := 6) rfl (by rw [ev27]; rfl) (by decide) rfl (fun ls hl => ?_)
          refine lv_goto (tgt := 28) hx hb d_R_bestMove_102 (by decide) ?_
          exact ih28 f_moveNode f_movePart f_moveFirst f_moveThen f_moveOther g_part x7 x9 x10 v27 H locs ls (lpk_i hf hk28) ⟨hP, hD, hS⟩ (lv_sub hl [4, 5, 3, 2, 1, 6, 0] rfl)
        refine lv_iload hx hb d_R_bestMove_28 (lv_at hl 6 rfl) ?_
        refine lv_iload hx hb d_R_bestMove_30 (lv_at hl 5 rfl) ?_
        refine lv_icmp_ge (tgt := 105) hx hb d_R_bestMove_32 (by decide) (fun c9 => ?_) (fun c9 => ?_)
        · have hf := di_t c9 hf
          have hq28 := lpk_x hf hk28
          have hf := ex_y (f := fun y => R_bestMove_a28 N f_opened f_nodeMany g_all g_nodes g_open g_size x1 x6 y) hq28 hfo28
          have hf : R_bestMove_105 N f_opened f_nodeMany f_moveNode f_movePart f_moveFirst f_moveThen f_moveOther g_all g_nodes g_open g_part g_size x2 = some res := hf
          exact hJ105 f_opened f_nodeMany f_moveNode f_movePart f_moveFirst f_moveThen f_moveOther g_nodes g_open g_part x2 H locs ls ⟨hP, hD, hS⟩ (lv_sub hl [2] rfl) hf
        · have hf := di_f c9 hf
          refine lv_aload_n hx hb d_R_bestMove_35 rfl (lv_at hl 0 rfl) ?_
          refine lv_iload hx hb d_R_bestMove_36 (lv_at hl 6 rfl) ?_
          obtain ⟨t10, hv11, hf⟩ := db_e hf
          refine call_i (isC := [0, 2, 4]) (run_V (As := [.int x7]) (rest := []) (ci := 12) (q0 := 0) hx hb hml hown htl (c_R_isMove l G Y  h0 a_all a_text a_saved a_undone a_told a_pile a_open a_size a_capped a_connected a_bestCost a_bestCrosses a_bestPart a_part a_trees a_nodes a_out a_kept f_raised f_undos f_reached f_length f_begin f_sort f_sign f_value f_word f_wrongAt f_badAt f_bad f_read f_side f_piled f_opened f_joins f_had f_treeMany f_nodeMany f_moveNode f_movePart f_moveFirst f_moveThen f_moveOther f_outMany g_nodes g_part x7 N t10 hv11) mv_R_isMove k_1598 (hRk (by decide) (by decide)) hK hsk hS hP hD (isC := [0, 2, 4]) rfl (by decide) rfl rfl rfl hl.1 rfl (lv_room (Nat.le_of_ble_eq_true rfl)) d_R_bestMove_38) hP hD hS rfl rfl (fun H locs hP hD hS => ?_)
          have hP : va_P G.1 classes [(h0, O_R f_raised a_all a_text a_saved a_undone f_undos f_reached f_length f_begin f_sort f_sign f_value f_word f_wrongAt f_badAt f_bad a_told f_read f_side a_pile f_piled a_open f_opened f_joins f_had a_size a_capped a_connected a_bestCost a_bestCrosses a_bestPart a_part a_trees f_treeMany a_nodes f_nodeMany t10.2.1 t10.2.2.1 t10.2.2.2.1 t10.2.2.2.2.1 t10.2.2.2.2.2 a_out f_outMany a_kept), (a_all, aI G 1276 g_all), (a_nodes, aI G 8 g_nodes), (a_open, aI G 502 g_open), (a_part, aI G 256 g_part), (a_size, aJ G 256 g_size)] H := hP
          have hD : va_D A [(h0, O_R f_raised a_all a_text a_saved a_undone f_undos f_reached f_length f_begin f_sort f_sign f_value f_word f_wrongAt f_badAt f_bad a_told f_read f_side a_pile f_piled a_open f_opened f_joins f_had a_size a_capped a_connected a_bestCost a_bestCrosses a_bestPart a_part a_trees f_treeMany a_nodes f_nodeMany t10.2.1 t10.2.2.1 t10.2.2.2.1 t10.2.2.2.2.1 t10.2.2.2.2.2 a_out f_outMany a_kept), (a_all, aI G 1276 g_all), (a_nodes, aI G 8 g_nodes), (a_open, aI G 502 g_open), (a_part, aI G 256 g_part), (a_size, aJ G 256 g_size)] := hD
          refine lv_istore (lv' := [(8, .int t10.1), (0, .ref h0), (1, .int x1), (2, .int x2), (3, .int x3), (4, .long x4), (6, .int x6), (7, .int x7)]) hx hb d_R_bestMove_41 hl (by decide) rfl (fun ls hl => ?_)
          refine lv_aload_n hx hb d_R_bestMove_43 rfl (lv_at hl 1 rfl) ?_
          obtain ⟨t12, hv13, hf⟩ := db_e hf
          refine call_v (isC := [0, 4]) (run_V (As := []) (rest := []) (ci := 12) (q0 := 0) hx hb hml hown htl (c_R_goes l G Y  h0 a_all a_text a_saved a_undone a_told a_pile a_open a_size a_capped a_connected a_bestCost a_bestCrosses a_bestPart a_part a_trees a_nodes a_out a_kept f_raised f_undos f_reached f_length f_begin f_sort f_sign f_value f_word f_wrongAt f_badAt f_bad f_read f_side f_piled f_opened f_joins f_had f_treeMany f_nodeMany t10.2.1 t10.2.2.1 t10.2.2.2.1 t10.2.2.2.2.1 t10.2.2.2.2.2 f_outMany g_part t12 hv13) mv_R_goes k_1602 (hRk (by decide) (by decide)) hK hsk hS hP hD (isC := [0, 4]) rfl (by decide) rfl rfl rfl hl.1 rfl (lv_room (Nat.le_of_ble_eq_true rfl)) d_R_bestMove_44) hP hD hS rfl rfl (fun H locs hP hD hS => ?_)
          have hP : va_P G.1 classes [(h0, O_R f_raised a_all a_text a_saved a_undone f_undos f_reached f_length f_begin f_sort f_sign f_value f_word f_wrongAt f_badAt f_bad a_told f_read f_side a_pile f_piled a_open f_opened f_joins f_had a_size a_capped a_connected a_bestCost a_bestCrosses a_bestPart a_part a_trees f_treeMany a_nodes f_nodeMany t10.2.1 t10.2.2.1 t10.2.2.2.1 t10.2.2.2.2.1 t10.2.2.2.2.2 a_out f_outMany a_kept), (a_all, aI G 1276 g_all), (a_nodes, aI G 8 g_nodes), (a_open, aI G 502 g_open), (a_part, aI G 256 t12), (a_size, aJ G 256 g_size)] H := hP
          have hD : va_D A [(h0, O_R f_raised a_all a_text a_saved a_undone f_undos f_reached f_length f_begin f_sort f_sign f_value f_word f_wrongAt f_badAt f_bad a_told f_read f_side a_pile f_piled a_open f_opened f_joins f_had a_size a_capped a_connected a_bestCost a_bestCrosses a_bestPart a_part a_trees f_treeMany a_nodes f_nodeMany t10.2.1 t10.2.2.1 t10.2.2.2.1 t10.2.2.2.2.1 t10.2.2.2.2.2 a_out f_outMany a_kept), (a_all, aI G 1276 g_all), (a_nodes, aI G 8 g_nodes), (a_open, aI G 502 g_open), (a_part, aI G 256 t12), (a_size, aJ G 256 g_size)] := hD
          refine lv_aload_n hx hb d_R_bestMove_47 rfl (lv_at hl 1 rfl) ?_
          obtain ⟨t14, hv15, hf⟩ := db_e hf
          refine call_i (isC := [0, 1, 4]) (run_V (As := []) (rest := []) (ci := 12) (q0 := 0) hx hb hml hown htl (c_R_crossesOfParts l G Y  h0 a_all a_text a_saved a_undone a_told a_pile a_open a_size a_capped a_connected a_bestCost a_bestCrosses a_bestPart a_part a_trees a_nodes a_out a_kept f_raised f_undos f_reached f_length f_begin f_sort f_sign f_value f_word f_wrongAt f_badAt f_bad f_read f_side f_piled f_opened f_joins f_had f_treeMany f_nodeMany t10.2.1 t10.2.2.1 t10.2.2.2.1 t10.2.2.2.2.1 t10.2.2.2.2.2 f_outMany g_all t12 N t14 hv15) mv_R_crossesOfParts k_1586 (hRk (by decide) (by decide)) hK hsk hS hP hD (isC := [0, 1, 4]) rfl (by decide) rfl rfl rfl hl.1 rfl (lv_room (Nat.le_of_ble_eq_true rfl)) d_R_bestMove_48) hP hD hS rfl rfl (fun H locs hP hD hS => ?_)
          have hP : va_P G.1 classes [(h0, O_R f_raised a_all a_text a_saved a_undone f_undos f_reached f_length f_begin f_sort f_sign f_value f_word f_wrongAt f_badAt f_bad a_told f_read f_side a_pile f_piled a_open f_opened f_joins f_had a_size a_capped a_connected a_bestCost a_bestCrosses a_bestPart a_part a_trees f_treeMany a_nodes f_nodeMany t10.2.1 t10.2.2.1 t10.2.2.2.1 t10.2.2.2.2.1 t10.2.2.2.2.2 a_out f_outMany a_kept), (a_all, aI G 1276 g_all), (a_nodes, aI G 8 g_nodes), (a_open, aI G 502 g_open), (a_part, aI G 256 t12), (a_size, aJ G 256 g_size)] H := hP
          have hD : va_D A [(h0, O_R f_raised a_all a_text a_saved a_undone f_undos f_reached f_length f_begin f_sort f_sign f_value f_word f_wrongAt f_badAt f_bad a_told f_read f_side a_pile f_piled a_open f_opened f_joins f_had a_size a_capped a_connected a_bestCost a_bestCrosses a_bestPart a_part a_trees f_treeMany a_nodes f_nodeMany t10.2.1 t10.2.2.1 t10.2.2.2.1 t10.2.2.2.2.1 t10.2.2.2.2.2 a_out f_outMany a_kept), (a_all, aI G 1276 g_all), (a_nodes, aI G 8 g_nodes), (a_open, aI G 502 g_open), (a_part, aI G 256 t12), (a_size, aJ G 256 g_size)] := hD
          refine lv_istore (lv' := [(9, .int t14), (8, .int t10.1), (0, .ref h0), (1, .int x1), (2, .int x2), (3, .int x3), (4, .long x4), (6, .int x6), (7, .int x7)]) hx hb d_R_bestMove_51 hl (by decide) rfl (fun ls hl => ?_)
          refine lv_aload_n hx hb d_R_bestMove_53 rfl (lv_at hl 2 rfl) ?_
          refine lv_iload_n hx hb d_R_bestMove_54 rfl (lv_at hl 3 rfl) ?_
          obtain ⟨t16, hv17, hf⟩ := db_e hf
          refine call_l (isC := [0, 4, 5]) (run_V (As := [.int x1]) (rest := []) (ci := 12) (q0 := 0) hx hb hml hown htl (c_R_costOfParts l G Y  h0 a_all a_text a_saved a_undone a_told a_pile a_open a_size a_capped a_connected a_bestCost a_bestCrosses a_bestPart a_part a_trees a_nodes a_out a_kept f_raised f_undos f_reached f_length f_begin f_sort f_sign f_value f_word f_wrongAt f_badAt f_bad f_read f_side f_piled f_opened f_joins f_had f_treeMany f_nodeMany t10.2.1 t10.2.2.1 t10.2.2.2.1 t10.2.2.2.2.1 t10.2.2.2.2.2 f_outMany t12 g_size x1 N t16 hv17) mv_R_costOfParts k_1590 (hRk (by decide) (by decide)) hK hsk hS hP hD (isC := [0, 4, 5]) rfl (by decide) rfl rfl rfl hl.1 rfl (lv_room (Nat.le_of_ble_eq_true rfl)) d_R_bestMove_55) hP hD hS rfl rfl (fun H locs hP hD hS => ?_)
          have hP : va_P G.1 classes [(h0, O_R f_raised a_all a_text a_saved a_undone f_undos f_reached f_length f_begin f_sort f_sign f_value f_word f_wrongAt f_badAt f_bad a_told f_read f_side a_pile f_piled a_open f_opened f_joins f_had a_size a_capped a_connected a_bestCost a_bestCrosses a_bestPart a_part a_trees f_treeMany a_nodes f_nodeMany t10.2.1 t10.2.2.1 t10.2.2.2.1 t10.2.2.2.2.1 t10.2.2.2.2.2 a_out f_outMany a_kept), (a_all, aI G 1276 g_all), (a_nodes, aI G 8 g_nodes), (a_open, aI G 502 g_open), (a_part, aI G 256 t12), (a_size, aJ G 256 g_size)] H := hP
          have hD : va_D A [(h0, O_R f_raised a_all a_text a_saved a_undone f_undos f_reached f_length f_begin f_sort f_sign f_value f_word f_wrongAt f_badAt f_bad a_told f_read f_side a_pile f_piled a_open f_opened f_joins f_had a_size a_capped a_connected a_bestCost a_bestCrosses a_bestPart a_part a_trees f_treeMany a_nodes f_nodeMany t10.2.1 t10.2.2.1 t10.2.2.2.1 t10.2.2.2.2.1 t10.2.2.2.2.2 a_out f_outMany a_kept), (a_all, aI G 1276 g_all), (a_nodes, aI G 8 g_nodes), (a_open, aI G 502 g_open), (a_part, aI G 256 t12), (a_size, aJ G 256 g_size)] := hD
          refine lv_lstore (lv' := [(10, .long t16), (9, .int t14), (8, .int t10.1), (0, .ref h0), (1, .int x1), (2, .int x2), (3, .int x3), (4, .long x4), (6, .int x6), (7, .int x7)]) hx hb d_R_bestMove_58 hl (by decide) rfl (fun ls hl => ?_)
          refine lv_aload_n hx hb d_R_bestMove_60 rfl (lv_at hl 3 rfl) ?_
          obtain ⟨t18, hv19, hf⟩ := db_e hf
          refine call_v (isC := [0, 4]) (run_V (As := []) (rest := []) (ci := 12) (q0 := 0) hx hb hml hown htl (c_R_goesBack l G Y  h0 a_all a_text a_saved a_undone a_told a_pile a_open a_size a_capped a_connected a_bestCost a_bestCrosses a_bestPart a_part a_trees a_nodes a_out a_kept f_raised f_undos f_reached f_length f_begin f_sort f_sign f_value f_word f_wrongAt f_badAt f_bad f_read f_side f_piled f_opened f_joins f_had f_treeMany f_nodeMany t10.2.1 t10.2.2.1 t10.2.2.2.1 t10.2.2.2.2.1 t10.2.2.2.2.2 f_outMany t12 t18 hv19) mv_R_goesBack k_1606 (hRk (by decide) (by decide)) hK hsk hS hP hD (isC := [0, 4]) rfl (by decide) rfl rfl rfl hl.1 rfl (lv_room (Nat.le_of_ble_eq_true rfl)) d_R_bestMove_61) hP hD hS rfl rfl (fun H locs hP hD hS => ?_)
          have hP : va_P G.1 classes [(h0, O_R f_raised a_all a_text a_saved a_undone f_undos f_reached f_length f_begin f_sort f_sign f_value f_word f_wrongAt f_badAt f_bad a_told f_read f_side a_pile f_piled a_open f_opened f_joins f_had a_size a_capped a_connected a_bestCost a_bestCrosses a_bestPart a_part a_trees f_treeMany a_nodes f_nodeMany t10.2.1 t10.2.2.1 t10.2.2.2.1 t10.2.2.2.2.1 t10.2.2.2.2.2 a_out f_outMany a_kept), (a_all, aI G 1276 g_all), (a_nodes, aI G 8 g_nodes), (a_open, aI G 502 g_open), (a_part, aI G 256 t18), (a_size, aJ G 256 g_size)] H := hP
          have hD : va_D A [(h0, O_R f_raised a_all a_text a_saved a_undone f_undos f_reached f_length f_begin f_sort f_sign f_value f_word f_wrongAt f_badAt f_bad a_told f_read f_side a_pile f_piled a_open f_opened f_joins f_had a_size a_capped a_connected a_bestCost a_bestCrosses a_bestPart a_part a_trees f_treeMany a_nodes f_nodeMany t10.2.1 t10.2.2.1 t10.2.2.2.1 t10.2.2.2.2.1 t10.2.2.2.2.2 a_out f_outMany a_kept), (a_all, aI G 1276 g_all), (a_nodes, aI G 8 g_nodes), (a_open, aI G 502 g_open), (a_part, aI G 256 t18), (a_size, aJ G 256 g_size)] := hD
          refine lv_iload hx hb d_R_bestMove_64 (lv_at hl 2 rfl) ?_
          refine lv_if_eq (tgt := 99) hx hb d_R_bestMove_66 (by decide) (fun c20 => ?_) (fun c20 => ?_)
          · have hf := di_t c20 hf
            obtain ⟨v21, ev21⟩ : ∃ z : Int32, z = x7 + (1 : Int32) := ⟨_, rfl⟩
            have hf := dn_e ev21 hf
            refine lv_iinc (v := v21) (lv' := [(7, .int v21), (10, .long t16), (9, .int t14), (8, .int t10.1), (0, .ref h0), (1, .int x1), (2, .int x2), (3, .int x3), (4, .long x4), (6, .int x6)]) hx hb d_R_bestMove_99 hl (k := 9) rfl (by rw [ev21]; rfl) (by decide) rfl (fun ls hl => ?_)
            refine lv_goto (tgt := 28) hx hb d_R_bestMove_102 (by decide) ?_
            exact ih28 t10.2.1 t10.2.2.1 t10.2.2.2.1 t10.2.2.2.2.1 t10.2.2.2.2.2 t18 x2 x3 x4 v21 H locs ls (lpk_i hf hk28) ⟨hP, hD, hS⟩ (lv_sub hl [4, 5, 6, 7, 8, 9, 0] rfl)
          · have hf := di_f c20 hf
            refine lv_iload hx hb d_R_bestMove_69 (lv_at hl 1 rfl) ?_
            refine lv_iload_n hx hb d_R_bestMove_71 rfl (lv_at hl 6 rfl) ?_
            refine lv_icmp_lt (tgt := 89) hx hb d_R_bestMove_72 (by decide) (fun c22 => ?_) (fun c22 => ?_)
            · have hf := di_t c22 hf
              exact hJ89 t10.2.1 t10.2.2.1 t10.2.2.2.1 t10.2.2.2.2.1 t10.2.2.2.2.2 t18 x7 t14 t16 H locs ls ⟨hP, hD, hS⟩ (lv_sub hl [3, 4, 8, 9, 1, 0] rfl) hf
            · have hf := di_f c22 hf
              refine lv_iload hx hb d_R_bestMove_75 (lv_at hl 1 rfl) ?_
              refine lv_iload_n hx hb d_R_bestMove_77 rfl (lv_at hl 6 rfl) ?_
              refine lv_icmp_ne (tgt := 99) hx hb d_R_bestMove_78 (by decide) (fun c23 => ?_) (fun c23 => ?_)
              · have hf := di_f c23 hf
                obtain ⟨v24, ev24⟩ : ∃ z : Int32, z = x7 + (1 : Int32) := ⟨_, rfl⟩
                have hf := dn_e ev24 hf
                refine lv_iinc (v := v24) (lv' := [(7, .int v24), (10, .long t16), (9, .int t14), (8, .int t10.1), (0, .ref h0), (1, .int x1), (2, .int x2), (3, .int x3), (4, .long x4), (6, .int x6)]) hx hb d_R_bestMove_99 hl (k := 9) rfl (by rw [ev24]; rfl) (by decide) rfl (fun ls hl => ?_)
                refine lv_goto (tgt := 28) hx hb d_R_bestMove_102 (by decide) ?_
                exact ih28 t10.2.1 t10.2.2.1 t10.2.2.2.1 t10.2.2.2.2.1 t10.2.2.2.2.2 t18 x2 x3 x4 v24 H locs ls (lpk_i hf hk28) ⟨hP, hD, hS⟩ (lv_sub hl [4, 5, 6, 7, 8, 9, 0] rfl)
              · have hf := di_t c23 hf
                refine lv_lload hx hb d_R_bestMove_81 (lv_at hl 0 rfl) ?_
                refine lv_lload hx hb d_R_bestMove_83 (lv_at hl 7 rfl) ?_
                refine lx_ge (tgt := 99) hx hb d_R_bestMove_85 d_R_bestMove_86 (by decide) (fun c25 => ?_) (fun c25 => ?_)
                · have hf := di_f c25 hf
                  obtain ⟨v26, ev26⟩ : ∃ z : Int32, z = x7 + (1 : Int32) := ⟨_, rfl⟩
                  have hf := dn_e ev26 hf
                  refine lv_iinc (v := v26) (lv' := [(7, .int v26), (10, .long t16), (9, .int t14), (8, .int t10.1), (0, .ref h0), (1, .int x1), (2, .int x2), (3, .int x3), (4, .long x4), (6, .int x6)]) hx hb d_R_bestMove_99 hl (k := 9) rfl (by rw [ev26]; rfl) (by decide) rfl (fun ls hl => ?_)
                  refine lv_goto (tgt := 28) hx hb d_R_bestMove_102 (by decide) ?_
                  exact ih28 t10.2.1 t10.2.2.1 t10.2.2.2.1 t10.2.2.2.2.1 t10.2.2.2.2.2 t18 x2 x3 x4 v26 H locs ls (lpk_i hf hk28) ⟨hP, hD, hS⟩ (lv_sub hl [4, 5, 6, 7, 8, 9, 0] rfl)
                · have hf := di_t c25 hf
                  exact hJ89 t10.2.1 t10.2.2.1 t10.2.2.2.1 t10.2.2.2.2.1 t10.2.2.2.2.2 t18 x7 t14 t16 H locs ls ⟨hP, hD, hS⟩ (lv_sub hl [3, 4, 8, 9, 1, 0] rfl) hf
    exact hL28 N f_moveNode f_movePart f_moveFirst f_moveThen f_moveOther g_part x2 x3 x4 x7 H locs ls hy28 ⟨hP, hD, hS⟩ hl
  refine lv_aload_n hx hb d_R_bestMove_0 rfl (lv_at hl 0 rfl) ?_
  refine lv_iload_n hx hb d_R_bestMove_1 rfl (lv_at hl 1 rfl) ?_
  obtain ⟨t1, hv2, hf⟩ := db_e hf
  refine call_v (isC := [0, 2, 3, 4]) (run_V (As := [.int x1]) (rest := []) (ci := 12) (q0 := 0) hx hb hml hown htl (c_R_laysNodes l G Y  h0 a_all a_text a_saved a_undone a_told a_pile a_open a_size a_capped a_connected a_bestCost a_bestCrosses a_bestPart a_part a_trees a_nodes a_out a_kept f_raised f_undos f_reached f_length f_begin f_sort f_sign f_value f_word f_wrongAt f_badAt f_bad f_read f_side f_piled f_opened f_joins f_had f_treeMany f_nodeMany f_moveNode f_movePart f_moveFirst f_moveThen f_moveOther f_outMany g_nodes g_open g_part x1 N t1 hv2) mv_R_laysNodes k_1582 (hRk (by decide) (by decide)) hK hsk hS hP hD (isC := [0, 2, 3, 4]) rfl (by decide) rfl rfl rfl hl.1 rfl (lv_room (Nat.le_of_ble_eq_true rfl)) d_R_bestMove_2) hP hD hS rfl rfl (fun H locs hP hD hS => ?_)
  have hP : va_P G.1 classes [(h0, O_R f_raised a_all a_text a_saved a_undone f_undos f_reached f_length f_begin f_sort f_sign f_value f_word f_wrongAt f_badAt f_bad a_told f_read f_side a_pile f_piled a_open t1.1 f_joins f_had a_size a_capped a_connected a_bestCost a_bestCrosses a_bestPart a_part a_trees f_treeMany a_nodes t1.2.1 f_moveNode f_movePart f_moveFirst f_moveThen f_moveOther a_out f_outMany a_kept), (a_all, aI G 1276 g_all), (a_nodes, aI G 8 t1.2.2.1), (a_open, aI G 502 t1.2.2.2), (a_part, aI G 256 g_part), (a_size, aJ G 256 g_size)] H := hP
  have hD : va_D A [(h0, O_R f_raised a_all a_text a_saved a_undone f_undos f_reached f_length f_begin f_sort f_sign f_value f_word f_wrongAt f_badAt f_bad a_told f_read f_side a_pile f_piled a_open t1.1 f_joins f_had a_size a_capped a_connected a_bestCost a_bestCrosses a_bestPart a_part a_trees f_treeMany a_nodes t1.2.1 f_moveNode f_movePart f_moveFirst f_moveThen f_moveOther a_out f_outMany a_kept), (a_all, aI G 1276 g_all), (a_nodes, aI G 8 t1.2.2.1), (a_open, aI G 502 t1.2.2.2), (a_part, aI G 256 g_part), (a_size, aJ G 256 g_size)] := hD
  refine lv_iconst (v := (-1 : Int32)) hx hb d_R_bestMove_5 (by decide) ?_
  refine lv_istore_n (lv' := [(2, .int (-1 : Int32)), (0, .ref h0), (1, .int x1)]) hx hb d_R_bestMove_6 rfl hl (by decide) rfl (fun ls hl => ?_)
  refine lv_aload_n hx hb d_R_bestMove_7 rfl (lv_at hl 1 rfl) ?_
  obtain ⟨t3, hv4, hf⟩ := db_e hf
  refine call_i (isC := [0, 1, 4]) (run_V (As := []) (rest := []) (ci := 12) (q0 := 0) hx hb hml hown htl (c_R_crossesOfParts l G Y  h0 a_all a_text a_saved a_undone a_told a_pile a_open a_size a_capped a_connected a_bestCost a_bestCrosses a_bestPart a_part a_trees a_nodes a_out a_kept f_raised f_undos f_reached f_length f_begin f_sort f_sign f_value f_word f_wrongAt f_badAt f_bad f_read f_side f_piled t1.1 f_joins f_had f_treeMany t1.2.1 f_moveNode f_movePart f_moveFirst f_moveThen f_moveOther f_outMany g_all g_part N t3 hv4) mv_R_crossesOfParts k_1586 (hRk (by decide) (by decide)) hK hsk hS hP hD (isC := [0, 1, 4]) rfl (by decide) rfl rfl rfl hl.1 rfl (lv_room (Nat.le_of_ble_eq_true rfl)) d_R_bestMove_8) hP hD hS rfl rfl (fun H locs hP hD hS => ?_)
  have hP : va_P G.1 classes [(h0, O_R f_raised a_all a_text a_saved a_undone f_undos f_reached f_length f_begin f_sort f_sign f_value f_word f_wrongAt f_badAt f_bad a_told f_read f_side a_pile f_piled a_open t1.1 f_joins f_had a_size a_capped a_connected a_bestCost a_bestCrosses a_bestPart a_part a_trees f_treeMany a_nodes t1.2.1 f_moveNode f_movePart f_moveFirst f_moveThen f_moveOther a_out f_outMany a_kept), (a_all, aI G 1276 g_all), (a_nodes, aI G 8 t1.2.2.1), (a_open, aI G 502 t1.2.2.2), (a_part, aI G 256 g_part), (a_size, aJ G 256 g_size)] H := hP
  have hD : va_D A [(h0, O_R f_raised a_all a_text a_saved a_undone f_undos f_reached f_length f_begin f_sort f_sign f_value f_word f_wrongAt f_badAt f_bad a_told f_read f_side a_pile f_piled a_open t1.1 f_joins f_had a_size a_capped a_connected a_bestCost a_bestCrosses a_bestPart a_part a_trees f_treeMany a_nodes t1.2.1 f_moveNode f_movePart f_moveFirst f_moveThen f_moveOther a_out f_outMany a_kept), (a_all, aI G 1276 g_all), (a_nodes, aI G 8 t1.2.2.1), (a_open, aI G 502 t1.2.2.2), (a_part, aI G 256 g_part), (a_size, aJ G 256 g_size)] := hD
  refine lv_istore_n (lv' := [(3, .int t3), (2, .int (-1 : Int32)), (0, .ref h0), (1, .int x1)]) hx hb d_R_bestMove_11 rfl hl (by decide) rfl (fun ls hl => ?_)
  refine lv_aload_n hx hb d_R_bestMove_12 rfl (lv_at hl 2 rfl) ?_
  refine lv_iload_n hx hb d_R_bestMove_13 rfl (lv_at hl 3 rfl) ?_
  obtain ⟨t5, hv6, hf⟩ := db_e hf
  refine call_l (isC := [0, 4, 5]) (run_V (As := [.int x1]) (rest := []) (ci := 12) (q0 := 0) hx hb hml hown htl (c_R_costOfParts l G Y  h0 a_all a_text a_saved a_undone a_told a_pile a_open a_size a_capped a_connected a_bestCost a_bestCrosses a_bestPart a_part a_trees a_nodes a_out a_kept f_raised f_undos f_reached f_length f_begin f_sort f_sign f_value f_word f_wrongAt f_badAt f_bad f_read f_side f_piled t1.1 f_joins f_had f_treeMany t1.2.1 f_moveNode f_movePart f_moveFirst f_moveThen f_moveOther f_outMany g_part g_size x1 N t5 hv6) mv_R_costOfParts k_1590 (hRk (by decide) (by decide)) hK hsk hS hP hD (isC := [0, 4, 5]) rfl (by decide) rfl rfl rfl hl.1 rfl (lv_room (Nat.le_of_ble_eq_true rfl)) d_R_bestMove_14) hP hD hS rfl rfl (fun H locs hP hD hS => ?_)
  have hP : va_P G.1 classes [(h0, O_R f_raised a_all a_text a_saved a_undone f_undos f_reached f_length f_begin f_sort f_sign f_value f_word f_wrongAt f_badAt f_bad a_told f_read f_side a_pile f_piled a_open t1.1 f_joins f_had a_size a_capped a_connected a_bestCost a_bestCrosses a_bestPart a_part a_trees f_treeMany a_nodes t1.2.1 f_moveNode f_movePart f_moveFirst f_moveThen f_moveOther a_out f_outMany a_kept), (a_all, aI G 1276 g_all), (a_nodes, aI G 8 t1.2.2.1), (a_open, aI G 502 t1.2.2.2), (a_part, aI G 256 g_part), (a_size, aJ G 256 g_size)] H := hP
  have hD : va_D A [(h0, O_R f_raised a_all a_text a_saved a_undone f_undos f_reached f_length f_begin f_sort f_sign f_value f_word f_wrongAt f_badAt f_bad a_told f_read f_side a_pile f_piled a_open t1.1 f_joins f_had a_size a_capped a_connected a_bestCost a_bestCrosses a_bestPart a_part a_trees f_treeMany a_nodes t1.2.1 f_moveNode f_movePart f_moveFirst f_moveThen f_moveOther a_out f_outMany a_kept), (a_all, aI G 1276 g_all), (a_nodes, aI G 8 t1.2.2.1), (a_open, aI G 502 t1.2.2.2), (a_part, aI G 256 g_part), (a_size, aJ G 256 g_size)] := hD
  refine lv_lstore (lv' := [(4, .long t5), (3, .int t3), (2, .int (-1 : Int32)), (0, .ref h0), (1, .int x1)]) hx hb d_R_bestMove_17 hl (by decide) rfl (fun ls hl => ?_)
  refine lv_aload_n hx hb d_R_bestMove_19 rfl (lv_at hl 3 rfl) ?_
  obtain ⟨t7, hv8, hf⟩ := db_e hf
  refine call_i (isC := [0, 2, 4]) (run_V (As := []) (rest := []) (ci := 12) (q0 := 0) hx hb hml hown htl (c_R_moveMany l G Y  h0 a_all a_text a_saved a_undone a_told a_pile a_open a_size a_capped a_connected a_bestCost a_bestCrosses a_bestPart a_part a_trees a_nodes a_out a_kept f_raised f_undos f_reached f_length f_begin f_sort f_sign f_value f_word f_wrongAt f_badAt f_bad f_read f_side f_piled t1.1 f_joins f_had f_treeMany t1.2.1 f_moveNode f_movePart f_moveFirst f_moveThen f_moveOther f_outMany t1.2.2.1 g_part N t7 hv8) mv_R_moveMany k_1594 (hRk (by decide) (by decide)) hK hsk hS hP hD (isC := [0, 2, 4]) rfl (by decide) rfl rfl rfl hl.1 rfl (lv_room (Nat.le_of_ble_eq_true rfl)) d_R_bestMove_20) hP hD hS rfl rfl (fun H locs hP hD hS => ?_)
  have hP : va_P G.1 classes [(h0, O_R f_raised a_all a_text a_saved a_undone f_undos f_reached f_length f_begin f_sort f_sign f_value f_word f_wrongAt f_badAt f_bad a_told f_read f_side a_pile f_piled a_open t1.1 f_joins f_had a_size a_capped a_connected a_bestCost a_bestCrosses a_bestPart a_part a_trees f_treeMany a_nodes t1.2.1 t7.2.1 t7.2.2.1 t7.2.2.2.1 t7.2.2.2.2.1 t7.2.2.2.2.2 a_out f_outMany a_kept), (a_all, aI G 1276 g_all), (a_nodes, aI G 8 t1.2.2.1), (a_open, aI G 502 t1.2.2.2), (a_part, aI G 256 g_part), (a_size, aJ G 256 g_size)] H := hP
  have hD : va_D A [(h0, O_R f_raised a_all a_text a_saved a_undone f_undos f_reached f_length f_begin f_sort f_sign f_value f_word f_wrongAt f_badAt f_bad a_told f_read f_side a_pile f_piled a_open t1.1 f_joins f_had a_size a_capped a_connected a_bestCost a_bestCrosses a_bestPart a_part a_trees f_treeMany a_nodes t1.2.1 t7.2.1 t7.2.2.1 t7.2.2.2.1 t7.2.2.2.2.1 t7.2.2.2.2.2 a_out f_outMany a_kept), (a_all, aI G 1276 g_all), (a_nodes, aI G 8 t1.2.2.1), (a_open, aI G 502 t1.2.2.2), (a_part, aI G 256 g_part), (a_size, aJ G 256 g_size)] := hD
  refine lv_istore (lv' := [(6, .int t7.1), (4, .long t5), (3, .int t3), (2, .int (-1 : Int32)), (0, .ref h0), (1, .int x1)]) hx hb d_R_bestMove_23 hl (by decide) rfl (fun ls hl => ?_)
  refine lv_iconst (v := (0 : Int32)) hx hb d_R_bestMove_25 (by decide) ?_
  refine lv_istore (lv' := [(7, .int (0 : Int32)), (6, .int t7.1), (4, .long t5), (3, .int t3), (2, .int (-1 : Int32)), (0, .ref h0), (1, .int x1)]) hx hb d_R_bestMove_26 hl (by decide) rfl (fun ls hl => ?_)
  exact hJ28 t1.1 t1.2.1 t7.2.1 t7.2.2.1 t7.2.2.2.1 t7.2.2.2.2.1 t7.2.2.2.2.2 t1.2.2.1 t1.2.2.2 g_part (-1 : Int32) t3 t5 t7.1 (0 : Int32) H locs ls ⟨hP, hD, hS⟩ (lv_sub hl [5, 6, 4, 3, 2, 1, 0] rfl) hf
set_option maxHeartbeats 4000000 in
set_option maxRecDepth 100000 in
theorem c_R_noPlan (l : Launch) (G : va_G × (Nat → ClassId)) (Y : (Nat → Nat) × (Nat → Nat)) (h0 : Nat) (a_all : Nat) (a_text : Nat) (a_saved : Nat) (a_undone : Nat) (a_told : Nat) (a_pile : Nat) (a_open : Nat) (a_size : Nat) (a_capped : Nat) (a_connected : Nat) (a_bestCost : Nat) (a_bestCrosses : Nat) (a_bestPart : Nat) (a_part : Nat) (a_trees : Nat) (a_nodes : Nat) (a_out : Nat) (a_kept : Nat) (f_raised : Int32) (f_undos : Int32) (f_reached : Int32) (f_length : Int32) (f_begin : Int32) (f_sort : Int32) (f_sign : Int32) (f_value : Int32) (f_word : Int64) (f_wrongAt : Int32) (f_badAt : Int32) (f_bad : Int32) (f_read : Int32) (f_side : Int32) (f_piled : Int32) (f_opened : Int32) (f_joins : Int32) (f_had : Int32) (f_treeMany : Int32) (f_nodeMany : Int32) (f_moveNode : Int32) (f_movePart : Int32) (f_moveFirst : Int32) (f_moveThen : Int32) (f_moveOther : Int32) (f_outMany : Int32) (g_all : Nat → Int32) (N : Nat) (res : (Nat → Int32)) (hf : R_noPlan N g_all = some res) : Cv l classes y_R_noPlan b_R_noPlan 2 none (rmk 0) G.1 (tyL G) Y [.ref h0] [(h0, O_R f_raised a_all a_text a_saved a_undone f_undos f_reached f_length f_begin f_sort f_sign f_value f_word f_wrongAt f_badAt f_bad a_told f_read f_side a_pile f_piled a_open f_opened f_joins f_had a_size a_capped a_connected a_bestCost a_bestCrosses a_bestPart a_part a_trees f_treeMany a_nodes f_nodeMany f_moveNode f_movePart f_moveFirst f_moveThen f_moveOther a_out f_outMany a_kept), (a_all, aI G 1276 g_all)] [(h0, O_R f_raised a_all a_text a_saved a_undone f_undos f_reached f_length f_begin f_sort f_sign f_value f_word f_wrongAt f_badAt f_bad a_told f_read f_side a_pile f_piled a_open f_opened f_joins f_had a_size a_capped a_connected a_bestCost a_bestCrosses a_bestPart a_part a_trees f_treeMany a_nodes f_nodeMany f_moveNode f_movePart f_moveFirst f_moveThen f_moveOther a_out f_outMany a_kept), (a_all, aI G 1276 res)] := by
  refine entV (by decide) (Nat.le_of_ble_eq_true rfl) ?_
  intro p e s m args below meth c ls A Q hx hb hml hown htl hK hsk wq hl hret
  obtain ⟨hP, hD, hS⟩ := wq
  have hl : lv_has ls 2 [(0, .ref h0)] := hl
  have hS : va_S A s.heap s.heap [] := hS
  obtain ⟨H, hH⟩ : ∃ H : Heap, H = s.heap := ⟨_, rfl⟩
  obtain ⟨locs, hlocs⟩ : ∃ z : List Loc, z = [] := ⟨_, rfl⟩
  rw [← hH] at hP
  replace hS : va_S A s.heap H locs := by rw [hH, hlocs]; exact hS
  suffices hgo : W p l e (rmk 0) s m args below meth c H locs 0 0 Q (F0 m 0 ls []) by rw [hH, hlocs] at hgo; exact hgo
  have hJ23 : ∀ (g_all : Nat → Int32) (H : Heap) (locs : List Loc) (ls : Array Slot), PDS G.1 classes A s [(h0, O_R f_raised a_all a_text a_saved a_undone f_undos f_reached f_length f_begin f_sort f_sign f_value f_word f_wrongAt f_badAt f_bad a_told f_read f_side a_pile f_piled a_open f_opened f_joins f_had a_size a_capped a_connected a_bestCost a_bestCrosses a_bestPart a_part a_trees f_treeMany a_nodes f_nodeMany f_moveNode f_movePart f_moveFirst f_moveThen f_moveOther a_out f_outMany a_kept), (a_all, aI G 1276 g_all)] H locs → lv_has ls 2 [] → R_noPlan_23 N g_all = some res → W p l e (rmk 0) s m args below meth c H locs 0 0 Q (F0 m 23 ls []) := by
    intro g_all H locs ls wq hl hf
    obtain ⟨hP, hD, hS⟩ := wq
    cases hf
    exact hret 23 ls H locs hP hS d_R_noPlan_23
  have hJ3 : ∀ (g_all : Nat → Int32) (x1 : Int32) (H : Heap) (locs : List Loc) (ls : Array Slot), PDS G.1 classes A s [(h0, O_R f_raised a_all a_text a_saved a_undone f_undos f_reached f_length f_begin f_sort f_sign f_value f_word f_wrongAt f_badAt f_bad a_told f_read f_side a_pile f_piled a_open f_opened f_joins f_had a_size a_capped a_connected a_bestCost a_bestCrosses a_bestPart a_part a_trees f_treeMany a_nodes f_nodeMany f_moveNode f_movePart f_moveFirst f_moveThen f_moveOther a_out f_outMany a_kept), (a_all, aI G 1276 g_all)] H locs → lv_has ls 2 [(0, .ref h0), (1, .int x1)] → R_noPlan_3 N g_all x1 = some res → W p l e (rmk 0) s m args below meth c H locs 0 0 Q (F0 m 3 ls []) := by
    intro g_all x1 H locs ls wq hl hf
    obtain ⟨hP, hD, hS⟩ := wq
    obtain ⟨y3, hy3, hfo3⟩ := db_e hf
    have hL3 : ∀ (n : Nat) (g_all : Nat → Int32) (x1 : Int32) (H : Heap) (locs : List Loc) (ls : Array Slot), lp (fun x => R_noPlan_b3 N x.1 x.2) n (g_all, x1) = some y3 → PDS G.1 classes A s [(h0, O_R f_raised a_all a_text a_saved a_undone f_undos f_reached f_length f_begin f_sort f_sign f_value f_word f_wrongAt f_badAt f_bad a_told f_read f_side a_pile f_piled a_open f_opened f_joins f_had a_size a_capped a_connected a_bestCost a_bestCrosses a_bestPart a_part a_trees f_treeMany a_nodes f_nodeMany f_moveNode f_movePart f_moveFirst f_moveThen f_moveOther a_out f_outMany a_kept), (a_all, aI G 1276 g_all)] H locs → lv_has ls 2 [(0, .ref h0), (1, .int x1)] → W p l e (rmk 0) s m args below meth c H locs 0 0 Q (F0 m 3 ls []) := by
      intro n
      induction n with
      | zero =>
        intro g_all x1 H locs ls hf
        exact lp_0 hf
      | succ n ih3 =>
        intro g_all x1 H locs ls hf wq hl
        obtain ⟨hP, hD, hS⟩ := wq
        obtain ⟨r3, hf, hk3⟩ := lp_s hf
        have hf : R_noPlan_b3 N g_all x1 = some r3 := hf
        refine lv_iload_n hx hb d_R_noPlan_3 rfl (lv_at hl 1 rfl) ?_
        refine lv_sipush (v := (316 : Int32)) hx hb d_R_noPlan_4 (by decide) ?_
        refine lv_icmp_ge (tgt := 23) hx hb d_R_noPlan_7 (by decide) (fun c1 => ?_) (fun c1 => ?_)
        · have hf := di_t c1 hf
          have hq3 := lpk_x hf hk3
          have hf := ex_y (f := fun y => R_noPlan_a3 N  y) hq3 hfo3
          have hf : R_noPlan_23 N g_all = some res := hf
          exact hJ23 g_all H locs ls ⟨hP, hD, hS⟩ (lv_sub hl [] rfl) hf
        · have hf := di_f c1 hf
          refine lv_aload_n hx hb d_R_noPlan_10 rfl (lv_at hl 0 rfl) ?_
          refine va_get (D := G.1) (ci := 12) (v := .ref a_all) (C := n_R) (T := T_R) (N := 44) hx hb htl iw_R hown hK hP 0 rfl rfl 1 (by decide) (htl _ k_1197) (fun _ h9 => h9) rfl d_R_noPlan_11 ?_
          refine lv_iload_n hx hb d_R_noPlan_14 rfl (lv_at hl 1 rfl) ?_
          refine lv_iconst (v := (0 : Int32)) hx hb d_R_noPlan_15 (by decide) ?_
          obtain ⟨c2, hf⟩ := dk_e hf
          refine nx_iast hx hb hK hP hD hS 1 1 rfl rfl c2 d_R_noPlan_16 (fun v3 ev3 H locs hP hD hS => ?_)
          have hf := dn_e ev3 hf
          have hP : va_P G.1 classes [(h0, O_R f_raised a_all a_text a_saved a_undone f_undos f_reached f_length f_begin f_sort f_sign f_value f_word f_wrongAt f_badAt f_bad a_told f_read f_side a_pile f_piled a_open f_opened f_joins f_had a_size a_capped a_connected a_bestCost a_bestCrosses a_bestPart a_part a_trees f_treeMany a_nodes f_nodeMany f_moveNode f_movePart f_moveFirst f_moveThen f_moveOther a_out f_outMany a_kept), (a_all, aI G 1276 v3)] H := hP
          have hD : va_D A [(h0, O_R f_raised a_all a_text a_saved a_undone f_undos f_reached f_length f_begin f_sort f_sign f_value f_word f_wrongAt f_badAt f_bad a_told f_read f_side a_pile f_piled a_open f_opened f_joins f_had a_size a_capped a_connected a_bestCost a_bestCrosses a_bestPart a_part a_trees f_treeMany a_nodes f_nodeMany f_moveNode f_movePart f_moveFirst f_moveThen f_moveOther a_out f_outMany a_kept), (a_all, aI G 1276 v3)] := hD
          obtain ⟨v4, ev4⟩ : ∃ z : Int32, z = x1 + (1 : Int32) := ⟨_, rfl⟩
          have hf := dn_e ev4 hf
          refine lv_iinc (v := v4) (lv' := [(1, .int v4), (0, .ref h0)]) hx hb d_R_noPlan_17 hl (k := 1) rfl (by rw [ev4]; rfl) (by decide) rfl (fun ls hl => ?_)
          refine lv_goto (tgt := 3) hx hb d_R_noPlan_20 (by decide) ?_
          exact ih3 v3 v4 H locs ls (lpk_i hf hk3) ⟨hP, hD, hS⟩ (lv_sub hl [1, 0] rfl)
    exact hL3 N g_all x1 H locs ls hy3 ⟨hP, hD, hS⟩ hl
  refine lv_bipush (v := (59 : Int32)) hx hb d_R_noPlan_0 (by decide) ?_
  refine lv_istore_n (lv' := [(1, .int (59 : Int32)), (0, .ref h0)]) hx hb d_R_noPlan_2 rfl hl (by decide) rfl (fun ls hl => ?_)
  exact hJ3 g_all (59 : Int32) H locs ls ⟨hP, hD, hS⟩ (lv_sub hl [1, 0] rfl) hf
set_option maxHeartbeats 4000000 in
set_option maxRecDepth 100000 in
theorem c_R_isRelation (l : Launch) (G : va_G × (Nat → ClassId)) (Y : (Nat → Nat) × (Nat → Nat)) (h0 : Nat) (a_all : Nat) (a_text : Nat) (a_saved : Nat) (a_undone : Nat) (a_told : Nat) (a_pile : Nat) (a_open : Nat) (a_size : Nat) (a_capped : Nat) (a_connected : Nat) (a_bestCost : Nat) (a_bestCrosses : Nat) (a_bestPart : Nat) (a_part : Nat) (a_trees : Nat) (a_nodes : Nat) (a_out : Nat) (a_kept : Nat) (f_raised : Int32) (f_undos : Int32) (f_reached : Int32) (f_length : Int32) (f_begin : Int32) (f_sort : Int32) (f_sign : Int32) (f_value : Int32) (f_word : Int64) (f_wrongAt : Int32) (f_badAt : Int32) (f_bad : Int32) (f_read : Int32) (f_side : Int32) (f_piled : Int32) (f_opened : Int32) (f_joins : Int32) (f_had : Int32) (f_treeMany : Int32) (f_nodeMany : Int32) (f_moveNode : Int32) (f_movePart : Int32) (f_moveFirst : Int32) (f_moveThen : Int32) (f_moveOther : Int32) (f_outMany : Int32) (g_all : Nat → Int32) (x1 : Int32) (res : Int32) (hf : R_isRelation g_all x1 = some res) : Ci l classes y_R_isRelation b_R_isRelation 2 (some .boolean) (rmk 1) G.1 (tyL G) Y [.ref h0, .int x1] [(h0, O_R f_raised a_all a_text a_saved a_undone f_undos f_reached f_length f_begin f_sort f_sign f_value f_word f_wrongAt f_badAt f_bad a_told f_read f_side a_pile f_piled a_open f_opened f_joins f_had a_size a_capped a_connected a_bestCost a_bestCrosses a_bestPart a_part a_trees f_treeMany a_nodes f_nodeMany f_moveNode f_movePart f_moveFirst f_moveThen f_moveOther a_out f_outMany a_kept), (a_all, aI G 1276 g_all)] [(h0, O_R f_raised a_all a_text a_saved a_undone f_undos f_reached f_length f_begin f_sort f_sign f_value f_word f_wrongAt f_badAt f_bad a_told f_read f_side a_pile f_piled a_open f_opened f_joins f_had a_size a_capped a_connected a_bestCost a_bestCrosses a_bestPart a_part a_trees f_treeMany a_nodes f_nodeMany f_moveNode f_movePart f_moveFirst f_moveThen f_moveOther a_out f_outMany a_kept), (a_all, aI G 1276 g_all)] res := by
  refine entZ (by decide) (Nat.le_of_ble_eq_true rfl) ?_
  intro p e s m args below meth c ls A Q hx hb hml hown htl hK hsk wq hl hret
  obtain ⟨hP, hD, hS⟩ := wq
  have hl : lv_has ls 2 [(0, .ref h0), (1, .int x1)] := hl
  have hS : va_S A s.heap s.heap [] := hS
  obtain ⟨H, hH⟩ : ∃ H : Heap, H = s.heap := ⟨_, rfl⟩
  obtain ⟨locs, hlocs⟩ : ∃ z : List Loc, z = [] := ⟨_, rfl⟩
  rw [← hH] at hP
  replace hS : va_S A s.heap H locs := by rw [hH, hlocs]; exact hS
  suffices hgo : W p l e (rmk 1) s m args below meth c H locs 0 0 Q (F0 m 0 ls []) by rw [hH, hlocs] at hgo; exact hgo
  refine lv_iload_n hx hb d_R_isRelation_0 rfl (lv_at hl 1 rfl) ?_
  refine lv_i2l hx hb d_R_isRelation_1 rfl ?_
  refine lv_lconst (v := (0 : Int64)) hx hb d_R_isRelation_2 (by decide) ?_
  refine lv_aload_n hx hb d_R_isRelation_3 rfl (lv_at hl 0 rfl) ?_
  refine va_get (D := G.1) (ci := 12) (v := .ref a_all) (C := n_R) (T := T_R) (N := 44) hx hb htl iw_R hown hK hP 0 rfl rfl 1 (by decide) (htl _ k_1197) (fun _ h9 => h9) rfl d_R_isRelation_4 ?_
  refine lv_iconst (v := (0 : Int32)) hx hb d_R_isRelation_7 (by decide) ?_
  refine va_iald hx hb hK hP 1 1 rfl rfl (vp_lit (by decide)) d_R_isRelation_8 ?_
  refine lv_iconst (v := (1 : Int32)) hx hb d_R_isRelation_9 (by decide) ?_
  refine lv_isub hx hb d_R_isRelation_10 ?_
  refine lv_i2l hx hb d_R_isRelation_11 rfl ?_
  refine call_i (isC := []) (run_S (As := [.long x1.toInt64, .long (0 : Int64), .long (((g_all (0 : Int32).toNatClampNeg) - (1 : Int32)).toInt64)]) (rest := []) hx hb hml hown htl (c_R_in l G Y  x1.toInt64 (0 : Int64) (((g_all (0 : Int32).toNatClampNeg) - (1 : Int32)).toInt64) _ rfl) ms_R_in k_1356 (hRk (by decide) (by decide)) hK hsk hS hP hD (isC := []) rfl (by decide) rfl hl.1 rfl (lv_room (Nat.le_of_ble_eq_true rfl)) d_R_isRelation_12) hP hD hS rfl rfl (fun H locs hP hD hS => ?_)
  have hP : va_P G.1 classes [(h0, O_R f_raised a_all a_text a_saved a_undone f_undos f_reached f_length f_begin f_sort f_sign f_value f_word f_wrongAt f_badAt f_bad a_told f_read f_side a_pile f_piled a_open f_opened f_joins f_had a_size a_capped a_connected a_bestCost a_bestCrosses a_bestPart a_part a_trees f_treeMany a_nodes f_nodeMany f_moveNode f_movePart f_moveFirst f_moveThen f_moveOther a_out f_outMany a_kept), (a_all, aI G 1276 g_all)] H := hP
  have hD : va_D A [(h0, O_R f_raised a_all a_text a_saved a_undone f_undos f_reached f_length f_begin f_sort f_sign f_value f_word f_wrongAt f_badAt f_bad a_told f_read f_side a_pile f_piled a_open f_opened f_joins f_had a_size a_capped a_connected a_bestCost a_bestCrosses a_bestPart a_part a_trees f_treeMany a_nodes f_nodeMany f_moveNode f_movePart f_moveFirst f_moveThen f_moveOther a_out f_outMany a_kept), (a_all, aI G 1276 g_all)] := hD
  obtain ⟨c1, hf⟩ := dk_e hf
  cases hf
  exact hret 15 ls H locs c1 hP hS d_R_isRelation_15
set_option maxHeartbeats 4000000 in
set_option maxRecDepth 100000 in
theorem c_R_isEdge (l : Launch) (G : va_G × (Nat → ClassId)) (Y : (Nat → Nat) × (Nat → Nat)) (h0 : Nat) (a_all : Nat) (a_text : Nat) (a_saved : Nat) (a_undone : Nat) (a_told : Nat) (a_pile : Nat) (a_open : Nat) (a_size : Nat) (a_capped : Nat) (a_connected : Nat) (a_bestCost : Nat) (a_bestCrosses : Nat) (a_bestPart : Nat) (a_part : Nat) (a_trees : Nat) (a_nodes : Nat) (a_out : Nat) (a_kept : Nat) (f_raised : Int32) (f_undos : Int32) (f_reached : Int32) (f_length : Int32) (f_begin : Int32) (f_sort : Int32) (f_sign : Int32) (f_value : Int32) (f_word : Int64) (f_wrongAt : Int32) (f_badAt : Int32) (f_bad : Int32) (f_read : Int32) (f_side : Int32) (f_piled : Int32) (f_opened : Int32) (f_joins : Int32) (f_had : Int32) (f_treeMany : Int32) (f_nodeMany : Int32) (f_moveNode : Int32) (f_movePart : Int32) (f_moveFirst : Int32) (f_moveThen : Int32) (f_moveOther : Int32) (f_outMany : Int32) (g_all : Nat → Int32) (x1 : Int32) (res : Int32) (hf : R_isEdge g_all x1 = some res) : Ci l classes y_R_isEdge b_R_isEdge 2 (some .boolean) (rmk 1) G.1 (tyL G) Y [.ref h0, .int x1] [(h0, O_R f_raised a_all a_text a_saved a_undone f_undos f_reached f_length f_begin f_sort f_sign f_value f_word f_wrongAt f_badAt f_bad a_told f_read f_side a_pile f_piled a_open f_opened f_joins f_had a_size a_capped a_connected a_bestCost a_bestCrosses a_bestPart a_part a_trees f_treeMany a_nodes f_nodeMany f_moveNode f_movePart f_moveFirst f_moveThen f_moveOther a_out f_outMany a_kept), (a_all, aI G 1276 g_all)] [(h0, O_R f_raised a_all a_text a_saved a_undone f_undos f_reached f_length f_begin f_sort f_sign f_value f_word f_wrongAt f_badAt f_bad a_told f_read f_side a_pile f_piled a_open f_opened f_joins f_had a_size a_capped a_connected a_bestCost a_bestCrosses a_bestPart a_part a_trees f_treeMany a_nodes f_nodeMany f_moveNode f_movePart f_moveFirst f_moveThen f_moveOther a_out f_outMany a_kept), (a_all, aI G 1276 g_all)] res := by
  refine entZ (by decide) (Nat.le_of_ble_eq_true rfl) ?_
  intro p e s m args below meth c ls A Q hx hb hml hown htl hK hsk wq hl hret
  obtain ⟨hP, hD, hS⟩ := wq
  have hl : lv_has ls 2 [(0, .ref h0), (1, .int x1)] := hl
  have hS : va_S A s.heap s.heap [] := hS
  obtain ⟨H, hH⟩ : ∃ H : Heap, H = s.heap := ⟨_, rfl⟩
  obtain ⟨locs, hlocs⟩ : ∃ z : List Loc, z = [] := ⟨_, rfl⟩
  rw [← hH] at hP
  replace hS : va_S A s.heap H locs := by rw [hH, hlocs]; exact hS
  suffices hgo : W p l e (rmk 1) s m args below meth c H locs 0 0 Q (F0 m 0 ls []) by rw [hH, hlocs] at hgo; exact hgo
  refine lv_iload_n hx hb d_R_isEdge_0 rfl (lv_at hl 1 rfl) ?_
  refine lv_i2l hx hb d_R_isEdge_1 rfl ?_
  refine lv_lconst (v := (0 : Int64)) hx hb d_R_isEdge_2 (by decide) ?_
  refine lv_aload_n hx hb d_R_isEdge_3 rfl (lv_at hl 0 rfl) ?_
  refine va_get (D := G.1) (ci := 12) (v := .ref a_all) (C := n_R) (T := T_R) (N := 44) hx hb htl iw_R hown hK hP 0 rfl rfl 1 (by decide) (htl _ k_1197) (fun _ h9 => h9) rfl d_R_isEdge_4 ?_
  refine lv_bipush (v := (9 : Int32)) hx hb d_R_isEdge_7 (by decide) ?_
  refine va_iald hx hb hK hP 1 1 rfl rfl (vp_lit (by decide)) d_R_isEdge_9 ?_
  refine lv_iconst (v := (1 : Int32)) hx hb d_R_isEdge_10 (by decide) ?_
  refine lv_isub hx hb d_R_isEdge_11 ?_
  refine lv_i2l hx hb d_R_isEdge_12 rfl ?_
  refine call_i (isC := []) (run_S (As := [.long x1.toInt64, .long (0 : Int64), .long (((g_all (9 : Int32).toNatClampNeg) - (1 : Int32)).toInt64)]) (rest := []) hx hb hml hown htl (c_R_in l G Y  x1.toInt64 (0 : Int64) (((g_all (9 : Int32).toNatClampNeg) - (1 : Int32)).toInt64) _ rfl) ms_R_in k_1356 (hRk (by decide) (by decide)) hK hsk hS hP hD (isC := []) rfl (by decide) rfl hl.1 rfl (lv_room (Nat.le_of_ble_eq_true rfl)) d_R_isEdge_13) hP hD hS rfl rfl (fun H locs hP hD hS => ?_)
  have hP : va_P G.1 classes [(h0, O_R f_raised a_all a_text a_saved a_undone f_undos f_reached f_length f_begin f_sort f_sign f_value f_word f_wrongAt f_badAt f_bad a_told f_read f_side a_pile f_piled a_open f_opened f_joins f_had a_size a_capped a_connected a_bestCost a_bestCrosses a_bestPart a_part a_trees f_treeMany a_nodes f_nodeMany f_moveNode f_movePart f_moveFirst f_moveThen f_moveOther a_out f_outMany a_kept), (a_all, aI G 1276 g_all)] H := hP
  have hD : va_D A [(h0, O_R f_raised a_all a_text a_saved a_undone f_undos f_reached f_length f_begin f_sort f_sign f_value f_word f_wrongAt f_badAt f_bad a_told f_read f_side a_pile f_piled a_open f_opened f_joins f_had a_size a_capped a_connected a_bestCost a_bestCrosses a_bestPart a_part a_trees f_treeMany a_nodes f_nodeMany f_moveNode f_movePart f_moveFirst f_moveThen f_moveOther a_out f_outMany a_kept), (a_all, aI G 1276 g_all)] := hD
  obtain ⟨c1, hf⟩ := dk_e hf
  cases hf
  exact hret 16 ls H locs c1 hP hS d_R_isEdge_16
set_option maxHeartbeats 4000000 in
set_option maxRecDepth 100000 in
theorem c_R_add (l : Launch) (G : va_G × (Nat → ClassId)) (Y : (Nat → Nat) × (Nat → Nat)) (h0 : Nat) (a_all : Nat) (a_text : Nat) (a_saved : Nat) (a_undone : Nat) (a_told : Nat) (a_pile : Nat) (a_open : Nat) (a_size : Nat) (a_capped : Nat) (a_connected : Nat) (a_bestCost : Nat) (a_bestCrosses : Nat) (a_bestPart : Nat) (a_part : Nat) (a_trees : Nat) (a_nodes : Nat) (a_out : Nat) (a_kept : Nat) (f_raised : Int32) (f_undos : Int32) (f_reached : Int32) (f_length : Int32) (f_begin : Int32) (f_sort : Int32) (f_sign : Int32) (f_value : Int32) (f_word : Int64) (f_wrongAt : Int32) (f_badAt : Int32) (f_bad : Int32) (f_read : Int32) (f_side : Int32) (f_piled : Int32) (f_opened : Int32) (f_joins : Int32) (f_had : Int32) (f_treeMany : Int32) (f_nodeMany : Int32) (f_moveNode : Int32) (f_movePart : Int32) (f_moveFirst : Int32) (f_moveThen : Int32) (f_moveOther : Int32) (f_outMany : Int32) (g_all : Nat → Int32) (g_undone : Nat → Int32) (x1 : Int32) (N : Nat) (res : Int32 × Int32 × Int32 × (Nat → Int32) × (Nat → Int32)) (hf : R_add N f_raised f_undos g_all g_undone x1 = some res) : Ci l classes y_R_add b_R_add 2 (some .int) (rmk 1) G.1 (tyL G) Y [.ref h0, .int x1] [(h0, O_R f_raised a_all a_text a_saved a_undone f_undos f_reached f_length f_begin f_sort f_sign f_value f_word f_wrongAt f_badAt f_bad a_told f_read f_side a_pile f_piled a_open f_opened f_joins f_had a_size a_capped a_connected a_bestCost a_bestCrosses a_bestPart a_part a_trees f_treeMany a_nodes f_nodeMany f_moveNode f_movePart f_moveFirst f_moveThen f_moveOther a_out f_outMany a_kept), (a_all, aI G 1276 g_all), (a_undone, aI G 2528 g_undone)] [(h0, O_R res.2.1 a_all a_text a_saved a_undone res.2.2.1 f_reached f_length f_begin f_sort f_sign f_value f_word f_wrongAt f_badAt f_bad a_told f_read f_side a_pile f_piled a_open f_opened f_joins f_had a_size a_capped a_connected a_bestCost a_bestCrosses a_bestPart a_part a_trees f_treeMany a_nodes f_nodeMany f_moveNode f_movePart f_moveFirst f_moveThen f_moveOther a_out f_outMany a_kept), (a_all, aI G 1276 res.2.2.2.1), (a_undone, aI G 2528 res.2.2.2.2)] res.1 := by
  refine entI (by decide) (Nat.le_of_ble_eq_true rfl) ?_
  intro p e s m args below meth c ls A Q hx hb hml hown htl hK hsk wq hl hret
  obtain ⟨hP, hD, hS⟩ := wq
  have hl : lv_has ls 2 [(0, .ref h0), (1, .int x1)] := hl
  have hS : va_S A s.heap s.heap [] := hS
  obtain ⟨H, hH⟩ : ∃ H : Heap, H = s.heap := ⟨_, rfl⟩
  obtain ⟨locs, hlocs⟩ : ∃ z : List Loc, z = [] := ⟨_, rfl⟩
  rw [← hH] at hP
  replace hS : va_S A s.heap H locs := by rw [hH, hlocs]; exact hS
  suffices hgo : W p l e (rmk 1) s m args below meth c H locs 0 0 Q (F0 m 0 ls []) by rw [hH, hlocs] at hgo; exact hgo
  refine lv_aload_n hx hb d_R_add_0 rfl (lv_at hl 0 rfl) ?_
  refine lv_iconst (v := (0 : Int32)) hx hb d_R_add_1 (by decide) ?_
  refine va_put (D := G.1) (ci := 12) (v := .int (0 : Int32)) (ty := .int) (C := n_R) (T := T_R) (N := 44) hx hb htl iw_R ty_R ty_R_ok nm_R hown hK hP hD hS 0 rfl rfl 0 (by decide) (htl _ k_1196) (fun _ h9 => h9) rfl (by decide +kernel) rfl rfl (Nat.le_of_ble_eq_true rfl) d_R_add_2 (fun H locs hP hD hS => ?_)
  have hP : va_P G.1 classes [(h0, O_R (0 : Int32) a_all a_text a_saved a_undone f_undos f_reached f_length f_begin f_sort f_sign f_value f_word f_wrongAt f_badAt f_bad a_told f_read f_side a_pile f_piled a_open f_opened f_joins f_had a_size a_capped a_connected a_bestCost a_bestCrosses a_bestPart a_part a_trees f_treeMany a_nodes f_nodeMany f_moveNode f_movePart f_moveFirst f_moveThen f_moveOther a_out f_outMany a_kept), (a_all, aI G 1276 g_all), (a_undone, aI G 2528 g_undone)] H := hP
  have hD : va_D A [(h0, O_R (0 : Int32) a_all a_text a_saved a_undone f_undos f_reached f_length f_begin f_sort f_sign f_value f_word f_wrongAt f_badAt f_bad a_told f_read f_side a_pile f_piled a_open f_opened f_joins f_had a_size a_capped a_connected a_bestCost a_bestCrosses a_bestPart a_part a_trees f_treeMany a_nodes f_nodeMany f_moveNode f_movePart f_moveFirst f_moveThen f_moveOther a_out f_outMany a_kept), (a_all, aI G 1276 g_all), (a_undone, aI G 2528 g_undone)] := hD
  refine lv_iload_n hx hb d_R_add_5 rfl (lv_at hl 1 rfl) ?_
  refine lv_i2l hx hb d_R_add_6 rfl ?_
  refine lv_lconst (v := (1 : Int64)) hx hb d_R_add_7 (by decide) ?_
  refine lv_ldc2 (v := (1000000 : Int64)) hx hb hown (htl _ k_1445) d_R_add_8 ?_
  refine call_i (isC := []) (run_S (As := [.long x1.toInt64, .long (1 : Int64), .long (1000000 : Int64)]) (rest := []) hx hb hml hown htl (c_R_in l G Y  x1.toInt64 (1 : Int64) (1000000 : Int64) _ rfl) ms_R_in k_1356 (hRk (by decide) (by decide)) hK hsk hS hP hD (isC := []) rfl (by decide) rfl hl.1 rfl (lv_room (Nat.le_of_ble_eq_true rfl)) d_R_add_11) hP hD hS rfl rfl (fun H locs hP hD hS => ?_)
  have hP : va_P G.1 classes [(h0, O_R (0 : Int32) a_all a_text a_saved a_undone f_undos f_reached f_length f_begin f_sort f_sign f_value f_word f_wrongAt f_badAt f_bad a_told f_read f_side a_pile f_piled a_open f_opened f_joins f_had a_size a_capped a_connected a_bestCost a_bestCrosses a_bestPart a_part a_trees f_treeMany a_nodes f_nodeMany f_moveNode f_movePart f_moveFirst f_moveThen f_moveOther a_out f_outMany a_kept), (a_all, aI G 1276 g_all), (a_undone, aI G 2528 g_undone)] H := hP
  have hD : va_D A [(h0, O_R (0 : Int32) a_all a_text a_saved a_undone f_undos f_reached f_length f_begin f_sort f_sign f_value f_word f_wrongAt f_badAt f_bad a_told f_read f_side a_pile f_piled a_open f_opened f_joins f_had a_size a_capped a_connected a_bestCost a_bestCrosses a_bestPart a_part a_trees f_treeMany a_nodes f_nodeMany f_moveNode f_movePart f_moveFirst f_moveThen f_moveOther a_out f_outMany a_kept), (a_all, aI G 1276 g_all), (a_undone, aI G 2528 g_undone)] := hD
  refine lv_if_eq (tgt := 28) hx hb d_R_add_14 (by decide) (fun c1 => ?_) (fun c1 => ?_)
  · have hf := di_t c1 hf
    refine lv_iconst (v := (-1 : Int32)) hx hb d_R_add_28 (by decide) ?_
    cases hf
    exact hret 29 ls H locs hP hS d_R_add_29
  · have hf := di_f c1 hf
    refine lv_aload_n hx hb d_R_add_17 rfl (lv_at hl 0 rfl) ?_
    refine va_get (D := G.1) (ci := 12) (v := .ref a_all) (C := n_R) (T := T_R) (N := 44) hx hb htl iw_R hown hK hP 0 rfl rfl 1 (by decide) (htl _ k_1197) (fun _ h9 => h9) rfl d_R_add_18 ?_
    refine lv_iconst (v := (0 : Int32)) hx hb d_R_add_21 (by decide) ?_
    refine va_iald hx hb hK hP 1 1 rfl rfl (vp_lit (by decide)) d_R_add_22 ?_
    refine lv_bipush (v := (8 : Int32)) hx hb d_R_add_23 (by decide) ?_
    refine lv_icmp_ne (tgt := 30) hx hb d_R_add_25 (by decide) (fun c2 => ?_) (fun c2 => ?_)
    · have hf := di_f c2 hf
      refine lv_aload_n hx hb d_R_add_30 rfl (lv_at hl 0 rfl) ?_
      obtain ⟨t3, hv4, hf⟩ := db_e hf
      refine call_v (isC := [0, 1, 2]) (run_V (As := []) (rest := []) (ci := 12) (q0 := 0) hx hb hml hown htl (c_R_keeps l G Y  h0 a_all a_text a_saved a_undone a_told a_pile a_open a_size a_capped a_connected a_bestCost a_bestCrosses a_bestPart a_part a_trees a_nodes a_out a_kept (0 : Int32) f_undos f_reached f_length f_begin f_sort f_sign f_value f_word f_wrongAt f_badAt f_bad f_read f_side f_piled f_opened f_joins f_had f_treeMany f_nodeMany f_moveNode f_movePart f_moveFirst f_moveThen f_moveOther f_outMany g_all g_undone N t3 hv4) mv_R_keeps k_1437 (hRk (by decide) (by decide)) hK hsk hS hP hD (isC := [0, 1, 2]) rfl (by decide) rfl rfl rfl hl.1 rfl (lv_room (Nat.le_of_ble_eq_true rfl)) d_R_add_31) hP hD hS rfl rfl (fun H locs hP hD hS => ?_)
      have hP : va_P G.1 classes [(h0, O_R (0 : Int32) a_all a_text a_saved a_undone t3.1 f_reached f_length f_begin f_sort f_sign f_value f_word f_wrongAt f_badAt f_bad a_told f_read f_side a_pile f_piled a_open f_opened f_joins f_had a_size a_capped a_connected a_bestCost a_bestCrosses a_bestPart a_part a_trees f_treeMany a_nodes f_nodeMany f_moveNode f_movePart f_moveFirst f_moveThen f_moveOther a_out f_outMany a_kept), (a_all, aI G 1276 g_all), (a_undone, aI G 2528 t3.2)] H := hP
      have hD : va_D A [(h0, O_R (0 : Int32) a_all a_text a_saved a_undone t3.1 f_reached f_length f_begin f_sort f_sign f_value f_word f_wrongAt f_badAt f_bad a_told f_read f_side a_pile f_piled a_open f_opened f_joins f_had a_size a_capped a_connected a_bestCost a_bestCrosses a_bestPart a_part a_trees f_treeMany a_nodes f_nodeMany f_moveNode f_movePart f_moveFirst f_moveThen f_moveOther a_out f_outMany a_kept), (a_all, aI G 1276 g_all), (a_undone, aI G 2528 t3.2)] := hD
      refine lv_aload_n hx hb d_R_add_34 rfl (lv_at hl 0 rfl) ?_
      obtain ⟨t5, hv6, hf⟩ := db_e hf
      refine call_v (isC := [0, 1]) (run_V (As := []) (rest := []) (ci := 12) (q0 := 0) hx hb hml hown htl (c_R_noPlan l G Y  h0 a_all a_text a_saved a_undone a_told a_pile a_open a_size a_capped a_connected a_bestCost a_bestCrosses a_bestPart a_part a_trees a_nodes a_out a_kept (0 : Int32) t3.1 f_reached f_length f_begin f_sort f_sign f_value f_word f_wrongAt f_badAt f_bad f_read f_side f_piled f_opened f_joins f_had f_treeMany f_nodeMany f_moveNode f_movePart f_moveFirst f_moveThen f_moveOther f_outMany g_all N t5 hv6) mv_R_noPlan k_1446 (hRk (by decide) (by decide)) hK hsk hS hP hD (isC := [0, 1]) rfl (by decide) rfl rfl rfl hl.1 rfl (lv_room (Nat.le_of_ble_eq_true rfl)) d_R_add_35) hP hD hS rfl rfl (fun H locs hP hD hS => ?_)
      have hP : va_P G.1 classes [(h0, O_R (0 : Int32) a_all a_text a_saved a_undone t3.1 f_reached f_length f_begin f_sort f_sign f_value f_word f_wrongAt f_badAt f_bad a_told f_read f_side a_pile f_piled a_open f_opened f_joins f_had a_size a_capped a_connected a_bestCost a_bestCrosses a_bestPart a_part a_trees f_treeMany a_nodes f_nodeMany f_moveNode f_movePart f_moveFirst f_moveThen f_moveOther a_out f_outMany a_kept), (a_all, aI G 1276 t5), (a_undone, aI G 2528 t3.2)] H := hP
      have hD : va_D A [(h0, O_R (0 : Int32) a_all a_text a_saved a_undone t3.1 f_reached f_length f_begin f_sort f_sign f_value f_word f_wrongAt f_badAt f_bad a_told f_read f_side a_pile f_piled a_open f_opened f_joins f_had a_size a_capped a_connected a_bestCost a_bestCrosses a_bestPart a_part a_trees f_treeMany a_nodes f_nodeMany f_moveNode f_movePart f_moveFirst f_moveThen f_moveOther a_out f_outMany a_kept), (a_all, aI G 1276 t5), (a_undone, aI G 2528 t3.2)] := hD
      refine lv_aload_n hx hb d_R_add_38 rfl (lv_at hl 0 rfl) ?_
      refine va_get (D := G.1) (ci := 12) (v := .ref a_all) (C := n_R) (T := T_R) (N := 44) hx hb htl iw_R hown hK hP 0 rfl rfl 1 (by decide) (htl _ k_1197) (fun _ h9 => h9) rfl d_R_add_39 ?_
      refine lv_iconst (v := (1 : Int32)) hx hb d_R_add_42 (by decide) ?_
      refine lv_aload_n hx hb d_R_add_43 rfl (lv_at hl 0 rfl) ?_
      refine va_get (D := G.1) (ci := 12) (v := .ref a_all) (C := n_R) (T := T_R) (N := 44) hx hb htl iw_R hown hK hP 0 rfl rfl 1 (by decide) (htl _ k_1197) (fun _ h9 => h9) rfl d_R_add_44 ?_
      refine lv_iconst (v := (0 : Int32)) hx hb d_R_add_47 (by decide) ?_
      refine va_iald hx hb hK hP 1 1 rfl rfl (vp_lit (by decide)) d_R_add_48 ?_
      refine lv_iadd hx hb d_R_add_49 ?_
      refine lv_iload_n hx hb d_R_add_50 rfl (lv_at hl 1 rfl) ?_
      obtain ⟨c7, hf⟩ := dk_e hf
      refine nx_iast hx hb hK hP hD hS 1 1 rfl rfl c7 d_R_add_51 (fun v8 ev8 H locs hP hD hS => ?_)
      have hf := dn_e ev8 hf
      have hP : va_P G.1 classes [(h0, O_R (0 : Int32) a_all a_text a_saved a_undone t3.1 f_reached f_length f_begin f_sort f_sign f_value f_word f_wrongAt f_badAt f_bad a_told f_read f_side a_pile f_piled a_open f_opened f_joins f_had a_size a_capped a_connected a_bestCost a_bestCrosses a_bestPart a_part a_trees f_treeMany a_nodes f_nodeMany f_moveNode f_movePart f_moveFirst f_moveThen f_moveOther a_out f_outMany a_kept), (a_all, aI G 1276 v8), (a_undone, aI G 2528 t3.2)] H := hP
      have hD : va_D A [(h0, O_R (0 : Int32) a_all a_text a_saved a_undone t3.1 f_reached f_length f_begin f_sort f_sign f_value f_word f_wrongAt f_badAt f_bad a_told f_read f_side a_pile f_piled a_open f_opened f_joins f_had a_size a_capped a_connected a_bestCost a_bestCrosses a_bestPart a_part a_trees f_treeMany a_nodes f_nodeMany f_moveNode f_movePart f_moveFirst f_moveThen f_moveOther a_out f_outMany a_kept), (a_all, aI G 1276 v8), (a_undone, aI G 2528 t3.2)] := hD
      refine lv_aload_n hx hb d_R_add_52 rfl (lv_at hl 0 rfl) ?_
      refine va_get (D := G.1) (ci := 12) (v := .ref a_all) (C := n_R) (T := T_R) (N := 44) hx hb htl iw_R hown hK hP 0 rfl rfl 1 (by decide) (htl _ k_1197) (fun _ h9 => h9) rfl d_R_add_53 ?_
      refine lv_iconst (v := (0 : Int32)) hx hb d_R_add_56 (by decide) ?_
      refine lv_dup2_11 hx hb d_R_add_57 rfl rfl ?_
      refine va_iald hx hb hK hP 1 1 rfl rfl (vp_lit (by decide)) d_R_add_58 ?_
      refine lv_iconst (v := (1 : Int32)) hx hb d_R_add_59 (by decide) ?_
      refine lv_iadd hx hb d_R_add_60 ?_
      refine nx_iast hx hb hK hP hD hS 1 1 rfl rfl (vp_lit (by decide)) d_R_add_61 (fun v9 ev9 H locs hP hD hS => ?_)
      have hf := dn_e ev9 hf
      have hP : va_P G.1 classes [(h0, O_R (0 : Int32) a_all a_text a_saved a_undone t3.1 f_reached f_length f_begin f_sort f_sign f_value f_word f_wrongAt f_badAt f_bad a_told f_read f_side a_pile f_piled a_open f_opened f_joins f_had a_size a_capped a_connected a_bestCost a_bestCrosses a_bestPart a_part a_trees f_treeMany a_nodes f_nodeMany f_moveNode f_movePart f_moveFirst f_moveThen f_moveOther a_out f_outMany a_kept), (a_all, aI G 1276 v9), (a_undone, aI G 2528 t3.2)] H := hP
      have hD : va_D A [(h0, O_R (0 : Int32) a_all a_text a_saved a_undone t3.1 f_reached f_length f_begin f_sort f_sign f_value f_word f_wrongAt f_badAt f_bad a_told f_read f_side a_pile f_piled a_open f_opened f_joins f_had a_size a_capped a_connected a_bestCost a_bestCrosses a_bestPart a_part a_trees f_treeMany a_nodes f_nodeMany f_moveNode f_movePart f_moveFirst f_moveThen f_moveOther a_out f_outMany a_kept), (a_all, aI G 1276 v9), (a_undone, aI G 2528 t3.2)] := hD
      refine lv_aload_n hx hb d_R_add_62 rfl (lv_at hl 0 rfl) ?_
      refine va_get (D := G.1) (ci := 12) (v := .ref a_all) (C := n_R) (T := T_R) (N := 44) hx hb htl iw_R hown hK hP 0 rfl rfl 1 (by decide) (htl _ k_1197) (fun _ h9 => h9) rfl d_R_add_63 ?_
      refine lv_iconst (v := (0 : Int32)) hx hb d_R_add_66 (by decide) ?_
      refine va_iald hx hb hK hP 1 1 rfl rfl (vp_lit (by decide)) d_R_add_67 ?_
      refine lv_iconst (v := (1 : Int32)) hx hb d_R_add_68 (by decide) ?_
      refine lv_isub hx hb d_R_add_69 ?_
      cases hf
      exact hret 70 ls H locs hP hS d_R_add_70
    · have hf := di_t c2 hf
      refine lv_iconst (v := (-1 : Int32)) hx hb d_R_add_28 (by decide) ?_
      cases hf
      exact hret 29 ls H locs hP hS d_R_add_29
set_option maxHeartbeats 4000000 in
set_option maxRecDepth 100000 in
theorem c_R_rows (l : Launch) (G : va_G × (Nat → ClassId)) (Y : (Nat → Nat) × (Nat → Nat)) (h0 : Nat) (a_all : Nat) (a_text : Nat) (a_saved : Nat) (a_undone : Nat) (a_told : Nat) (a_pile : Nat) (a_open : Nat) (a_size : Nat) (a_capped : Nat) (a_connected : Nat) (a_bestCost : Nat) (a_bestCrosses : Nat) (a_bestPart : Nat) (a_part : Nat) (a_trees : Nat) (a_nodes : Nat) (a_out : Nat) (a_kept : Nat) (f_raised : Int32) (f_undos : Int32) (f_reached : Int32) (f_length : Int32) (f_begin : Int32) (f_sort : Int32) (f_sign : Int32) (f_value : Int32) (f_word : Int64) (f_wrongAt : Int32) (f_badAt : Int32) (f_bad : Int32) (f_read : Int32) (f_side : Int32) (f_piled : Int32) (f_opened : Int32) (f_joins : Int32) (f_had : Int32) (f_treeMany : Int32) (f_nodeMany : Int32) (f_moveNode : Int32) (f_movePart : Int32) (f_moveFirst : Int32) (f_moveThen : Int32) (f_moveOther : Int32) (f_outMany : Int32) (g_all : Nat → Int32) (g_undone : Nat → Int32) (x1 : Int32) (x2 : Int32) (N : Nat) (res : Int32 × Int32 × Int32 × (Nat → Int32) × (Nat → Int32)) (hf : R_rows N f_raised f_undos g_all g_undone x1 x2 = some res) : Ci l classes y_R_rows b_R_rows 3 (some .boolean) (rmk 2) G.1 (tyL G) Y [.ref h0, .int x1, .int x2] [(h0, O_R f_raised a_all a_text a_saved a_undone f_undos f_reached f_length f_begin f_sort f_sign f_value f_word f_wrongAt f_badAt f_bad a_told f_read f_side a_pile f_piled a_open f_opened f_joins f_had a_size a_capped a_connected a_bestCost a_bestCrosses a_bestPart a_part a_trees f_treeMany a_nodes f_nodeMany f_moveNode f_movePart f_moveFirst f_moveThen f_moveOther a_out f_outMany a_kept), (a_all, aI G 1276 g_all), (a_undone, aI G 2528 g_undone)] [(h0, O_R res.2.1 a_all a_text a_saved a_undone res.2.2.1 f_reached f_length f_begin f_sort f_sign f_value f_word f_wrongAt f_badAt f_bad a_told f_read f_side a_pile f_piled a_open f_opened f_joins f_had a_size a_capped a_connected a_bestCost a_bestCrosses a_bestPart a_part a_trees f_treeMany a_nodes f_nodeMany f_moveNode f_movePart f_moveFirst f_moveThen f_moveOther a_out f_outMany a_kept), (a_all, aI G 1276 res.2.2.2.1), (a_undone, aI G 2528 res.2.2.2.2)] res.1 := by
  refine entZ (by decide) (Nat.le_of_ble_eq_true rfl) ?_
  intro p e s m args below meth c ls A Q hx hb hml hown htl hK hsk wq hl hret
  obtain ⟨hP, hD, hS⟩ := wq
  have hl : lv_has ls 3 [(0, .ref h0), (1, .int x1), (2, .int x2)] := hl
  have hS : va_S A s.heap s.heap [] := hS
  obtain ⟨H, hH⟩ : ∃ H : Heap, H = s.heap := ⟨_, rfl⟩
  obtain ⟨locs, hlocs⟩ : ∃ z : List Loc, z = [] := ⟨_, rfl⟩
  rw [← hH] at hP
  replace hS : va_S A s.heap H locs := by rw [hH, hlocs]; exact hS
  suffices hgo : W p l e (rmk 2) s m args below meth c H locs 0 0 Q (F0 m 0 ls []) by rw [hH, hlocs] at hgo; exact hgo
  refine lv_aload_n hx hb d_R_rows_0 rfl (lv_at hl 0 rfl) ?_
  refine lv_iconst (v := (0 : Int32)) hx hb d_R_rows_1 (by decide) ?_
  refine va_put (D := G.1) (ci := 12) (v := .int (0 : Int32)) (ty := .int) (C := n_R) (T := T_R) (N := 44) hx hb htl iw_R ty_R ty_R_ok nm_R hown hK hP hD hS 0 rfl rfl 0 (by decide) (htl _ k_1196) (fun _ h9 => h9) rfl (by decide +kernel) rfl rfl (Nat.le_of_ble_eq_true rfl) d_R_rows_2 (fun H locs hP hD hS => ?_)
  have hP : va_P G.1 classes [(h0, O_R (0 : Int32) a_all a_text a_saved a_undone f_undos f_reached f_length f_begin f_sort f_sign f_value f_word f_wrongAt f_badAt f_bad a_told f_read f_side a_pile f_piled a_open f_opened f_joins f_had a_size a_capped a_connected a_bestCost a_bestCrosses a_bestPart a_part a_trees f_treeMany a_nodes f_nodeMany f_moveNode f_movePart f_moveFirst f_moveThen f_moveOther a_out f_outMany a_kept), (a_all, aI G 1276 g_all), (a_undone, aI G 2528 g_undone)] H := hP
  have hD : va_D A [(h0, O_R (0 : Int32) a_all a_text a_saved a_undone f_undos f_reached f_length f_begin f_sort f_sign f_value f_word f_wrongAt f_badAt f_bad a_told f_read f_side a_pile f_piled a_open f_opened f_joins f_had a_size a_capped a_connected a_bestCost a_bestCrosses a_bestPart a_part a_trees f_treeMany a_nodes f_nodeMany f_moveNode f_movePart f_moveFirst f_moveThen f_moveOther a_out f_outMany a_kept), (a_all, aI G 1276 g_all), (a_undone, aI G 2528 g_undone)] := hD
  refine lv_aload_n hx hb d_R_rows_5 rfl (lv_at hl 0 rfl) ?_
  refine lv_iload_n hx hb d_R_rows_6 rfl (lv_at hl 1 rfl) ?_
  obtain ⟨t1, hv2, hf⟩ := db_e hf
  refine call_i (isC := [0, 1]) (run_V (As := [.int x1]) (rest := []) (ci := 12) (q0 := 0) hx hb hml hown htl (c_R_isRelation l G Y  h0 a_all a_text a_saved a_undone a_told a_pile a_open a_size a_capped a_connected a_bestCost a_bestCrosses a_bestPart a_part a_trees a_nodes a_out a_kept (0 : Int32) f_undos f_reached f_length f_begin f_sort f_sign f_value f_word f_wrongAt f_badAt f_bad f_read f_side f_piled f_opened f_joins f_had f_treeMany f_nodeMany f_moveNode f_movePart f_moveFirst f_moveThen f_moveOther f_outMany g_all x1 t1 hv2) mv_R_isRelation k_1454 (hRk (by decide) (by decide)) hK hsk hS hP hD (isC := [0, 1]) rfl (by decide) rfl rfl rfl hl.1 rfl (lv_room (Nat.le_of_ble_eq_true rfl)) d_R_rows_7) hP hD hS rfl rfl (fun H locs hP hD hS => ?_)
  have hP : va_P G.1 classes [(h0, O_R (0 : Int32) a_all a_text a_saved a_undone f_undos f_reached f_length f_begin f_sort f_sign f_value f_word f_wrongAt f_badAt f_bad a_told f_read f_side a_pile f_piled a_open f_opened f_joins f_had a_size a_capped a_connected a_bestCost a_bestCrosses a_bestPart a_part a_trees f_treeMany a_nodes f_nodeMany f_moveNode f_movePart f_moveFirst f_moveThen f_moveOther a_out f_outMany a_kept), (a_all, aI G 1276 g_all), (a_undone, aI G 2528 g_undone)] H := hP
  have hD : va_D A [(h0, O_R (0 : Int32) a_all a_text a_saved a_undone f_undos f_reached f_length f_begin f_sort f_sign f_value f_word f_wrongAt f_badAt f_bad a_told f_read f_side a_pile f_piled a_open f_opened f_joins f_had a_size a_capped a_connected a_bestCost a_bestCrosses a_bestPart a_part a_trees f_treeMany a_nodes f_nodeMany f_moveNode f_movePart f_moveFirst f_moveThen f_moveOther a_out f_outMany a_kept), (a_all, aI G 1276 g_all), (a_undone, aI G 2528 g_undone)] := hD
  refine lv_if_eq (tgt := 37) hx hb d_R_rows_10 (by decide) (fun c3 => ?_) (fun c3 => ?_)
  · have hf := di_t c3 hf
    refine lv_iconst (v := (0 : Int32)) hx hb d_R_rows_37 (by decide) ?_
    cases hf
    exact hret 38 ls H locs z_0 hP hS d_R_rows_38
  · have hf := di_f c3 hf
    refine lv_iload_n hx hb d_R_rows_13 rfl (lv_at hl 2 rfl) ?_
    refine lv_i2l hx hb d_R_rows_14 rfl ?_
    refine lv_lconst (v := (1 : Int64)) hx hb d_R_rows_15 (by decide) ?_
    refine lv_ldc2 (v := (1000000 : Int64)) hx hb hown (htl _ k_1445) d_R_rows_16 ?_
    refine call_i (isC := []) (run_S (As := [.long x2.toInt64, .long (1 : Int64), .long (1000000 : Int64)]) (rest := []) hx hb hml hown htl (c_R_in l G Y  x2.toInt64 (1 : Int64) (1000000 : Int64) _ rfl) ms_R_in k_1356 (hRk (by decide) (by decide)) hK hsk hS hP hD (isC := []) rfl (by decide) rfl hl.1 rfl (lv_room (Nat.le_of_ble_eq_true rfl)) d_R_rows_19) hP hD hS rfl rfl (fun H locs hP hD hS => ?_)
    have hP : va_P G.1 classes [(h0, O_R (0 : Int32) a_all a_text a_saved a_undone f_undos f_reached f_length f_begin f_sort f_sign f_value f_word f_wrongAt f_badAt f_bad a_told f_read f_side a_pile f_piled a_open f_opened f_joins f_had a_size a_capped a_connected a_bestCost a_bestCrosses a_bestPart a_part a_trees f_treeMany a_nodes f_nodeMany f_moveNode f_movePart f_moveFirst f_moveThen f_moveOther a_out f_outMany a_kept), (a_all, aI G 1276 g_all), (a_undone, aI G 2528 g_undone)] H := hP
    have hD : va_D A [(h0, O_R (0 : Int32) a_all a_text a_saved a_undone f_undos f_reached f_length f_begin f_sort f_sign f_value f_word f_wrongAt f_badAt f_bad a_told f_read f_side a_pile f_piled a_open f_opened f_joins f_had a_size a_capped a_connected a_bestCost a_bestCrosses a_bestPart a_part a_trees f_treeMany a_nodes f_nodeMany f_moveNode f_movePart f_moveFirst f_moveThen f_moveOther a_out f_outMany a_kept), (a_all, aI G 1276 g_all), (a_undone, aI G 2528 g_undone)] := hD
    refine lv_if_eq (tgt := 37) hx hb d_R_rows_22 (by decide) (fun c4 => ?_) (fun c4 => ?_)
    · have hf := di_t c4 hf
      refine lv_iconst (v := (0 : Int32)) hx hb d_R_rows_37 (by decide) ?_
      cases hf
      exact hret 38 ls H locs z_0 hP hS d_R_rows_38
    · have hf := di_f c4 hf
      refine lv_aload_n hx hb d_R_rows_25 rfl (lv_at hl 0 rfl) ?_
      refine va_get (D := G.1) (ci := 12) (v := .ref a_all) (C := n_R) (T := T_R) (N := 44) hx hb htl iw_R hown hK hP 0 rfl rfl 1 (by decide) (htl _ k_1197) (fun _ h9 => h9) rfl d_R_rows_26 ?_
      refine lv_iconst (v := (1 : Int32)) hx hb d_R_rows_29 (by decide) ?_
      refine lv_iload_n hx hb d_R_rows_30 rfl (lv_at hl 1 rfl) ?_
      refine lv_iadd hx hb d_R_rows_31 ?_
      obtain ⟨c5, hf⟩ := dk_e hf
      refine va_iald hx hb hK hP 1 1 rfl rfl c5 d_R_rows_32 ?_
      refine lv_iload_n hx hb d_R_rows_33 rfl (lv_at hl 2 rfl) ?_
      refine lv_icmp_ne (tgt := 39) hx hb d_R_rows_34 (by decide) (fun c6 => ?_) (fun c6 => ?_)
      · have hf := di_f c6 hf
        refine lv_aload_n hx hb d_R_rows_39 rfl (lv_at hl 0 rfl) ?_
        obtain ⟨t7, hv8, hf⟩ := db_e hf
        refine call_v (isC := [0, 1, 2]) (run_V (As := []) (rest := []) (ci := 12) (q0 := 0) hx hb hml hown htl (c_R_keeps l G Y  h0 a_all a_text a_saved a_undone a_told a_pile a_open a_size a_capped a_connected a_bestCost a_bestCrosses a_bestPart a_part a_trees a_nodes a_out a_kept (0 : Int32) f_undos f_reached f_length f_begin f_sort f_sign f_value f_word f_wrongAt f_badAt f_bad f_read f_side f_piled f_opened f_joins f_had f_treeMany f_nodeMany f_moveNode f_movePart f_moveFirst f_moveThen f_moveOther f_outMany g_all g_undone N t7 hv8) mv_R_keeps k_1437 (hRk (by decide) (by decide)) hK hsk hS hP hD (isC := [0, 1, 2]) rfl (by decide) rfl rfl rfl hl.1 rfl (lv_room (Nat.le_of_ble_eq_true rfl)) d_R_rows_40) hP hD hS rfl rfl (fun H locs hP hD hS => ?_)
        have hP : va_P G.1 classes [(h0, O_R (0 : Int32) a_all a_text a_saved a_undone t7.1 f_reached f_length f_begin f_sort f_sign f_value f_word f_wrongAt f_badAt f_bad a_told f_read f_side a_pile f_piled a_open f_opened f_joins f_had a_size a_capped a_connected a_bestCost a_bestCrosses a_bestPart a_part a_trees f_treeMany a_nodes f_nodeMany f_moveNode f_movePart f_moveFirst f_moveThen f_moveOther a_out f_outMany a_kept), (a_all, aI G 1276 g_all), (a_undone, aI G 2528 t7.2)] H := hP
        have hD : va_D A [(h0, O_R (0 : Int32) a_all a_text a_saved a_undone t7.1 f_reached f_length f_begin f_sort f_sign f_value f_word f_wrongAt f_badAt f_bad a_told f_read f_side a_pile f_piled a_open f_opened f_joins f_had a_size a_capped a_connected a_bestCost a_bestCrosses a_bestPart a_part a_trees f_treeMany a_nodes f_nodeMany f_moveNode f_movePart f_moveFirst f_moveThen f_moveOther a_out f_outMany a_kept), (a_all, aI G 1276 g_all), (a_undone, aI G 2528 t7.2)] := hD
        refine lv_aload_n hx hb d_R_rows_43 rfl (lv_at hl 0 rfl) ?_
        obtain ⟨t9, hv10, hf⟩ := db_e hf
        refine call_v (isC := [0, 1]) (run_V (As := []) (rest := []) (ci := 12) (q0 := 0) hx hb hml hown htl (c_R_noPlan l G Y  h0 a_all a_text a_saved a_undone a_told a_pile a_open a_size a_capped a_connected a_bestCost a_bestCrosses a_bestPart a_part a_trees a_nodes a_out a_kept (0 : Int32) t7.1 f_reached f_length f_begin f_sort f_sign f_value f_word f_wrongAt f_badAt f_bad f_read f_side f_piled f_opened f_joins f_had f_treeMany f_nodeMany f_moveNode f_movePart f_moveFirst f_moveThen f_moveOther f_outMany g_all N t9 hv10) mv_R_noPlan k_1446 (hRk (by decide) (by decide)) hK hsk hS hP hD (isC := [0, 1]) rfl (by decide) rfl rfl rfl hl.1 rfl (lv_room (Nat.le_of_ble_eq_true rfl)) d_R_rows_44) hP hD hS rfl rfl (fun H locs hP hD hS => ?_)
        have hP : va_P G.1 classes [(h0, O_R (0 : Int32) a_all a_text a_saved a_undone t7.1 f_reached f_length f_begin f_sort f_sign f_value f_word f_wrongAt f_badAt f_bad a_told f_read f_side a_pile f_piled a_open f_opened f_joins f_had a_size a_capped a_connected a_bestCost a_bestCrosses a_bestPart a_part a_trees f_treeMany a_nodes f_nodeMany f_moveNode f_movePart f_moveFirst f_moveThen f_moveOther a_out f_outMany a_kept), (a_all, aI G 1276 t9), (a_undone, aI G 2528 t7.2)] H := hP
        have hD : va_D A [(h0, O_R (0 : Int32) a_all a_text a_saved a_undone t7.1 f_reached f_length f_begin f_sort f_sign f_value f_word f_wrongAt f_badAt f_bad a_told f_read f_side a_pile f_piled a_open f_opened f_joins f_had a_size a_capped a_connected a_bestCost a_bestCrosses a_bestPart a_part a_trees f_treeMany a_nodes f_nodeMany f_moveNode f_movePart f_moveFirst f_moveThen f_moveOther a_out f_outMany a_kept), (a_all, aI G 1276 t9), (a_undone, aI G 2528 t7.2)] := hD
        refine lv_aload_n hx hb d_R_rows_47 rfl (lv_at hl 0 rfl) ?_
        refine va_get (D := G.1) (ci := 12) (v := .ref a_all) (C := n_R) (T := T_R) (N := 44) hx hb htl iw_R hown hK hP 0 rfl rfl 1 (by decide) (htl _ k_1197) (fun _ h9 => h9) rfl d_R_rows_48 ?_
        refine lv_iconst (v := (1 : Int32)) hx hb d_R_rows_51 (by decide) ?_
        refine lv_iload_n hx hb d_R_rows_52 rfl (lv_at hl 1 rfl) ?_
        refine lv_iadd hx hb d_R_rows_53 ?_
        refine lv_iload_n hx hb d_R_rows_54 rfl (lv_at hl 2 rfl) ?_
        refine nx_iast hx hb hK hP hD hS 1 1 rfl rfl c5 d_R_rows_55 (fun v11 ev11 H locs hP hD hS => ?_)
        have hf := dn_e ev11 hf
        have hP : va_P G.1 classes [(h0, O_R (0 : Int32) a_all a_text a_saved a_undone t7.1 f_reached f_length f_begin f_sort f_sign f_value f_word f_wrongAt f_badAt f_bad a_told f_read f_side a_pile f_piled a_open f_opened f_joins f_had a_size a_capped a_connected a_bestCost a_bestCrosses a_bestPart a_part a_trees f_treeMany a_nodes f_nodeMany f_moveNode f_movePart f_moveFirst f_moveThen f_moveOther a_out f_outMany a_kept), (a_all, aI G 1276 v11), (a_undone, aI G 2528 t7.2)] H := hP
        have hD : va_D A [(h0, O_R (0 : Int32) a_all a_text a_saved a_undone t7.1 f_reached f_length f_begin f_sort f_sign f_value f_word f_wrongAt f_badAt f_bad a_told f_read f_side a_pile f_piled a_open f_opened f_joins f_had a_size a_capped a_connected a_bestCost a_bestCrosses a_bestPart a_part a_trees f_treeMany a_nodes f_nodeMany f_moveNode f_movePart f_moveFirst f_moveThen f_moveOther a_out f_outMany a_kept), (a_all, aI G 1276 v11), (a_undone, aI G 2528 t7.2)] := hD
        refine lv_iconst (v := (1 : Int32)) hx hb d_R_rows_56 (by decide) ?_
        cases hf
        exact hret 57 ls H locs z_1 hP hS d_R_rows_57
      · have hf := di_t c6 hf
        refine lv_iconst (v := (0 : Int32)) hx hb d_R_rows_37 (by decide) ?_
        cases hf
        exact hret 38 ls H locs z_0 hP hS d_R_rows_38
set_option maxHeartbeats 4000000 in
set_option maxRecDepth 100000 in
theorem c_R_link (l : Launch) (G : va_G × (Nat → ClassId)) (Y : (Nat → Nat) × (Nat → Nat)) (h0 : Nat) (a_all : Nat) (a_text : Nat) (a_saved : Nat) (a_undone : Nat) (a_told : Nat) (a_pile : Nat) (a_open : Nat) (a_size : Nat) (a_capped : Nat) (a_connected : Nat) (a_bestCost : Nat) (a_bestCrosses : Nat) (a_bestPart : Nat) (a_part : Nat) (a_trees : Nat) (a_nodes : Nat) (a_out : Nat) (a_kept : Nat) (f_raised : Int32) (f_undos : Int32) (f_reached : Int32) (f_length : Int32) (f_begin : Int32) (f_sort : Int32) (f_sign : Int32) (f_value : Int32) (f_word : Int64) (f_wrongAt : Int32) (f_badAt : Int32) (f_bad : Int32) (f_read : Int32) (f_side : Int32) (f_piled : Int32) (f_opened : Int32) (f_joins : Int32) (f_had : Int32) (f_treeMany : Int32) (f_nodeMany : Int32) (f_moveNode : Int32) (f_movePart : Int32) (f_moveFirst : Int32) (f_moveThen : Int32) (f_moveOther : Int32) (f_outMany : Int32) (g_all : Nat → Int32) (g_undone : Nat → Int32) (x1 : Int32) (x2 : Int32) (x3 : Int32) (N : Nat) (res : Int32 × Int32 × Int32 × (Nat → Int32) × (Nat → Int32)) (hf : R_link N f_raised f_undos g_all g_undone x1 x2 x3 = some res) : Ci l classes y_R_link b_R_link 5 (some .int) (rmk 2) G.1 (tyL G) Y [.ref h0, .int x1, .int x2, .int x3] [(h0, O_R f_raised a_all a_text a_saved a_undone f_undos f_reached f_length f_begin f_sort f_sign f_value f_word f_wrongAt f_badAt f_bad a_told f_read f_side a_pile f_piled a_open f_opened f_joins f_had a_size a_capped a_connected a_bestCost a_bestCrosses a_bestPart a_part a_trees f_treeMany a_nodes f_nodeMany f_moveNode f_movePart f_moveFirst f_moveThen f_moveOther a_out f_outMany a_kept), (a_all, aI G 1276 g_all), (a_undone, aI G 2528 g_undone)] [(h0, O_R res.2.1 a_all a_text a_saved a_undone res.2.2.1 f_reached f_length f_begin f_sort f_sign f_value f_word f_wrongAt f_badAt f_bad a_told f_read f_side a_pile f_piled a_open f_opened f_joins f_had a_size a_capped a_connected a_bestCost a_bestCrosses a_bestPart a_part a_trees f_treeMany a_nodes f_nodeMany f_moveNode f_movePart f_moveFirst f_moveThen f_moveOther a_out f_outMany a_kept), (a_all, aI G 1276 res.2.2.2.1), (a_undone, aI G 2528 res.2.2.2.2)] res.1 := by
  refine entI (by decide) (Nat.le_of_ble_eq_true rfl) ?_
  intro p e s m args below meth c ls A Q hx hb hml hown htl hK hsk wq hl hret
  obtain ⟨hP, hD, hS⟩ := wq
  have hl : lv_has ls 5 [(0, .ref h0), (1, .int x1), (2, .int x2), (3, .int x3)] := hl
  have hS : va_S A s.heap s.heap [] := hS
  obtain ⟨H, hH⟩ : ∃ H : Heap, H = s.heap := ⟨_, rfl⟩
  obtain ⟨locs, hlocs⟩ : ∃ z : List Loc, z = [] := ⟨_, rfl⟩
  rw [← hH] at hP
  replace hS : va_S A s.heap H locs := by rw [hH, hlocs]; exact hS
  suffices hgo : W p l e (rmk 2) s m args below meth c H locs 0 0 Q (F0 m 0 ls []) by rw [hH, hlocs] at hgo; exact hgo
  refine lv_aload_n hx hb d_R_link_0 rfl (lv_at hl 0 rfl) ?_
  refine lv_iconst (v := (0 : Int32)) hx hb d_R_link_1 (by decide) ?_
  refine va_put (D := G.1) (ci := 12) (v := .int (0 : Int32)) (ty := .int) (C := n_R) (T := T_R) (N := 44) hx hb htl iw_R ty_R ty_R_ok nm_R hown hK hP hD hS 0 rfl rfl 0 (by decide) (htl _ k_1196) (fun _ h9 => h9) rfl (by decide +kernel) rfl rfl (Nat.le_of_ble_eq_true rfl) d_R_link_2 (fun H locs hP hD hS => ?_)
  have hP : va_P G.1 classes [(h0, O_R (0 : Int32) a_all a_text a_saved a_undone f_undos f_reached f_length f_begin f_sort f_sign f_value f_word f_wrongAt f_badAt f_bad a_told f_read f_side a_pile f_piled a_open f_opened f_joins f_had a_size a_capped a_connected a_bestCost a_bestCrosses a_bestPart a_part a_trees f_treeMany a_nodes f_nodeMany f_moveNode f_movePart f_moveFirst f_moveThen f_moveOther a_out f_outMany a_kept), (a_all, aI G 1276 g_all), (a_undone, aI G 2528 g_undone)] H := hP
  have hD : va_D A [(h0, O_R (0 : Int32) a_all a_text a_saved a_undone f_undos f_reached f_length f_begin f_sort f_sign f_value f_word f_wrongAt f_badAt f_bad a_told f_read f_side a_pile f_piled a_open f_opened f_joins f_had a_size a_capped a_connected a_bestCost a_bestCrosses a_bestPart a_part a_trees f_treeMany a_nodes f_nodeMany f_moveNode f_movePart f_moveFirst f_moveThen f_moveOther a_out f_outMany a_kept), (a_all, aI G 1276 g_all), (a_undone, aI G 2528 g_undone)] := hD
  refine lv_aload_n hx hb d_R_link_5 rfl (lv_at hl 0 rfl) ?_
  refine lv_iload_n hx hb d_R_link_6 rfl (lv_at hl 1 rfl) ?_
  refine call_i (isC := [0, 1]) (run_V (As := [.int x1]) (rest := []) (ci := 12) (q0 := 0) hx hb hml hown htl (c_R_isSet l G Y  h0 a_all a_text a_saved a_undone a_told a_pile a_open a_size a_capped a_connected a_bestCost a_bestCrosses a_bestPart a_part a_trees a_nodes a_out a_kept (0 : Int32) f_undos f_reached f_length f_begin f_sort f_sign f_value f_word f_wrongAt f_badAt f_bad f_read f_side f_piled f_opened f_joins f_had f_treeMany f_nodeMany f_moveNode f_movePart f_moveFirst f_moveThen f_moveOther f_outMany g_all x1 _ rfl) mv_R_isSet k_1462 (hRk (by decide) (by decide)) hK hsk hS hP hD (isC := [0, 1]) rfl (by decide) rfl rfl rfl hl.1 rfl (lv_room (Nat.le_of_ble_eq_true rfl)) d_R_link_7) hP hD hS rfl rfl (fun H locs hP hD hS => ?_)
  have hP : va_P G.1 classes [(h0, O_R (0 : Int32) a_all a_text a_saved a_undone f_undos f_reached f_length f_begin f_sort f_sign f_value f_word f_wrongAt f_badAt f_bad a_told f_read f_side a_pile f_piled a_open f_opened f_joins f_had a_size a_capped a_connected a_bestCost a_bestCrosses a_bestPart a_part a_trees f_treeMany a_nodes f_nodeMany f_moveNode f_movePart f_moveFirst f_moveThen f_moveOther a_out f_outMany a_kept), (a_all, aI G 1276 g_all), (a_undone, aI G 2528 g_undone)] H := hP
  have hD : va_D A [(h0, O_R (0 : Int32) a_all a_text a_saved a_undone f_undos f_reached f_length f_begin f_sort f_sign f_value f_word f_wrongAt f_badAt f_bad a_told f_read f_side a_pile f_piled a_open f_opened f_joins f_had a_size a_capped a_connected a_bestCost a_bestCrosses a_bestPart a_part a_trees f_treeMany a_nodes f_nodeMany f_moveNode f_movePart f_moveFirst f_moveThen f_moveOther a_out f_outMany a_kept), (a_all, aI G 1276 g_all), (a_undone, aI G 2528 g_undone)] := hD
  refine lv_if_eq (tgt := 51) hx hb d_R_link_10 (by decide) (fun c1 => ?_) (fun c1 => ?_)
  · have hf := di_t c1 hf
    refine lv_iconst (v := (-1 : Int32)) hx hb d_R_link_51 (by decide) ?_
    cases hf
    exact hret 52 ls H locs hP hS d_R_link_52
  · have hf := di_f c1 hf
    refine lv_aload_n hx hb d_R_link_13 rfl (lv_at hl 0 rfl) ?_
    refine lv_iload_n hx hb d_R_link_14 rfl (lv_at hl 2 rfl) ?_
    refine call_i (isC := [0, 1]) (run_V (As := [.int x2]) (rest := []) (ci := 12) (q0 := 0) hx hb hml hown htl (c_R_isSet l G Y  h0 a_all a_text a_saved a_undone a_told a_pile a_open a_size a_capped a_connected a_bestCost a_bestCrosses a_bestPart a_part a_trees a_nodes a_out a_kept (0 : Int32) f_undos f_reached f_length f_begin f_sort f_sign f_value f_word f_wrongAt f_badAt f_bad f_read f_side f_piled f_opened f_joins f_had f_treeMany f_nodeMany f_moveNode f_movePart f_moveFirst f_moveThen f_moveOther f_outMany g_all x2 _ rfl) mv_R_isSet k_1462 (hRk (by decide) (by decide)) hK hsk hS hP hD (isC := [0, 1]) rfl (by decide) rfl rfl rfl hl.1 rfl (lv_room (Nat.le_of_ble_eq_true rfl)) d_R_link_15) hP hD hS rfl rfl (fun H locs hP hD hS => ?_)
    have hP : va_P G.1 classes [(h0, O_R (0 : Int32) a_all a_text a_saved a_undone f_undos f_reached f_length f_begin f_sort f_sign f_value f_word f_wrongAt f_badAt f_bad a_told f_read f_side a_pile f_piled a_open f_opened f_joins f_had a_size a_capped a_connected a_bestCost a_bestCrosses a_bestPart a_part a_trees f_treeMany a_nodes f_nodeMany f_moveNode f_movePart f_moveFirst f_moveThen f_moveOther a_out f_outMany a_kept), (a_all, aI G 1276 g_all), (a_undone, aI G 2528 g_undone)] H := hP
    have hD : va_D A [(h0, O_R (0 : Int32) a_all a_text a_saved a_undone f_undos f_reached f_length f_begin f_sort f_sign f_value f_word f_wrongAt f_badAt f_bad a_told f_read f_side a_pile f_piled a_open f_opened f_joins f_had a_size a_capped a_connected a_bestCost a_bestCrosses a_bestPart a_part a_trees f_treeMany a_nodes f_nodeMany f_moveNode f_movePart f_moveFirst f_moveThen f_moveOther a_out f_outMany a_kept), (a_all, aI G 1276 g_all), (a_undone, aI G 2528 g_undone)] := hD
    refine lv_if_eq (tgt := 51) hx hb d_R_link_18 (by decide) (fun c2 => ?_) (fun c2 => ?_)
    · have hf := di_t c2 hf
      refine lv_iconst (v := (-1 : Int32)) hx hb d_R_link_51 (by decide) ?_
      cases hf
      exact hret 52 ls H locs hP hS d_R_link_52
    · have hf := di_f c2 hf
      refine lv_iload_n hx hb d_R_link_21 rfl (lv_at hl 1 rfl) ?_
      refine lv_iload_n hx hb d_R_link_22 rfl (lv_at hl 2 rfl) ?_
      refine lv_iand hx hb d_R_link_23 ?_
      refine lv_if_ne (tgt := 51) hx hb d_R_link_24 (by decide) (fun c3 => ?_) (fun c3 => ?_)
      · have hf := di_f c3 hf
        refine lv_iconst (v := (-1 : Int32)) hx hb d_R_link_51 (by decide) ?_
        cases hf
        exact hret 52 ls H locs hP hS d_R_link_52
      · have hf := di_t c3 hf
        refine lv_iload_n hx hb d_R_link_27 rfl (lv_at hl 3 rfl) ?_
        refine lv_i2l hx hb d_R_link_28 rfl ?_
        refine lv_lconst (v := (1 : Int64)) hx hb d_R_link_29 (by decide) ?_
        refine lv_ldc2 (v := (100000 : Int64)) hx hb hown (htl _ k_1473) d_R_link_30 ?_
        refine call_i (isC := []) (run_S (As := [.long x3.toInt64, .long (1 : Int64), .long (100000 : Int64)]) (rest := []) hx hb hml hown htl (c_R_in l G Y  x3.toInt64 (1 : Int64) (100000 : Int64) _ rfl) ms_R_in k_1356 (hRk (by decide) (by decide)) hK hsk hS hP hD (isC := []) rfl (by decide) rfl hl.1 rfl (lv_room (Nat.le_of_ble_eq_true rfl)) d_R_link_33) hP hD hS rfl rfl (fun H locs hP hD hS => ?_)
        have hP : va_P G.1 classes [(h0, O_R (0 : Int32) a_all a_text a_saved a_undone f_undos f_reached f_length f_begin f_sort f_sign f_value f_word f_wrongAt f_badAt f_bad a_told f_read f_side a_pile f_piled a_open f_opened f_joins f_had a_size a_capped a_connected a_bestCost a_bestCrosses a_bestPart a_part a_trees f_treeMany a_nodes f_nodeMany f_moveNode f_movePart f_moveFirst f_moveThen f_moveOther a_out f_outMany a_kept), (a_all, aI G 1276 g_all), (a_undone, aI G 2528 g_undone)] H := hP
        have hD : va_D A [(h0, O_R (0 : Int32) a_all a_text a_saved a_undone f_undos f_reached f_length f_begin f_sort f_sign f_value f_word f_wrongAt f_badAt f_bad a_told f_read f_side a_pile f_piled a_open f_opened f_joins f_had a_size a_capped a_connected a_bestCost a_bestCrosses a_bestPart a_part a_trees f_treeMany a_nodes f_nodeMany f_moveNode f_movePart f_moveFirst f_moveThen f_moveOther a_out f_outMany a_kept), (a_all, aI G 1276 g_all), (a_undone, aI G 2528 g_undone)] := hD
        refine lv_if_eq (tgt := 51) hx hb d_R_link_36 (by decide) (fun c4 => ?_) (fun c4 => ?_)
        · have hf := di_t c4 hf
          refine lv_iconst (v := (-1 : Int32)) hx hb d_R_link_51 (by decide) ?_
          cases hf
          exact hret 52 ls H locs hP hS d_R_link_52
        · have hf := di_f c4 hf
          refine lv_aload_n hx hb d_R_link_39 rfl (lv_at hl 0 rfl) ?_
          refine va_get (D := G.1) (ci := 12) (v := .ref a_all) (C := n_R) (T := T_R) (N := 44) hx hb htl iw_R hown hK hP 0 rfl rfl 1 (by decide) (htl _ k_1197) (fun _ h9 => h9) rfl d_R_link_40 ?_
          refine lv_bipush (v := (9 : Int32)) hx hb d_R_link_43 (by decide) ?_
          refine va_iald hx hb hK hP 1 1 rfl rfl (vp_lit (by decide)) d_R_link_45 ?_
          refine lv_bipush (v := (16 : Int32)) hx hb d_R_link_46 (by decide) ?_
          refine lv_icmp_ne (tgt := 53) hx hb d_R_link_48 (by decide) (fun c5 => ?_) (fun c5 => ?_)
          · have hf := di_f c5 hf
            refine lv_aload_n hx hb d_R_link_53 rfl (lv_at hl 0 rfl) ?_
            obtain ⟨t6, hv7, hf⟩ := db_e hf
            refine call_v (isC := [0, 1, 2]) (run_V (As := []) (rest := []) (ci := 12) (q0 := 0) hx hb hml hown htl (c_R_keeps l G Y  h0 a_all a_text a_saved a_undone a_told a_pile a_open a_size a_capped a_connected a_bestCost a_bestCrosses a_bestPart a_part a_trees a_nodes a_out a_kept (0 : Int32) f_undos f_reached f_length f_begin f_sort f_sign f_value f_word f_wrongAt f_badAt f_bad f_read f_side f_piled f_opened f_joins f_had f_treeMany f_nodeMany f_moveNode f_movePart f_moveFirst f_moveThen f_moveOther f_outMany g_all g_undone N t6 hv7) mv_R_keeps k_1437 (hRk (by decide) (by decide)) hK hsk hS hP hD (isC := [0, 1, 2]) rfl (by decide) rfl rfl rfl hl.1 rfl (lv_room (Nat.le_of_ble_eq_true rfl)) d_R_link_54) hP hD hS rfl rfl (fun H locs hP hD hS => ?_)
            have hP : va_P G.1 classes [(h0, O_R (0 : Int32) a_all a_text a_saved a_undone t6.1 f_reached f_length f_begin f_sort f_sign f_value f_word f_wrongAt f_badAt f_bad a_told f_read f_side a_pile f_piled a_open f_opened f_joins f_had a_size a_capped a_connected a_bestCost a_bestCrosses a_bestPart a_part a_trees f_treeMany a_nodes f_nodeMany f_moveNode f_movePart f_moveFirst f_moveThen f_moveOther a_out f_outMany a_kept), (a_all, aI G 1276 g_all), (a_undone, aI G 2528 t6.2)] H := hP
            have hD : va_D A [(h0, O_R (0 : Int32) a_all a_text a_saved a_undone t6.1 f_reached f_length f_begin f_sort f_sign f_value f_word f_wrongAt f_badAt f_bad a_told f_read f_side a_pile f_piled a_open f_opened f_joins f_had a_size a_capped a_connected a_bestCost a_bestCrosses a_bestPart a_part a_trees f_treeMany a_nodes f_nodeMany f_moveNode f_movePart f_moveFirst f_moveThen f_moveOther a_out f_outMany a_kept), (a_all, aI G 1276 g_all), (a_undone, aI G 2528 t6.2)] := hD
            refine lv_aload_n hx hb d_R_link_57 rfl (lv_at hl 0 rfl) ?_
            obtain ⟨t8, hv9, hf⟩ := db_e hf
            refine call_v (isC := [0, 1]) (run_V (As := []) (rest := []) (ci := 12) (q0 := 0) hx hb hml hown htl (c_R_noPlan l G Y  h0 a_all a_text a_saved a_undone a_told a_pile a_open a_size a_capped a_connected a_bestCost a_bestCrosses a_bestPart a_part a_trees a_nodes a_out a_kept (0 : Int32) t6.1 f_reached f_length f_begin f_sort f_sign f_value f_word f_wrongAt f_badAt f_bad f_read f_side f_piled f_opened f_joins f_had f_treeMany f_nodeMany f_moveNode f_movePart f_moveFirst f_moveThen f_moveOther f_outMany g_all N t8 hv9) mv_R_noPlan k_1446 (hRk (by decide) (by decide)) hK hsk hS hP hD (isC := [0, 1]) rfl (by decide) rfl rfl rfl hl.1 rfl (lv_room (Nat.le_of_ble_eq_true rfl)) d_R_link_58) hP hD hS rfl rfl (fun H locs hP hD hS => ?_)
            have hP : va_P G.1 classes [(h0, O_R (0 : Int32) a_all a_text a_saved a_undone t6.1 f_reached f_length f_begin f_sort f_sign f_value f_word f_wrongAt f_badAt f_bad a_told f_read f_side a_pile f_piled a_open f_opened f_joins f_had a_size a_capped a_connected a_bestCost a_bestCrosses a_bestPart a_part a_trees f_treeMany a_nodes f_nodeMany f_moveNode f_movePart f_moveFirst f_moveThen f_moveOther a_out f_outMany a_kept), (a_all, aI G 1276 t8), (a_undone, aI G 2528 t6.2)] H := hP
            have hD : va_D A [(h0, O_R (0 : Int32) a_all a_text a_saved a_undone t6.1 f_reached f_length f_begin f_sort f_sign f_value f_word f_wrongAt f_badAt f_bad a_told f_read f_side a_pile f_piled a_open f_opened f_joins f_had a_size a_capped a_connected a_bestCost a_bestCrosses a_bestPart a_part a_trees f_treeMany a_nodes f_nodeMany f_moveNode f_movePart f_moveFirst f_moveThen f_moveOther a_out f_outMany a_kept), (a_all, aI G 1276 t8), (a_undone, aI G 2528 t6.2)] := hD
            refine lv_bipush (v := (10 : Int32)) hx hb d_R_link_61 (by decide) ?_
            refine lv_iconst (v := (3 : Int32)) hx hb d_R_link_63 (by decide) ?_
            refine lv_aload_n hx hb d_R_link_64 rfl (lv_at hl 0 rfl) ?_
            refine va_get (D := G.1) (ci := 12) (v := .ref a_all) (C := n_R) (T := T_R) (N := 44) hx hb htl iw_R hown hK hP 0 rfl rfl 1 (by decide) (htl _ k_1197) (fun _ h9 => h9) rfl d_R_link_65 ?_
            refine lv_bipush (v := (9 : Int32)) hx hb d_R_link_68 (by decide) ?_
            refine va_iald hx hb hK hP 1 1 rfl rfl (vp_lit (by decide)) d_R_link_70 ?_
            refine lv_imul hx hb d_R_link_71 ?_
            refine lv_iadd hx hb d_R_link_72 ?_
            refine lv_topi (fun v10 ev10 => ?_)
            have hf := dn_e ev10 hf
            refine lv_istore (lv' := [(4, .int v10), (0, .ref h0), (1, .int x1), (2, .int x2), (3, .int x3)]) hx hb d_R_link_73 hl (by decide) rfl (fun ls hl => ?_)
            refine lv_aload_n hx hb d_R_link_75 rfl (lv_at hl 1 rfl) ?_
            refine va_get (D := G.1) (ci := 12) (v := .ref a_all) (C := n_R) (T := T_R) (N := 44) hx hb htl iw_R hown hK hP 0 rfl rfl 1 (by decide) (htl _ k_1197) (fun _ h9 => h9) rfl d_R_link_76 ?_
            refine lv_iload hx hb d_R_link_79 (lv_at hl 0 rfl) ?_
            refine lv_iload_n hx hb d_R_link_81 rfl (lv_at hl 2 rfl) ?_
            obtain ⟨c11, hf⟩ := dk_e hf
            refine nx_iast hx hb hK hP hD hS 1 1 rfl rfl c11 d_R_link_82 (fun v12 ev12 H locs hP hD hS => ?_)
            have hf := dn_e ev12 hf
            have hP : va_P G.1 classes [(h0, O_R (0 : Int32) a_all a_text a_saved a_undone t6.1 f_reached f_length f_begin f_sort f_sign f_value f_word f_wrongAt f_badAt f_bad a_told f_read f_side a_pile f_piled a_open f_opened f_joins f_had a_size a_capped a_connected a_bestCost a_bestCrosses a_bestPart a_part a_trees f_treeMany a_nodes f_nodeMany f_moveNode f_movePart f_moveFirst f_moveThen f_moveOther a_out f_outMany a_kept), (a_all, aI G 1276 v12), (a_undone, aI G 2528 t6.2)] H := hP
            have hD : va_D A [(h0, O_R (0 : Int32) a_all a_text a_saved a_undone t6.1 f_reached f_length f_begin f_sort f_sign f_value f_word f_wrongAt f_badAt f_bad a_told f_read f_side a_pile f_piled a_open f_opened f_joins f_had a_size a_capped a_connected a_bestCost a_bestCrosses a_bestPart a_part a_trees f_treeMany a_nodes f_nodeMany f_moveNode f_movePart f_moveFirst f_moveThen f_moveOther a_out f_outMany a_kept), (a_all, aI G 1276 v12), (a_undone, aI G 2528 t6.2)] := hD
            refine lv_aload_n hx hb d_R_link_83 rfl (lv_at hl 1 rfl) ?_
            refine va_get (D := G.1) (ci := 12) (v := .ref a_all) (C := n_R) (T := T_R) (N := 44) hx hb htl iw_R hown hK hP 0 rfl rfl 1 (by decide) (htl _ k_1197) (fun _ h9 => h9) rfl d_R_link_84 ?_
            refine lv_iload hx hb d_R_link_87 (lv_at hl 0 rfl) ?_
            refine lv_iconst (v := (1 : Int32)) hx hb d_R_link_89 (by decide) ?_
            refine lv_iadd hx hb d_R_link_90 ?_
            refine lv_iload_n hx hb d_R_link_91 rfl (lv_at hl 3 rfl) ?_
            obtain ⟨c13, hf⟩ := dk_e hf
            refine nx_iast hx hb hK hP hD hS 1 1 rfl rfl c13 d_R_link_92 (fun v14 ev14 H locs hP hD hS => ?_)
            have hf := dn_e ev14 hf
            have hP : va_P G.1 classes [(h0, O_R (0 : Int32) a_all a_text a_saved a_undone t6.1 f_reached f_length f_begin f_sort f_sign f_value f_word f_wrongAt f_badAt f_bad a_told f_read f_side a_pile f_piled a_open f_opened f_joins f_had a_size a_capped a_connected a_bestCost a_bestCrosses a_bestPart a_part a_trees f_treeMany a_nodes f_nodeMany f_moveNode f_movePart f_moveFirst f_moveThen f_moveOther a_out f_outMany a_kept), (a_all, aI G 1276 v14), (a_undone, aI G 2528 t6.2)] H := hP
            have hD : va_D A [(h0, O_R (0 : Int32) a_all a_text a_saved a_undone t6.1 f_reached f_length f_begin f_sort f_sign f_value f_word f_wrongAt f_badAt f_bad a_told f_read f_side a_pile f_piled a_open f_opened f_joins f_had a_size a_capped a_connected a_bestCost a_bestCrosses a_bestPart a_part a_trees f_treeMany a_nodes f_nodeMany f_moveNode f_movePart f_moveFirst f_moveThen f_moveOther a_out f_outMany a_kept), (a_all, aI G 1276 v14), (a_undone, aI G 2528 t6.2)] := hD
            refine lv_aload_n hx hb d_R_link_93 rfl (lv_at hl 1 rfl) ?_
            refine va_get (D := G.1) (ci := 12) (v := .ref a_all) (C := n_R) (T := T_R) (N := 44) hx hb htl iw_R hown hK hP 0 rfl rfl 1 (by decide) (htl _ k_1197) (fun _ h9 => h9) rfl d_R_link_94 ?_
            refine lv_iload hx hb d_R_link_97 (lv_at hl 0 rfl) ?_
            refine lv_iconst (v := (2 : Int32)) hx hb d_R_link_99 (by decide) ?_
            refine lv_iadd hx hb d_R_link_100 ?_
            refine lv_iload_n hx hb d_R_link_101 rfl (lv_at hl 4 rfl) ?_
            obtain ⟨c15, hf⟩ := dk_e hf
            refine nx_iast hx hb hK hP hD hS 1 1 rfl rfl c15 d_R_link_102 (fun v16 ev16 H locs hP hD hS => ?_)
            have hf := dn_e ev16 hf
            have hP : va_P G.1 classes [(h0, O_R (0 : Int32) a_all a_text a_saved a_undone t6.1 f_reached f_length f_begin f_sort f_sign f_value f_word f_wrongAt f_badAt f_bad a_told f_read f_side a_pile f_piled a_open f_opened f_joins f_had a_size a_capped a_connected a_bestCost a_bestCrosses a_bestPart a_part a_trees f_treeMany a_nodes f_nodeMany f_moveNode f_movePart f_moveFirst f_moveThen f_moveOther a_out f_outMany a_kept), (a_all, aI G 1276 v16), (a_undone, aI G 2528 t6.2)] H := hP
            have hD : va_D A [(h0, O_R (0 : Int32) a_all a_text a_saved a_undone t6.1 f_reached f_length f_begin f_sort f_sign f_value f_word f_wrongAt f_badAt f_bad a_told f_read f_side a_pile f_piled a_open f_opened f_joins f_had a_size a_capped a_connected a_bestCost a_bestCrosses a_bestPart a_part a_trees f_treeMany a_nodes f_nodeMany f_moveNode f_movePart f_moveFirst f_moveThen f_moveOther a_out f_outMany a_kept), (a_all, aI G 1276 v16), (a_undone, aI G 2528 t6.2)] := hD
            refine lv_aload_n hx hb d_R_link_103 rfl (lv_at hl 1 rfl) ?_
            refine va_get (D := G.1) (ci := 12) (v := .ref a_all) (C := n_R) (T := T_R) (N := 44) hx hb htl iw_R hown hK hP 0 rfl rfl 1 (by decide) (htl _ k_1197) (fun _ h9 => h9) rfl d_R_link_104 ?_
            refine lv_bipush (v := (9 : Int32)) hx hb d_R_link_107 (by decide) ?_
            refine lv_dup2_11 hx hb d_R_link_109 rfl rfl ?_
            refine va_iald hx hb hK hP 1 1 rfl rfl (vp_lit (by decide)) d_R_link_110 ?_
            refine lv_iconst (v := (1 : Int32)) hx hb d_R_link_111 (by decide) ?_
            refine lv_iadd hx hb d_R_link_112 ?_
            refine nx_iast hx hb hK hP hD hS 1 1 rfl rfl (vp_lit (by decide)) d_R_link_113 (fun v17 ev17 H locs hP hD hS => ?_)
            have hf := dn_e ev17 hf
            have hP : va_P G.1 classes [(h0, O_R (0 : Int32) a_all a_text a_saved a_undone t6.1 f_reached f_length f_begin f_sort f_sign f_value f_word f_wrongAt f_badAt f_bad a_told f_read f_side a_pile f_piled a_open f_opened f_joins f_had a_size a_capped a_connected a_bestCost a_bestCrosses a_bestPart a_part a_trees f_treeMany a_nodes f_nodeMany f_moveNode f_movePart f_moveFirst f_moveThen f_moveOther a_out f_outMany a_kept), (a_all, aI G 1276 v17), (a_undone, aI G 2528 t6.2)] H := hP
            have hD : va_D A [(h0, O_R (0 : Int32) a_all a_text a_saved a_undone t6.1 f_reached f_length f_begin f_sort f_sign f_value f_word f_wrongAt f_badAt f_bad a_told f_read f_side a_pile f_piled a_open f_opened f_joins f_had a_size a_capped a_connected a_bestCost a_bestCrosses a_bestPart a_part a_trees f_treeMany a_nodes f_nodeMany f_moveNode f_movePart f_moveFirst f_moveThen f_moveOther a_out f_outMany a_kept), (a_all, aI G 1276 v17), (a_undone, aI G 2528 t6.2)] := hD
            refine lv_aload_n hx hb d_R_link_114 rfl (lv_at hl 1 rfl) ?_
            refine va_get (D := G.1) (ci := 12) (v := .ref a_all) (C := n_R) (T := T_R) (N := 44) hx hb htl iw_R hown hK hP 0 rfl rfl 1 (by decide) (htl _ k_1197) (fun _ h9 => h9) rfl d_R_link_115 ?_
            refine lv_bipush (v := (9 : Int32)) hx hb d_R_link_118 (by decide) ?_
            refine va_iald hx hb hK hP 1 1 rfl rfl (vp_lit (by decide)) d_R_link_120 ?_
            refine lv_iconst (v := (1 : Int32)) hx hb d_R_link_121 (by decide) ?_
            refine lv_isub hx hb d_R_link_122 ?_
            cases hf
            exact hret 123 ls H locs hP hS d_R_link_123
          · have hf := di_t c5 hf
            refine lv_iconst (v := (-1 : Int32)) hx hb d_R_link_51 (by decide) ?_
            cases hf
            exact hret 52 ls H locs hP hS d_R_link_52
set_option maxHeartbeats 4000000 in
set_option maxRecDepth 100000 in
theorem c_R_takesOut (l : Launch) (G : va_G × (Nat → ClassId)) (Y : (Nat → Nat) × (Nat → Nat)) (h0 : Nat) (a_all : Nat) (a_text : Nat) (a_saved : Nat) (a_undone : Nat) (a_told : Nat) (a_pile : Nat) (a_open : Nat) (a_size : Nat) (a_capped : Nat) (a_connected : Nat) (a_bestCost : Nat) (a_bestCrosses : Nat) (a_bestPart : Nat) (a_part : Nat) (a_trees : Nat) (a_nodes : Nat) (a_out : Nat) (a_kept : Nat) (f_raised : Int32) (f_undos : Int32) (f_reached : Int32) (f_length : Int32) (f_begin : Int32) (f_sort : Int32) (f_sign : Int32) (f_value : Int32) (f_word : Int64) (f_wrongAt : Int32) (f_badAt : Int32) (f_bad : Int32) (f_read : Int32) (f_side : Int32) (f_piled : Int32) (f_opened : Int32) (f_joins : Int32) (f_had : Int32) (f_treeMany : Int32) (f_nodeMany : Int32) (f_moveNode : Int32) (f_movePart : Int32) (f_moveFirst : Int32) (f_moveThen : Int32) (f_moveOther : Int32) (f_outMany : Int32) (g_all : Nat → Int32) (x1 : Int32) (N : Nat) (res : (Nat → Int32)) (hf : R_takesOut N g_all x1 = some res) : Cv l classes y_R_takesOut b_R_takesOut 3 none (rmk 0) G.1 (tyL G) Y [.ref h0, .int x1] [(h0, O_R f_raised a_all a_text a_saved a_undone f_undos f_reached f_length f_begin f_sort f_sign f_value f_word f_wrongAt f_badAt f_bad a_told f_read f_side a_pile f_piled a_open f_opened f_joins f_had a_size a_capped a_connected a_bestCost a_bestCrosses a_bestPart a_part a_trees f_treeMany a_nodes f_nodeMany f_moveNode f_movePart f_moveFirst f_moveThen f_moveOther a_out f_outMany a_kept), (a_all, aI G 1276 g_all)] [(h0, O_R f_raised a_all a_text a_saved a_undone f_undos f_reached f_length f_begin f_sort f_sign f_value f_word f_wrongAt f_badAt f_bad a_told f_read f_side a_pile f_piled a_open f_opened f_joins f_had a_size a_capped a_connected a_bestCost a_bestCrosses a_bestPart a_part a_trees f_treeMany a_nodes f_nodeMany f_moveNode f_movePart f_moveFirst f_moveThen f_moveOther a_out f_outMany a_kept), (a_all, aI G 1276 res)] := by
  refine entV (by decide) (Nat.le_of_ble_eq_true rfl) ?_
  intro p e s m args below meth c ls A Q hx hb hml hown htl hK hsk wq hl hret
  obtain ⟨hP, hD, hS⟩ := wq
  have hl : lv_has ls 3 [(0, .ref h0), (1, .int x1)] := hl
  have hS : va_S A s.heap s.heap [] := hS
  obtain ⟨H, hH⟩ : ∃ H : Heap, H = s.heap := ⟨_, rfl⟩
  obtain ⟨locs, hlocs⟩ : ∃ z : List Loc, z = [] := ⟨_, rfl⟩
  rw [← hH] at hP
  replace hS : va_S A s.heap H locs := by rw [hH, hlocs]; exact hS
  suffices hgo : W p l e (rmk 0) s m args below meth c H locs 0 0 Q (F0 m 0 ls []) by rw [hH, hlocs] at hgo; exact hgo
  have hJ45 : ∀ (g_all : Nat → Int32) (H : Heap) (locs : List Loc) (ls : Array Slot), PDS G.1 classes A s [(h0, O_R f_raised a_all a_text a_saved a_undone f_undos f_reached f_length f_begin f_sort f_sign f_value f_word f_wrongAt f_badAt f_bad a_told f_read f_side a_pile f_piled a_open f_opened f_joins f_had a_size a_capped a_connected a_bestCost a_bestCrosses a_bestPart a_part a_trees f_treeMany a_nodes f_nodeMany f_moveNode f_movePart f_moveFirst f_moveThen f_moveOther a_out f_outMany a_kept), (a_all, aI G 1276 g_all)] H locs → lv_has ls 3 [(0, .ref h0)] → R_takesOut_45 N g_all = some res → W p l e (rmk 0) s m args below meth c H locs 0 0 Q (F0 m 45 ls []) := by
    intro g_all H locs ls wq hl hf
    obtain ⟨hP, hD, hS⟩ := wq
    refine lv_aload_n hx hb d_R_takesOut_45 rfl (lv_at hl 0 rfl) ?_
    refine va_get (D := G.1) (ci := 12) (v := .ref a_all) (C := n_R) (T := T_R) (N := 44) hx hb htl iw_R hown hK hP 0 rfl rfl 1 (by decide) (htl _ k_1197) (fun _ h9 => h9) rfl d_R_takesOut_46 ?_
    refine lv_bipush (v := (9 : Int32)) hx hb d_R_takesOut_49 (by decide) ?_
    refine lv_dup2_11 hx hb d_R_takesOut_51 rfl rfl ?_
    refine va_iald hx hb hK hP 1 1 rfl rfl (vp_lit (by decide)) d_R_takesOut_52 ?_
    refine lv_iconst (v := (1 : Int32)) hx hb d_R_takesOut_53 (by decide) ?_
    refine lv_isub hx hb d_R_takesOut_54 ?_
    refine nx_iast hx hb hK hP hD hS 1 1 rfl rfl (vp_lit (by decide)) d_R_takesOut_55 (fun v7 ev7 H locs hP hD hS => ?_)
    have hf := dn_e ev7 hf
    have hP : va_P G.1 classes [(h0, O_R f_raised a_all a_text a_saved a_undone f_undos f_reached f_length f_begin f_sort f_sign f_value f_word f_wrongAt f_badAt f_bad a_told f_read f_side a_pile f_piled a_open f_opened f_joins f_had a_size a_capped a_connected a_bestCost a_bestCrosses a_bestPart a_part a_trees f_treeMany a_nodes f_nodeMany f_moveNode f_movePart f_moveFirst f_moveThen f_moveOther a_out f_outMany a_kept), (a_all, aI G 1276 v7)] H := hP
    have hD : va_D A [(h0, O_R f_raised a_all a_text a_saved a_undone f_undos f_reached f_length f_begin f_sort f_sign f_value f_word f_wrongAt f_badAt f_bad a_told f_read f_side a_pile f_piled a_open f_opened f_joins f_had a_size a_capped a_connected a_bestCost a_bestCrosses a_bestPart a_part a_trees f_treeMany a_nodes f_nodeMany f_moveNode f_movePart f_moveFirst f_moveThen f_moveOther a_out f_outMany a_kept), (a_all, aI G 1276 v7)] := hD
    cases hf
    exact hret 56 ls H locs hP hS d_R_takesOut_56
  have hJ7 : ∀ (g_all : Nat → Int32) (x2 : Int32) (H : Heap) (locs : List Loc) (ls : Array Slot), PDS G.1 classes A s [(h0, O_R f_raised a_all a_text a_saved a_undone f_undos f_reached f_length f_begin f_sort f_sign f_value f_word f_wrongAt f_badAt f_bad a_told f_read f_side a_pile f_piled a_open f_opened f_joins f_had a_size a_capped a_connected a_bestCost a_bestCrosses a_bestPart a_part a_trees f_treeMany a_nodes f_nodeMany f_moveNode f_movePart f_moveFirst f_moveThen f_moveOther a_out f_outMany a_kept), (a_all, aI G 1276 g_all)] H locs → lv_has ls 3 [(0, .ref h0), (2, .int x2)] → R_takesOut_7 N g_all x2 = some res → W p l e (rmk 0) s m args below meth c H locs 0 0 Q (F0 m 7 ls []) := by
    intro g_all x2 H locs ls wq hl hf
    obtain ⟨hP, hD, hS⟩ := wq
    obtain ⟨y7, hy7, hfo7⟩ := db_e hf
    have hL7 : ∀ (n : Nat) (g_all : Nat → Int32) (x2 : Int32) (H : Heap) (locs : List Loc) (ls : Array Slot), lp (fun x => R_takesOut_b7 N x.1 x.2) n (g_all, x2) = some y7 → PDS G.1 classes A s [(h0, O_R f_raised a_all a_text a_saved a_undone f_undos f_reached f_length f_begin f_sort f_sign f_value f_word f_wrongAt f_badAt f_bad a_told f_read f_side a_pile f_piled a_open f_opened f_joins f_had a_size a_capped a_connected a_bestCost a_bestCrosses a_bestPart a_part a_trees f_treeMany a_nodes f_nodeMany f_moveNode f_movePart f_moveFirst f_moveThen f_moveOther a_out f_outMany a_kept), (a_all, aI G 1276 g_all)] H locs → lv_has ls 3 [(0, .ref h0), (2, .int x2)] → W p l e (rmk 0) s m args below meth c H locs 0 0 Q (F0 m 7 ls []) := by
      intro n
      induction n with
      | zero =>
        intro g_all x2 H locs ls hf
        exact lp_0 hf
      | succ n ih7 =>
        intro g_all x2 H locs ls hf wq hl
        obtain ⟨hP, hD, hS⟩ := wq
        obtain ⟨r7, hf, hk7⟩ := lp_s hf
        have hf : R_takesOut_b7 N g_all x2 = some r7 := hf
        refine lv_iload_n hx hb d_R_takesOut_7 rfl (lv_at hl 1 rfl) ?_
        refine lv_bipush (v := (10 : Int32)) hx hb d_R_takesOut_8 (by decide) ?_
        refine lv_iconst (v := (3 : Int32)) hx hb d_R_takesOut_10 (by decide) ?_
        refine lv_aload_n hx hb d_R_takesOut_11 rfl (lv_at hl 0 rfl) ?_
        refine va_get (D := G.1) (ci := 12) (v := .ref a_all) (C := n_R) (T := T_R) (N := 44) hx hb htl iw_R hown hK hP 0 rfl rfl 1 (by decide) (htl _ k_1197) (fun _ h9 => h9) rfl d_R_takesOut_12 ?_
        refine lv_bipush (v := (9 : Int32)) hx hb d_R_takesOut_15 (by decide) ?_
        refine va_iald hx hb hK hP 1 1 rfl rfl (vp_lit (by decide)) d_R_takesOut_17 ?_
        refine lv_imul hx hb d_R_takesOut_18 ?_
        refine lv_iadd hx hb d_R_takesOut_19 ?_
        refine lv_iconst (v := (3 : Int32)) hx hb d_R_takesOut_20 (by decide) ?_
        refine lv_isub hx hb d_R_takesOut_21 ?_
        refine lv_icmp_ge (tgt := 45) hx hb d_R_takesOut_22 (by decide) (fun c2 => ?_) (fun c2 => ?_)
        · have hf := di_t c2 hf
          have hq7 := lpk_x hf hk7
          have hf := ex_y (f := fun y => R_takesOut_a7 N  y) hq7 hfo7
          have hf : R_takesOut_45 N g_all = some res := hf
          exact hJ45 g_all H locs ls ⟨hP, hD, hS⟩ (lv_sub hl [0] rfl) hf
        · have hf := di_f c2 hf
          refine lv_aload_n hx hb d_R_takesOut_25 rfl (lv_at hl 0 rfl) ?_
          refine va_get (D := G.1) (ci := 12) (v := .ref a_all) (C := n_R) (T := T_R) (N := 44) hx hb htl iw_R hown hK hP 0 rfl rfl 1 (by decide) (htl _ k_1197) (fun _ h9 => h9) rfl d_R_takesOut_26 ?_
          refine lv_iload_n hx hb d_R_takesOut_29 rfl (lv_at hl 1 rfl) ?_
          refine lv_aload_n hx hb d_R_takesOut_30 rfl (lv_at hl 0 rfl) ?_
          refine va_get (D := G.1) (ci := 12) (v := .ref a_all) (C := n_R) (T := T_R) (N := 44) hx hb htl iw_R hown hK hP 0 rfl rfl 1 (by decide) (htl _ k_1197) (fun _ h9 => h9) rfl d_R_takesOut_31 ?_
          refine lv_iload_n hx hb d_R_takesOut_34 rfl (lv_at hl 1 rfl) ?_
          refine lv_iconst (v := (3 : Int32)) hx hb d_R_takesOut_35 (by decide) ?_
          refine lv_iadd hx hb d_R_takesOut_36 ?_
          obtain ⟨c3, hf⟩ := dk_e hf
          refine va_iald hx hb hK hP 1 1 rfl rfl c3 d_R_takesOut_37 ?_
          obtain ⟨c4, hf⟩ := dk_e hf
          refine nx_iast hx hb hK hP hD hS 1 1 rfl rfl c4 d_R_takesOut_38 (fun v5 ev5 H locs hP hD hS => ?_)
          have hf := dn_e ev5 hf
          have hP : va_P G.1 classes [(h0, O_R f_raised a_all a_text a_saved a_undone f_undos f_reached f_length f_begin f_sort f_sign f_value f_word f_wrongAt f_badAt f_bad a_told f_read f_side a_pile f_piled a_open f_opened f_joins f_had a_size a_capped a_connected a_bestCost a_bestCrosses a_bestPart a_part a_trees f_treeMany a_nodes f_nodeMany f_moveNode f_movePart f_moveFirst f_moveThen f_moveOther a_out f_outMany a_kept), (a_all, aI G 1276 v5)] H := hP
          have hD : va_D A [(h0, O_R f_raised a_all a_text a_saved a_undone f_undos f_reached f_length f_begin f_sort f_sign f_value f_word f_wrongAt f_badAt f_bad a_told f_read f_side a_pile f_piled a_open f_opened f_joins f_had a_size a_capped a_connected a_bestCost a_bestCrosses a_bestPart a_part a_trees f_treeMany a_nodes f_nodeMany f_moveNode f_movePart f_moveFirst f_moveThen f_moveOther a_out f_outMany a_kept), (a_all, aI G 1276 v5)] := hD
          obtain ⟨v6, ev6⟩ : ∃ z : Int32, z = x2 + (1 : Int32) := ⟨_, rfl⟩
          have hf := dn_e ev6 hf
          refine lv_iinc (v := v6) (lv' := [(2, .int v6), (0, .ref h0)]) hx hb d_R_takesOut_39 hl (k := 1) rfl (by rw [ev6]; rfl) (by decide) rfl (fun ls hl => ?_)
          refine lv_goto (tgt := 7) hx hb d_R_takesOut_42 (by decide) ?_
          exact ih7 v5 v6 H locs ls (lpk_i hf hk7) ⟨hP, hD, hS⟩ (lv_sub hl [1, 0] rfl)
    exact hL7 N g_all x2 H locs ls hy7 ⟨hP, hD, hS⟩ hl
  refine lv_bipush (v := (10 : Int32)) hx hb d_R_takesOut_0 (by decide) ?_
  refine lv_iconst (v := (3 : Int32)) hx hb d_R_takesOut_2 (by decide) ?_
  refine lv_iload_n hx hb d_R_takesOut_3 rfl (lv_at hl 1 rfl) ?_
  refine lv_imul hx hb d_R_takesOut_4 ?_
  refine lv_iadd hx hb d_R_takesOut_5 ?_
  refine lv_topi (fun v1 ev1 => ?_)
  have hf := dn_e ev1 hf
  refine lv_istore_n (lv' := [(2, .int v1), (0, .ref h0), (1, .int x1)]) hx hb d_R_takesOut_6 rfl hl (by decide) rfl (fun ls hl => ?_)
  exact hJ7 g_all v1 H locs ls ⟨hP, hD, hS⟩ (lv_sub hl [1, 0] rfl) hf
set_option maxHeartbeats 4000000 in
set_option maxRecDepth 100000 in
theorem c_R_cut (l : Launch) (G : va_G × (Nat → ClassId)) (Y : (Nat → Nat) × (Nat → Nat)) (h0 : Nat) (a_all : Nat) (a_text : Nat) (a_saved : Nat) (a_undone : Nat) (a_told : Nat) (a_pile : Nat) (a_open : Nat) (a_size : Nat) (a_capped : Nat) (a_connected : Nat) (a_bestCost : Nat) (a_bestCrosses : Nat) (a_bestPart : Nat) (a_part : Nat) (a_trees : Nat) (a_nodes : Nat) (a_out : Nat) (a_kept : Nat) (f_raised : Int32) (f_undos : Int32) (f_reached : Int32) (f_length : Int32) (f_begin : Int32) (f_sort : Int32) (f_sign : Int32) (f_value : Int32) (f_word : Int64) (f_wrongAt : Int32) (f_badAt : Int32) (f_bad : Int32) (f_read : Int32) (f_side : Int32) (f_piled : Int32) (f_opened : Int32) (f_joins : Int32) (f_had : Int32) (f_treeMany : Int32) (f_nodeMany : Int32) (f_moveNode : Int32) (f_movePart : Int32) (f_moveFirst : Int32) (f_moveThen : Int32) (f_moveOther : Int32) (f_outMany : Int32) (g_all : Nat → Int32) (g_undone : Nat → Int32) (x1 : Int32) (N : Nat) (res : Int32 × Int32 × Int32 × (Nat → Int32) × (Nat → Int32)) (hf : R_cut N f_raised f_undos g_all g_undone x1 = some res) : Ci l classes y_R_cut b_R_cut 3 (some .int) (rmk 2) G.1 (tyL G) Y [.ref h0, .int x1] [(h0, O_R f_raised a_all a_text a_saved a_undone f_undos f_reached f_length f_begin f_sort f_sign f_value f_word f_wrongAt f_badAt f_bad a_told f_read f_side a_pile f_piled a_open f_opened f_joins f_had a_size a_capped a_connected a_bestCost a_bestCrosses a_bestPart a_part a_trees f_treeMany a_nodes f_nodeMany f_moveNode f_movePart f_moveFirst f_moveThen f_moveOther a_out f_outMany a_kept), (a_all, aI G 1276 g_all), (a_undone, aI G 2528 g_undone)] [(h0, O_R res.2.1 a_all a_text a_saved a_undone res.2.2.1 f_reached f_length f_begin f_sort f_sign f_value f_word f_wrongAt f_badAt f_bad a_told f_read f_side a_pile f_piled a_open f_opened f_joins f_had a_size a_capped a_connected a_bestCost a_bestCrosses a_bestPart a_part a_trees f_treeMany a_nodes f_nodeMany f_moveNode f_movePart f_moveFirst f_moveThen f_moveOther a_out f_outMany a_kept), (a_all, aI G 1276 res.2.2.2.1), (a_undone, aI G 2528 res.2.2.2.2)] res.1 := by
  refine entI (by decide) (Nat.le_of_ble_eq_true rfl) ?_
  intro p e s m args below meth c ls A Q hx hb hml hown htl hK hsk wq hl hret
  obtain ⟨hP, hD, hS⟩ := wq
  have hl : lv_has ls 3 [(0, .ref h0), (1, .int x1)] := hl
  have hS : va_S A s.heap s.heap [] := hS
  obtain ⟨H, hH⟩ : ∃ H : Heap, H = s.heap := ⟨_, rfl⟩
  obtain ⟨locs, hlocs⟩ : ∃ z : List Loc, z = [] := ⟨_, rfl⟩
  rw [← hH] at hP
  replace hS : va_S A s.heap H locs := by rw [hH, hlocs]; exact hS
  suffices hgo : W p l e (rmk 2) s m args below meth c H locs 0 0 Q (F0 m 0 ls []) by rw [hH, hlocs] at hgo; exact hgo
  have hJ60 : ∀ (f_raised : Int32) (f_undos : Int32) (g_all : Nat → Int32) (g_undone : Nat → Int32) (H : Heap) (locs : List Loc) (ls : Array Slot), PDS G.1 classes A s [(h0, O_R f_raised a_all a_text a_saved a_undone f_undos f_reached f_length f_begin f_sort f_sign f_value f_word f_wrongAt f_badAt f_bad a_told f_read f_side a_pile f_piled a_open f_opened f_joins f_had a_size a_capped a_connected a_bestCost a_bestCrosses a_bestPart a_part a_trees f_treeMany a_nodes f_nodeMany f_moveNode f_movePart f_moveFirst f_moveThen f_moveOther a_out f_outMany a_kept), (a_all, aI G 1276 g_all), (a_undone, aI G 2528 g_undone)] H locs → lv_has ls 3 [(0, .ref h0)] → R_cut_60 N f_raised f_undos g_all g_undone = some res → W p l e (rmk 2) s m args below meth c H locs 0 0 Q (F0 m 60 ls []) := by
    intro f_raised f_undos g_all g_undone H locs ls wq hl hf
    obtain ⟨hP, hD, hS⟩ := wq
    refine lv_aload_n hx hb d_R_cut_60 rfl (lv_at hl 0 rfl) ?_
    refine va_get (D := G.1) (ci := 12) (v := .ref a_all) (C := n_R) (T := T_R) (N := 44) hx hb htl iw_R hown hK hP 0 rfl rfl 1 (by decide) (htl _ k_1197) (fun _ h9 => h9) rfl d_R_cut_61 ?_
    refine lv_bipush (v := (9 : Int32)) hx hb d_R_cut_64 (by decide) ?_
    refine va_iald hx hb hK hP 1 1 rfl rfl (vp_lit (by decide)) d_R_cut_66 ?_
    cases hf
    exact hret 67 ls H locs hP hS d_R_cut_67
  have hJ41 : ∀ (f_raised : Int32) (f_undos : Int32) (g_all : Nat → Int32) (g_undone : Nat → Int32) (x2 : Int32) (H : Heap) (locs : List Loc) (ls : Array Slot), PDS G.1 classes A s [(h0, O_R f_raised a_all a_text a_saved a_undone f_undos f_reached f_length f_begin f_sort f_sign f_value f_word f_wrongAt f_badAt f_bad a_told f_read f_side a_pile f_piled a_open f_opened f_joins f_had a_size a_capped a_connected a_bestCost a_bestCrosses a_bestPart a_part a_trees f_treeMany a_nodes f_nodeMany f_moveNode f_movePart f_moveFirst f_moveThen f_moveOther a_out f_outMany a_kept), (a_all, aI G 1276 g_all), (a_undone, aI G 2528 g_undone)] H locs → lv_has ls 3 [(0, .ref h0), (2, .int x2)] → R_cut_41 N f_raised f_undos g_all g_undone x2 = some res → W p l e (rmk 2) s m args below meth c H locs 0 0 Q (F0 m 41 ls []) := by
    intro f_raised f_undos g_all g_undone x2 H locs ls wq hl hf
    obtain ⟨hP, hD, hS⟩ := wq
    obtain ⟨y41, hy41, hfo41⟩ := db_e hf
    have hL41 : ∀ (n : Nat) (g_all : Nat → Int32) (x2 : Int32) (H : Heap) (locs : List Loc) (ls : Array Slot), lp (fun x => R_cut_b41 N f_raised f_undos x.1 g_undone x.2) n (g_all, x2) = some y41 → PDS G.1 classes A s [(h0, O_R f_raised a_all a_text a_saved a_undone f_undos f_reached f_length f_begin f_sort f_sign f_value f_word f_wrongAt f_badAt f_bad a_told f_read f_side a_pile f_piled a_open f_opened f_joins f_had a_size a_capped a_connected a_bestCost a_bestCrosses a_bestPart a_part a_trees f_treeMany a_nodes f_nodeMany f_moveNode f_movePart f_moveFirst f_moveThen f_moveOther a_out f_outMany a_kept), (a_all, aI G 1276 g_all), (a_undone, aI G 2528 g_undone)] H locs → lv_has ls 3 [(0, .ref h0), (2, .int x2)] → W p l e (rmk 2) s m args below meth c H locs 0 0 Q (F0 m 41 ls []) := by
      intro n
      induction n with
      | zero =>
        intro g_all x2 H locs ls hf
        exact lp_0 hf
      | succ n ih41 =>
        intro g_all x2 H locs ls hf wq hl
        obtain ⟨hP, hD, hS⟩ := wq
        obtain ⟨r41, hf, hk41⟩ := lp_s hf
        have hf : R_cut_b41 N f_raised f_undos g_all g_undone x2 = some r41 := hf
        refine lv_iload_n hx hb d_R_cut_41 rfl (lv_at hl 1 rfl) ?_
        refine lv_bipush (v := (58 : Int32)) hx hb d_R_cut_42 (by decide) ?_
        refine lv_icmp_ge (tgt := 60) hx hb d_R_cut_44 (by decide) (fun c11 => ?_) (fun c11 => ?_)
        · have hf := di_t c11 hf
          have hq41 := lpk_x hf hk41
          have hf := ex_y (f := fun y => R_cut_a41 N f_raised f_undos g_undone y) hq41 hfo41
          have hf : R_cut_60 N f_raised f_undos g_all g_undone = some res := hf
          exact hJ60 f_raised f_undos g_all g_undone H locs ls ⟨hP, hD, hS⟩ (lv_sub hl [0] rfl) hf
        · have hf := di_f c11 hf
          refine lv_aload_n hx hb d_R_cut_47 rfl (lv_at hl 0 rfl) ?_
          refine va_get (D := G.1) (ci := 12) (v := .ref a_all) (C := n_R) (T := T_R) (N := 44) hx hb htl iw_R hown hK hP 0 rfl rfl 1 (by decide) (htl _ k_1197) (fun _ h9 => h9) rfl d_R_cut_48 ?_
          refine lv_iload_n hx hb d_R_cut_51 rfl (lv_at hl 1 rfl) ?_
          refine lv_iconst (v := (0 : Int32)) hx hb d_R_cut_52 (by decide) ?_
          obtain ⟨c12, hf⟩ := dk_e hf
          refine nx_iast hx hb hK hP hD hS 1 1 rfl rfl c12 d_R_cut_53 (fun v13 ev13 H locs hP hD hS => ?_)
          have hf := dn_e ev13 hf
          have hP : va_P G.1 classes [(h0, O_R f_raised a_all a_text a_saved a_undone f_undos f_reached f_length f_begin f_sort f_sign f_value f_word f_wrongAt f_badAt f_bad a_told f_read f_side a_pile f_piled a_open f_opened f_joins f_had a_size a_capped a_connected a_bestCost a_bestCrosses a_bestPart a_part a_trees f_treeMany a_nodes f_nodeMany f_moveNode f_movePart f_moveFirst f_moveThen f_moveOther a_out f_outMany a_kept), (a_all, aI G 1276 v13), (a_undone, aI G 2528 g_undone)] H := hP
          have hD : va_D A [(h0, O_R f_raised a_all a_text a_saved a_undone f_undos f_reached f_length f_begin f_sort f_sign f_value f_word f_wrongAt f_badAt f_bad a_told f_read f_side a_pile f_piled a_open f_opened f_joins f_had a_size a_capped a_connected a_bestCost a_bestCrosses a_bestPart a_part a_trees f_treeMany a_nodes f_nodeMany f_moveNode f_movePart f_moveFirst f_moveThen f_moveOther a_out f_outMany a_kept), (a_all, aI G 1276 v13), (a_undone, aI G 2528 g_undone)] := hD
          obtain ⟨v14, ev14⟩ : ∃ z : Int32, z = x2 + (1 : Int32) := ⟨_, rfl⟩
          have hf := dn_e ev14 hf
          refine lv_iinc (v := v14) (lv' := [(2, .int v14), (0, .ref h0)]) hx hb d_R_cut_54 hl (k := 1) rfl (by rw [ev14]; rfl) (by decide) rfl (fun ls hl => ?_)
          refine lv_goto (tgt := 41) hx hb d_R_cut_57 (by decide) ?_
          exact ih41 v13 v14 H locs ls (lpk_i hf hk41) ⟨hP, hD, hS⟩ (lv_sub hl [1, 0] rfl)
    exact hL41 N g_all x2 H locs ls hy41 ⟨hP, hD, hS⟩ hl
  refine lv_aload_n hx hb d_R_cut_0 rfl (lv_at hl 0 rfl) ?_
  refine lv_iconst (v := (0 : Int32)) hx hb d_R_cut_1 (by decide) ?_
  refine va_put (D := G.1) (ci := 12) (v := .int (0 : Int32)) (ty := .int) (C := n_R) (T := T_R) (N := 44) hx hb htl iw_R ty_R ty_R_ok nm_R hown hK hP hD hS 0 rfl rfl 0 (by decide) (htl _ k_1196) (fun _ h9 => h9) rfl (by decide +kernel) rfl rfl (Nat.le_of_ble_eq_true rfl) d_R_cut_2 (fun H locs hP hD hS => ?_)
  have hP : va_P G.1 classes [(h0, O_R (0 : Int32) a_all a_text a_saved a_undone f_undos f_reached f_length f_begin f_sort f_sign f_value f_word f_wrongAt f_badAt f_bad a_told f_read f_side a_pile f_piled a_open f_opened f_joins f_had a_size a_capped a_connected a_bestCost a_bestCrosses a_bestPart a_part a_trees f_treeMany a_nodes f_nodeMany f_moveNode f_movePart f_moveFirst f_moveThen f_moveOther a_out f_outMany a_kept), (a_all, aI G 1276 g_all), (a_undone, aI G 2528 g_undone)] H := hP
  have hD : va_D A [(h0, O_R (0 : Int32) a_all a_text a_saved a_undone f_undos f_reached f_length f_begin f_sort f_sign f_value f_word f_wrongAt f_badAt f_bad a_told f_read f_side a_pile f_piled a_open f_opened f_joins f_had a_size a_capped a_connected a_bestCost a_bestCrosses a_bestPart a_part a_trees f_treeMany a_nodes f_nodeMany f_moveNode f_movePart f_moveFirst f_moveThen f_moveOther a_out f_outMany a_kept), (a_all, aI G 1276 g_all), (a_undone, aI G 2528 g_undone)] := hD
  refine lv_aload_n hx hb d_R_cut_5 rfl (lv_at hl 0 rfl) ?_
  refine lv_iload_n hx hb d_R_cut_6 rfl (lv_at hl 1 rfl) ?_
  obtain ⟨t1, hv2, hf⟩ := db_e hf
  refine call_i (isC := [0, 1]) (run_V (As := [.int x1]) (rest := []) (ci := 12) (q0 := 0) hx hb hml hown htl (c_R_isEdge l G Y  h0 a_all a_text a_saved a_undone a_told a_pile a_open a_size a_capped a_connected a_bestCost a_bestCrosses a_bestPart a_part a_trees a_nodes a_out a_kept (0 : Int32) f_undos f_reached f_length f_begin f_sort f_sign f_value f_word f_wrongAt f_badAt f_bad f_read f_side f_piled f_opened f_joins f_had f_treeMany f_nodeMany f_moveNode f_movePart f_moveFirst f_moveThen f_moveOther f_outMany g_all x1 t1 hv2) mv_R_isEdge k_1478 (hRk (by decide) (by decide)) hK hsk hS hP hD (isC := [0, 1]) rfl (by decide) rfl rfl rfl hl.1 rfl (lv_room (Nat.le_of_ble_eq_true rfl)) d_R_cut_7) hP hD hS rfl rfl (fun H locs hP hD hS => ?_)
  have hP : va_P G.1 classes [(h0, O_R (0 : Int32) a_all a_text a_saved a_undone f_undos f_reached f_length f_begin f_sort f_sign f_value f_word f_wrongAt f_badAt f_bad a_told f_read f_side a_pile f_piled a_open f_opened f_joins f_had a_size a_capped a_connected a_bestCost a_bestCrosses a_bestPart a_part a_trees f_treeMany a_nodes f_nodeMany f_moveNode f_movePart f_moveFirst f_moveThen f_moveOther a_out f_outMany a_kept), (a_all, aI G 1276 g_all), (a_undone, aI G 2528 g_undone)] H := hP
  have hD : va_D A [(h0, O_R (0 : Int32) a_all a_text a_saved a_undone f_undos f_reached f_length f_begin f_sort f_sign f_value f_word f_wrongAt f_badAt f_bad a_told f_read f_side a_pile f_piled a_open f_opened f_joins f_had a_size a_capped a_connected a_bestCost a_bestCrosses a_bestPart a_part a_trees f_treeMany a_nodes f_nodeMany f_moveNode f_movePart f_moveFirst f_moveThen f_moveOther a_out f_outMany a_kept), (a_all, aI G 1276 g_all), (a_undone, aI G 2528 g_undone)] := hD
  refine lv_if_ne (tgt := 15) hx hb d_R_cut_10 (by decide) (fun c3 => ?_) (fun c3 => ?_)
  · have hf := di_f c3 hf
    refine lv_aload_n hx hb d_R_cut_15 rfl (lv_at hl 0 rfl) ?_
    obtain ⟨t4, hv5, hf⟩ := db_e hf
    refine call_v (isC := [0, 1, 2]) (run_V (As := []) (rest := []) (ci := 12) (q0 := 0) hx hb hml hown htl (c_R_keeps l G Y  h0 a_all a_text a_saved a_undone a_told a_pile a_open a_size a_capped a_connected a_bestCost a_bestCrosses a_bestPart a_part a_trees a_nodes a_out a_kept (0 : Int32) f_undos f_reached f_length f_begin f_sort f_sign f_value f_word f_wrongAt f_badAt f_bad f_read f_side f_piled f_opened f_joins f_had f_treeMany f_nodeMany f_moveNode f_movePart f_moveFirst f_moveThen f_moveOther f_outMany g_all g_undone N t4 hv5) mv_R_keeps k_1437 (hRk (by decide) (by decide)) hK hsk hS hP hD (isC := [0, 1, 2]) rfl (by decide) rfl rfl rfl hl.1 rfl (lv_room (Nat.le_of_ble_eq_true rfl)) d_R_cut_16) hP hD hS rfl rfl (fun H locs hP hD hS => ?_)
    have hP : va_P G.1 classes [(h0, O_R (0 : Int32) a_all a_text a_saved a_undone t4.1 f_reached f_length f_begin f_sort f_sign f_value f_word f_wrongAt f_badAt f_bad a_told f_read f_side a_pile f_piled a_open f_opened f_joins f_had a_size a_capped a_connected a_bestCost a_bestCrosses a_bestPart a_part a_trees f_treeMany a_nodes f_nodeMany f_moveNode f_movePart f_moveFirst f_moveThen f_moveOther a_out f_outMany a_kept), (a_all, aI G 1276 g_all), (a_undone, aI G 2528 t4.2)] H := hP
    have hD : va_D A [(h0, O_R (0 : Int32) a_all a_text a_saved a_undone t4.1 f_reached f_length f_begin f_sort f_sign f_value f_word f_wrongAt f_badAt f_bad a_told f_read f_side a_pile f_piled a_open f_opened f_joins f_had a_size a_capped a_connected a_bestCost a_bestCrosses a_bestPart a_part a_trees f_treeMany a_nodes f_nodeMany f_moveNode f_movePart f_moveFirst f_moveThen f_moveOther a_out f_outMany a_kept), (a_all, aI G 1276 g_all), (a_undone, aI G 2528 t4.2)] := hD
    refine lv_aload_n hx hb d_R_cut_19 rfl (lv_at hl 0 rfl) ?_
    obtain ⟨t6, hv7, hf⟩ := db_e hf
    refine call_v (isC := [0, 1]) (run_V (As := []) (rest := []) (ci := 12) (q0 := 0) hx hb hml hown htl (c_R_noPlan l G Y  h0 a_all a_text a_saved a_undone a_told a_pile a_open a_size a_capped a_connected a_bestCost a_bestCrosses a_bestPart a_part a_trees a_nodes a_out a_kept (0 : Int32) t4.1 f_reached f_length f_begin f_sort f_sign f_value f_word f_wrongAt f_badAt f_bad f_read f_side f_piled f_opened f_joins f_had f_treeMany f_nodeMany f_moveNode f_movePart f_moveFirst f_moveThen f_moveOther f_outMany g_all N t6 hv7) mv_R_noPlan k_1446 (hRk (by decide) (by decide)) hK hsk hS hP hD (isC := [0, 1]) rfl (by decide) rfl rfl rfl hl.1 rfl (lv_room (Nat.le_of_ble_eq_true rfl)) d_R_cut_20) hP hD hS rfl rfl (fun H locs hP hD hS => ?_)
    have hP : va_P G.1 classes [(h0, O_R (0 : Int32) a_all a_text a_saved a_undone t4.1 f_reached f_length f_begin f_sort f_sign f_value f_word f_wrongAt f_badAt f_bad a_told f_read f_side a_pile f_piled a_open f_opened f_joins f_had a_size a_capped a_connected a_bestCost a_bestCrosses a_bestPart a_part a_trees f_treeMany a_nodes f_nodeMany f_moveNode f_movePart f_moveFirst f_moveThen f_moveOther a_out f_outMany a_kept), (a_all, aI G 1276 t6), (a_undone, aI G 2528 t4.2)] H := hP
    have hD : va_D A [(h0, O_R (0 : Int32) a_all a_text a_saved a_undone t4.1 f_reached f_length f_begin f_sort f_sign f_value f_word f_wrongAt f_badAt f_bad a_told f_read f_side a_pile f_piled a_open f_opened f_joins f_had a_size a_capped a_connected a_bestCost a_bestCrosses a_bestPart a_part a_trees f_treeMany a_nodes f_nodeMany f_moveNode f_movePart f_moveFirst f_moveThen f_moveOther a_out f_outMany a_kept), (a_all, aI G 1276 t6), (a_undone, aI G 2528 t4.2)] := hD
    refine lv_aload_n hx hb d_R_cut_23 rfl (lv_at hl 0 rfl) ?_
    refine lv_iload_n hx hb d_R_cut_24 rfl (lv_at hl 1 rfl) ?_
    obtain ⟨t8, hv9, hf⟩ := db_e hf
    refine call_v (isC := [0, 1]) (run_V (As := [.int x1]) (rest := []) (ci := 12) (q0 := 0) hx hb hml hown htl (c_R_takesOut l G Y  h0 a_all a_text a_saved a_undone a_told a_pile a_open a_size a_capped a_connected a_bestCost a_bestCrosses a_bestPart a_part a_trees a_nodes a_out a_kept (0 : Int32) t4.1 f_reached f_length f_begin f_sort f_sign f_value f_word f_wrongAt f_badAt f_bad f_read f_side f_piled f_opened f_joins f_had f_treeMany f_nodeMany f_moveNode f_movePart f_moveFirst f_moveThen f_moveOther f_outMany t6 x1 N t8 hv9) mv_R_takesOut k_1482 (hRk (by decide) (by decide)) hK hsk hS hP hD (isC := [0, 1]) rfl (by decide) rfl rfl rfl hl.1 rfl (lv_room (Nat.le_of_ble_eq_true rfl)) d_R_cut_25) hP hD hS rfl rfl (fun H locs hP hD hS => ?_)
    have hP : va_P G.1 classes [(h0, O_R (0 : Int32) a_all a_text a_saved a_undone t4.1 f_reached f_length f_begin f_sort f_sign f_value f_word f_wrongAt f_badAt f_bad a_told f_read f_side a_pile f_piled a_open f_opened f_joins f_had a_size a_capped a_connected a_bestCost a_bestCrosses a_bestPart a_part a_trees f_treeMany a_nodes f_nodeMany f_moveNode f_movePart f_moveFirst f_moveThen f_moveOther a_out f_outMany a_kept), (a_all, aI G 1276 t8), (a_undone, aI G 2528 t4.2)] H := hP
    have hD : va_D A [(h0, O_R (0 : Int32) a_all a_text a_saved a_undone t4.1 f_reached f_length f_begin f_sort f_sign f_value f_word f_wrongAt f_badAt f_bad a_told f_read f_side a_pile f_piled a_open f_opened f_joins f_had a_size a_capped a_connected a_bestCost a_bestCrosses a_bestPart a_part a_trees f_treeMany a_nodes f_nodeMany f_moveNode f_movePart f_moveFirst f_moveThen f_moveOther a_out f_outMany a_kept), (a_all, aI G 1276 t8), (a_undone, aI G 2528 t4.2)] := hD
    refine lv_bipush (v := (10 : Int32)) hx hb d_R_cut_28 (by decide) ?_
    refine lv_iconst (v := (3 : Int32)) hx hb d_R_cut_30 (by decide) ?_
    refine lv_aload_n hx hb d_R_cut_31 rfl (lv_at hl 0 rfl) ?_
    refine va_get (D := G.1) (ci := 12) (v := .ref a_all) (C := n_R) (T := T_R) (N := 44) hx hb htl iw_R hown hK hP 0 rfl rfl 1 (by decide) (htl _ k_1197) (fun _ h9 => h9) rfl d_R_cut_32 ?_
    refine lv_bipush (v := (9 : Int32)) hx hb d_R_cut_35 (by decide) ?_
    refine va_iald hx hb hK hP 1 1 rfl rfl (vp_lit (by decide)) d_R_cut_37 ?_
    refine lv_imul hx hb d_R_cut_38 ?_
    refine lv_iadd hx hb d_R_cut_39 ?_
    refine lv_topi (fun v10 ev10 => ?_)
    have hf := dn_e ev10 hf
    refine lv_istore_n (lv' := [(2, .int v10), (0, .ref h0), (1, .int x1)]) hx hb d_R_cut_40 rfl hl (by decide) rfl (fun ls hl => ?_)
    exact hJ41 (0 : Int32) t4.1 t8 t4.2 v10 H locs ls ⟨hP, hD, hS⟩ (lv_sub hl [1, 0] rfl) hf
  · have hf := di_t c3 hf
    refine lv_iconst (v := (-1 : Int32)) hx hb d_R_cut_13 (by decide) ?_
    cases hf
    exact hret 14 ls H locs hP hS d_R_cut_14
set_option maxHeartbeats 4000000 in
set_option maxRecDepth 100000 in
theorem c_R_by (l : Launch) (G : va_G × (Nat → ClassId)) (Y : (Nat → Nat) × (Nat → Nat)) (h0 : Nat) (a_all : Nat) (a_text : Nat) (a_saved : Nat) (a_undone : Nat) (a_told : Nat) (a_pile : Nat) (a_open : Nat) (a_size : Nat) (a_capped : Nat) (a_connected : Nat) (a_bestCost : Nat) (a_bestCrosses : Nat) (a_bestPart : Nat) (a_part : Nat) (a_trees : Nat) (a_nodes : Nat) (a_out : Nat) (a_kept : Nat) (f_raised : Int32) (f_undos : Int32) (f_reached : Int32) (f_length : Int32) (f_begin : Int32) (f_sort : Int32) (f_sign : Int32) (f_value : Int32) (f_word : Int64) (f_wrongAt : Int32) (f_badAt : Int32) (f_bad : Int32) (f_read : Int32) (f_side : Int32) (f_piled : Int32) (f_opened : Int32) (f_joins : Int32) (f_had : Int32) (f_treeMany : Int32) (f_nodeMany : Int32) (f_moveNode : Int32) (f_movePart : Int32) (f_moveFirst : Int32) (f_moveThen : Int32) (f_moveOther : Int32) (f_outMany : Int32) (g_all : Nat → Int32) (g_undone : Nat → Int32) (x1 : Int32) (x2 : Int32) (N : Nat) (res : Int32 × Int32 × Int32 × (Nat → Int32) × (Nat → Int32)) (hf : R_by N f_raised f_undos g_all g_undone x1 x2 = some res) : Ci l classes y_R_by b_R_by 3 (some .boolean) (rmk 2) G.1 (tyL G) Y [.ref h0, .int x1, .int x2] [(h0, O_R f_raised a_all a_text a_saved a_undone f_undos f_reached f_length f_begin f_sort f_sign f_value f_word f_wrongAt f_badAt f_bad a_told f_read f_side a_pile f_piled a_open f_opened f_joins f_had a_size a_capped a_connected a_bestCost a_bestCrosses a_bestPart a_part a_trees f_treeMany a_nodes f_nodeMany f_moveNode f_movePart f_moveFirst f_moveThen f_moveOther a_out f_outMany a_kept), (a_all, aI G 1276 g_all), (a_undone, aI G 2528 g_undone)] [(h0, O_R res.2.1 a_all a_text a_saved a_undone res.2.2.1 f_reached f_length f_begin f_sort f_sign f_value f_word f_wrongAt f_badAt f_bad a_told f_read f_side a_pile f_piled a_open f_opened f_joins f_had a_size a_capped a_connected a_bestCost a_bestCrosses a_bestPart a_part a_trees f_treeMany a_nodes f_nodeMany f_moveNode f_movePart f_moveFirst f_moveThen f_moveOther a_out f_outMany a_kept), (a_all, aI G 1276 res.2.2.2.1), (a_undone, aI G 2528 res.2.2.2.2)] res.1 := by
  refine entZ (by decide) (Nat.le_of_ble_eq_true rfl) ?_
  intro p e s m args below meth c ls A Q hx hb hml hown htl hK hsk wq hl hret
  obtain ⟨hP, hD, hS⟩ := wq
  have hl : lv_has ls 3 [(0, .ref h0), (1, .int x1), (2, .int x2)] := hl
  have hS : va_S A s.heap s.heap [] := hS
  obtain ⟨H, hH⟩ : ∃ H : Heap, H = s.heap := ⟨_, rfl⟩
  obtain ⟨locs, hlocs⟩ : ∃ z : List Loc, z = [] := ⟨_, rfl⟩
  rw [← hH] at hP
  replace hS : va_S A s.heap H locs := by rw [hH, hlocs]; exact hS
  suffices hgo : W p l e (rmk 2) s m args below meth c H locs 0 0 Q (F0 m 0 ls []) by rw [hH, hlocs] at hgo; exact hgo
  refine lv_aload_n hx hb d_R_by_0 rfl (lv_at hl 0 rfl) ?_
  refine lv_iconst (v := (0 : Int32)) hx hb d_R_by_1 (by decide) ?_
  refine va_put (D := G.1) (ci := 12) (v := .int (0 : Int32)) (ty := .int) (C := n_R) (T := T_R) (N := 44) hx hb htl iw_R ty_R ty_R_ok nm_R hown hK hP hD hS 0 rfl rfl 0 (by decide) (htl _ k_1196) (fun _ h9 => h9) rfl (by decide +kernel) rfl rfl (Nat.le_of_ble_eq_true rfl) d_R_by_2 (fun H locs hP hD hS => ?_)
  have hP : va_P G.1 classes [(h0, O_R (0 : Int32) a_all a_text a_saved a_undone f_undos f_reached f_length f_begin f_sort f_sign f_value f_word f_wrongAt f_badAt f_bad a_told f_read f_side a_pile f_piled a_open f_opened f_joins f_had a_size a_capped a_connected a_bestCost a_bestCrosses a_bestPart a_part a_trees f_treeMany a_nodes f_nodeMany f_moveNode f_movePart f_moveFirst f_moveThen f_moveOther a_out f_outMany a_kept), (a_all, aI G 1276 g_all), (a_undone, aI G 2528 g_undone)] H := hP
  have hD : va_D A [(h0, O_R (0 : Int32) a_all a_text a_saved a_undone f_undos f_reached f_length f_begin f_sort f_sign f_value f_word f_wrongAt f_badAt f_bad a_told f_read f_side a_pile f_piled a_open f_opened f_joins f_had a_size a_capped a_connected a_bestCost a_bestCrosses a_bestPart a_part a_trees f_treeMany a_nodes f_nodeMany f_moveNode f_movePart f_moveFirst f_moveThen f_moveOther a_out f_outMany a_kept), (a_all, aI G 1276 g_all), (a_undone, aI G 2528 g_undone)] := hD
  refine lv_aload_n hx hb d_R_by_5 rfl (lv_at hl 0 rfl) ?_
  refine lv_iload_n hx hb d_R_by_6 rfl (lv_at hl 1 rfl) ?_
  obtain ⟨t1, hv2, hf⟩ := db_e hf
  refine call_i (isC := [0, 1]) (run_V (As := [.int x1]) (rest := []) (ci := 12) (q0 := 0) hx hb hml hown htl (c_R_isEdge l G Y  h0 a_all a_text a_saved a_undone a_told a_pile a_open a_size a_capped a_connected a_bestCost a_bestCrosses a_bestPart a_part a_trees a_nodes a_out a_kept (0 : Int32) f_undos f_reached f_length f_begin f_sort f_sign f_value f_word f_wrongAt f_badAt f_bad f_read f_side f_piled f_opened f_joins f_had f_treeMany f_nodeMany f_moveNode f_movePart f_moveFirst f_moveThen f_moveOther f_outMany g_all x1 t1 hv2) mv_R_isEdge k_1478 (hRk (by decide) (by decide)) hK hsk hS hP hD (isC := [0, 1]) rfl (by decide) rfl rfl rfl hl.1 rfl (lv_room (Nat.le_of_ble_eq_true rfl)) d_R_by_7) hP hD hS rfl rfl (fun H locs hP hD hS => ?_)
  have hP : va_P G.1 classes [(h0, O_R (0 : Int32) a_all a_text a_saved a_undone f_undos f_reached f_length f_begin f_sort f_sign f_value f_word f_wrongAt f_badAt f_bad a_told f_read f_side a_pile f_piled a_open f_opened f_joins f_had a_size a_capped a_connected a_bestCost a_bestCrosses a_bestPart a_part a_trees f_treeMany a_nodes f_nodeMany f_moveNode f_movePart f_moveFirst f_moveThen f_moveOther a_out f_outMany a_kept), (a_all, aI G 1276 g_all), (a_undone, aI G 2528 g_undone)] H := hP
  have hD : va_D A [(h0, O_R (0 : Int32) a_all a_text a_saved a_undone f_undos f_reached f_length f_begin f_sort f_sign f_value f_word f_wrongAt f_badAt f_bad a_told f_read f_side a_pile f_piled a_open f_opened f_joins f_had a_size a_capped a_connected a_bestCost a_bestCrosses a_bestPart a_part a_trees f_treeMany a_nodes f_nodeMany f_moveNode f_movePart f_moveFirst f_moveThen f_moveOther a_out f_outMany a_kept), (a_all, aI G 1276 g_all), (a_undone, aI G 2528 g_undone)] := hD
  refine lv_if_eq (tgt := 34) hx hb d_R_by_10 (by decide) (fun c3 => ?_) (fun c3 => ?_)
  · have hf := di_t c3 hf
    refine lv_iconst (v := (0 : Int32)) hx hb d_R_by_34 (by decide) ?_
    cases hf
    exact hret 35 ls H locs z_0 hP hS d_R_by_35
  · have hf := di_f c3 hf
    refine lv_iload_n hx hb d_R_by_13 rfl (lv_at hl 2 rfl) ?_
    refine lv_i2l hx hb d_R_by_14 rfl ?_
    refine lv_lconst (v := (1 : Int64)) hx hb d_R_by_15 (by decide) ?_
    refine lv_ldc2 (v := (100000 : Int64)) hx hb hown (htl _ k_1473) d_R_by_16 ?_
    refine call_i (isC := []) (run_S (As := [.long x2.toInt64, .long (1 : Int64), .long (100000 : Int64)]) (rest := []) hx hb hml hown htl (c_R_in l G Y  x2.toInt64 (1 : Int64) (100000 : Int64) _ rfl) ms_R_in k_1356 (hRk (by decide) (by decide)) hK hsk hS hP hD (isC := []) rfl (by decide) rfl hl.1 rfl (lv_room (Nat.le_of_ble_eq_true rfl)) d_R_by_19) hP hD hS rfl rfl (fun H locs hP hD hS => ?_)
    have hP : va_P G.1 classes [(h0, O_R (0 : Int32) a_all a_text a_saved a_undone f_undos f_reached f_length f_begin f_sort f_sign f_value f_word f_wrongAt f_badAt f_bad a_told f_read f_side a_pile f_piled a_open f_opened f_joins f_had a_size a_capped a_connected a_bestCost a_bestCrosses a_bestPart a_part a_trees f_treeMany a_nodes f_nodeMany f_moveNode f_movePart f_moveFirst f_moveThen f_moveOther a_out f_outMany a_kept), (a_all, aI G 1276 g_all), (a_undone, aI G 2528 g_undone)] H := hP
    have hD : va_D A [(h0, O_R (0 : Int32) a_all a_text a_saved a_undone f_undos f_reached f_length f_begin f_sort f_sign f_value f_word f_wrongAt f_badAt f_bad a_told f_read f_side a_pile f_piled a_open f_opened f_joins f_had a_size a_capped a_connected a_bestCost a_bestCrosses a_bestPart a_part a_trees f_treeMany a_nodes f_nodeMany f_moveNode f_movePart f_moveFirst f_moveThen f_moveOther a_out f_outMany a_kept), (a_all, aI G 1276 g_all), (a_undone, aI G 2528 g_undone)] := hD
    refine lv_if_eq (tgt := 34) hx hb d_R_by_22 (by decide) (fun c4 => ?_) (fun c4 => ?_)
    · have hf := di_t c4 hf
      refine lv_iconst (v := (0 : Int32)) hx hb d_R_by_34 (by decide) ?_
      cases hf
      exact hret 35 ls H locs z_0 hP hS d_R_by_35
    · have hf := di_f c4 hf
      refine lv_aload_n hx hb d_R_by_25 rfl (lv_at hl 0 rfl) ?_
      refine lv_iload_n hx hb d_R_by_26 rfl (lv_at hl 1 rfl) ?_
      obtain ⟨t5, hv6, hf⟩ := db_e hf
      refine call_i (isC := [0, 1]) (run_V (As := [.int x1]) (rest := []) (ci := 12) (q0 := 0) hx hb hml hown htl (c_R_byOf l G Y  h0 a_all a_text a_saved a_undone a_told a_pile a_open a_size a_capped a_connected a_bestCost a_bestCrosses a_bestPart a_part a_trees a_nodes a_out a_kept (0 : Int32) f_undos f_reached f_length f_begin f_sort f_sign f_value f_word f_wrongAt f_badAt f_bad f_read f_side f_piled f_opened f_joins f_had f_treeMany f_nodeMany f_moveNode f_movePart f_moveFirst f_moveThen f_moveOther f_outMany g_all x1 t5 hv6) mv_R_byOf k_1490 (hRk (by decide) (by decide)) hK hsk hS hP hD (isC := [0, 1]) rfl (by decide) rfl rfl rfl hl.1 rfl (lv_room (Nat.le_of_ble_eq_true rfl)) d_R_by_27) hP hD hS rfl rfl (fun H locs hP hD hS => ?_)
      have hP : va_P G.1 classes [(h0, O_R (0 : Int32) a_all a_text a_saved a_undone f_undos f_reached f_length f_begin f_sort f_sign f_value f_word f_wrongAt f_badAt f_bad a_told f_read f_side a_pile f_piled a_open f_opened f_joins f_had a_size a_capped a_connected a_bestCost a_bestCrosses a_bestPart a_part a_trees f_treeMany a_nodes f_nodeMany f_moveNode f_movePart f_moveFirst f_moveThen f_moveOther a_out f_outMany a_kept), (a_all, aI G 1276 g_all), (a_undone, aI G 2528 g_undone)] H := hP
      have hD : va_D A [(h0, O_R (0 : Int32) a_all a_text a_saved a_undone f_undos f_reached f_length f_begin f_sort f_sign f_value f_word f_wrongAt f_badAt f_bad a_told f_read f_side a_pile f_piled a_open f_opened f_joins f_had a_size a_capped a_connected a_bestCost a_bestCrosses a_bestPart a_part a_trees f_treeMany a_nodes f_nodeMany f_moveNode f_movePart f_moveFirst f_moveThen f_moveOther a_out f_outMany a_kept), (a_all, aI G 1276 g_all), (a_undone, aI G 2528 g_undone)] := hD
      refine lv_iload_n hx hb d_R_by_30 rfl (lv_at hl 2 rfl) ?_
      refine lv_icmp_ne (tgt := 36) hx hb d_R_by_31 (by decide) (fun c7 => ?_) (fun c7 => ?_)
      · have hf := di_f c7 hf
        refine lv_aload_n hx hb d_R_by_36 rfl (lv_at hl 0 rfl) ?_
        obtain ⟨t8, hv9, hf⟩ := db_e hf
        refine call_v (isC := [0, 1, 2]) (run_V (As := []) (rest := []) (ci := 12) (q0 := 0) hx hb hml hown htl (c_R_keeps l G Y  h0 a_all a_text a_saved a_undone a_told a_pile a_open a_size a_capped a_connected a_bestCost a_bestCrosses a_bestPart a_part a_trees a_nodes a_out a_kept (0 : Int32) f_undos f_reached f_length f_begin f_sort f_sign f_value f_word f_wrongAt f_badAt f_bad f_read f_side f_piled f_opened f_joins f_had f_treeMany f_nodeMany f_moveNode f_movePart f_moveFirst f_moveThen f_moveOther f_outMany g_all g_undone N t8 hv9) mv_R_keeps k_1437 (hRk (by decide) (by decide)) hK hsk hS hP hD (isC := [0, 1, 2]) rfl (by decide) rfl rfl rfl hl.1 rfl (lv_room (Nat.le_of_ble_eq_true rfl)) d_R_by_37) hP hD hS rfl rfl (fun H locs hP hD hS => ?_)
        have hP : va_P G.1 classes [(h0, O_R (0 : Int32) a_all a_text a_saved a_undone t8.1 f_reached f_length f_begin f_sort f_sign f_value f_word f_wrongAt f_badAt f_bad a_told f_read f_side a_pile f_piled a_open f_opened f_joins f_had a_size a_capped a_connected a_bestCost a_bestCrosses a_bestPart a_part a_trees f_treeMany a_nodes f_nodeMany f_moveNode f_movePart f_moveFirst f_moveThen f_moveOther a_out f_outMany a_kept), (a_all, aI G 1276 g_all), (a_undone, aI G 2528 t8.2)] H := hP
        have hD : va_D A [(h0, O_R (0 : Int32) a_all a_text a_saved a_undone t8.1 f_reached f_length f_begin f_sort f_sign f_value f_word f_wrongAt f_badAt f_bad a_told f_read f_side a_pile f_piled a_open f_opened f_joins f_had a_size a_capped a_connected a_bestCost a_bestCrosses a_bestPart a_part a_trees f_treeMany a_nodes f_nodeMany f_moveNode f_movePart f_moveFirst f_moveThen f_moveOther a_out f_outMany a_kept), (a_all, aI G 1276 g_all), (a_undone, aI G 2528 t8.2)] := hD
        refine lv_aload_n hx hb d_R_by_40 rfl (lv_at hl 0 rfl) ?_
        obtain ⟨t10, hv11, hf⟩ := db_e hf
        refine call_v (isC := [0, 1]) (run_V (As := []) (rest := []) (ci := 12) (q0 := 0) hx hb hml hown htl (c_R_noPlan l G Y  h0 a_all a_text a_saved a_undone a_told a_pile a_open a_size a_capped a_connected a_bestCost a_bestCrosses a_bestPart a_part a_trees a_nodes a_out a_kept (0 : Int32) t8.1 f_reached f_length f_begin f_sort f_sign f_value f_word f_wrongAt f_badAt f_bad f_read f_side f_piled f_opened f_joins f_had f_treeMany f_nodeMany f_moveNode f_movePart f_moveFirst f_moveThen f_moveOther f_outMany g_all N t10 hv11) mv_R_noPlan k_1446 (hRk (by decide) (by decide)) hK hsk hS hP hD (isC := [0, 1]) rfl (by decide) rfl rfl rfl hl.1 rfl (lv_room (Nat.le_of_ble_eq_true rfl)) d_R_by_41) hP hD hS rfl rfl (fun H locs hP hD hS => ?_)
        have hP : va_P G.1 classes [(h0, O_R (0 : Int32) a_all a_text a_saved a_undone t8.1 f_reached f_length f_begin f_sort f_sign f_value f_word f_wrongAt f_badAt f_bad a_told f_read f_side a_pile f_piled a_open f_opened f_joins f_had a_size a_capped a_connected a_bestCost a_bestCrosses a_bestPart a_part a_trees f_treeMany a_nodes f_nodeMany f_moveNode f_movePart f_moveFirst f_moveThen f_moveOther a_out f_outMany a_kept), (a_all, aI G 1276 t10), (a_undone, aI G 2528 t8.2)] H := hP
        have hD : va_D A [(h0, O_R (0 : Int32) a_all a_text a_saved a_undone t8.1 f_reached f_length f_begin f_sort f_sign f_value f_word f_wrongAt f_badAt f_bad a_told f_read f_side a_pile f_piled a_open f_opened f_joins f_had a_size a_capped a_connected a_bestCost a_bestCrosses a_bestPart a_part a_trees f_treeMany a_nodes f_nodeMany f_moveNode f_movePart f_moveFirst f_moveThen f_moveOther a_out f_outMany a_kept), (a_all, aI G 1276 t10), (a_undone, aI G 2528 t8.2)] := hD
        refine lv_aload_n hx hb d_R_by_44 rfl (lv_at hl 0 rfl) ?_
        refine va_get (D := G.1) (ci := 12) (v := .ref a_all) (C := n_R) (T := T_R) (N := 44) hx hb htl iw_R hown hK hP 0 rfl rfl 1 (by decide) (htl _ k_1197) (fun _ h9 => h9) rfl d_R_by_45 ?_
        refine lv_bipush (v := (10 : Int32)) hx hb d_R_by_48 (by decide) ?_
        refine lv_iconst (v := (3 : Int32)) hx hb d_R_by_50 (by decide) ?_
        refine lv_iload_n hx hb d_R_by_51 rfl (lv_at hl 1 rfl) ?_
        refine lv_imul hx hb d_R_by_52 ?_
        refine lv_iadd hx hb d_R_by_53 ?_
        refine lv_iconst (v := (2 : Int32)) hx hb d_R_by_54 (by decide) ?_
        refine lv_iadd hx hb d_R_by_55 ?_
        refine lv_iload_n hx hb d_R_by_56 rfl (lv_at hl 2 rfl) ?_
        obtain ⟨c12, hf⟩ := dk_e hf
        refine nx_iast hx hb hK hP hD hS 1 1 rfl rfl c12 d_R_by_57 (fun v13 ev13 H locs hP hD hS => ?_)
        have hf := dn_e ev13 hf
        have hP : va_P G.1 classes [(h0, O_R (0 : Int32) a_all a_text a_saved a_undone t8.1 f_reached f_length f_begin f_sort f_sign f_value f_word f_wrongAt f_badAt f_bad a_told f_read f_side a_pile f_piled a_open f_opened f_joins f_had a_size a_capped a_connected a_bestCost a_bestCrosses a_bestPart a_part a_trees f_treeMany a_nodes f_nodeMany f_moveNode f_movePart f_moveFirst f_moveThen f_moveOther a_out f_outMany a_kept), (a_all, aI G 1276 v13), (a_undone, aI G 2528 t8.2)] H := hP
        have hD : va_D A [(h0, O_R (0 : Int32) a_all a_text a_saved a_undone t8.1 f_reached f_length f_begin f_sort f_sign f_value f_word f_wrongAt f_badAt f_bad a_told f_read f_side a_pile f_piled a_open f_opened f_joins f_had a_size a_capped a_connected a_bestCost a_bestCrosses a_bestPart a_part a_trees f_treeMany a_nodes f_nodeMany f_moveNode f_movePart f_moveFirst f_moveThen f_moveOther a_out f_outMany a_kept), (a_all, aI G 1276 v13), (a_undone, aI G 2528 t8.2)] := hD
        refine lv_iconst (v := (1 : Int32)) hx hb d_R_by_58 (by decide) ?_
        cases hf
        exact hret 59 ls H locs z_1 hP hS d_R_by_59
      · have hf := di_t c7 hf
        refine lv_iconst (v := (0 : Int32)) hx hb d_R_by_34 (by decide) ?_
        cases hf
        exact hret 35 ls H locs z_0 hP hS d_R_by_35
set_option maxHeartbeats 4000000 in
set_option maxRecDepth 100000 in
theorem c_R_limit (l : Launch) (G : va_G × (Nat → ClassId)) (Y : (Nat → Nat) × (Nat → Nat)) (h0 : Nat) (a_all : Nat) (a_text : Nat) (a_saved : Nat) (a_undone : Nat) (a_told : Nat) (a_pile : Nat) (a_open : Nat) (a_size : Nat) (a_capped : Nat) (a_connected : Nat) (a_bestCost : Nat) (a_bestCrosses : Nat) (a_bestPart : Nat) (a_part : Nat) (a_trees : Nat) (a_nodes : Nat) (a_out : Nat) (a_kept : Nat) (f_raised : Int32) (f_undos : Int32) (f_reached : Int32) (f_length : Int32) (f_begin : Int32) (f_sort : Int32) (f_sign : Int32) (f_value : Int32) (f_word : Int64) (f_wrongAt : Int32) (f_badAt : Int32) (f_bad : Int32) (f_read : Int32) (f_side : Int32) (f_piled : Int32) (f_opened : Int32) (f_joins : Int32) (f_had : Int32) (f_treeMany : Int32) (f_nodeMany : Int32) (f_moveNode : Int32) (f_movePart : Int32) (f_moveFirst : Int32) (f_moveThen : Int32) (f_moveOther : Int32) (f_outMany : Int32) (g_all : Nat → Int32) (g_undone : Nat → Int32) (x1 : Int32) (N : Nat) (res : Int32 × Int32 × Int32 × (Nat → Int32) × (Nat → Int32)) (hf : R_limit N f_raised f_undos g_all g_undone x1 = some res) : Ci l classes y_R_limit b_R_limit 2 (some .boolean) (rmk 1) G.1 (tyL G) Y [.ref h0, .int x1] [(h0, O_R f_raised a_all a_text a_saved a_undone f_undos f_reached f_length f_begin f_sort f_sign f_value f_word f_wrongAt f_badAt f_bad a_told f_read f_side a_pile f_piled a_open f_opened f_joins f_had a_size a_capped a_connected a_bestCost a_bestCrosses a_bestPart a_part a_trees f_treeMany a_nodes f_nodeMany f_moveNode f_movePart f_moveFirst f_moveThen f_moveOther a_out f_outMany a_kept), (a_all, aI G 1276 g_all), (a_undone, aI G 2528 g_undone)] [(h0, O_R res.2.1 a_all a_text a_saved a_undone res.2.2.1 f_reached f_length f_begin f_sort f_sign f_value f_word f_wrongAt f_badAt f_bad a_told f_read f_side a_pile f_piled a_open f_opened f_joins f_had a_size a_capped a_connected a_bestCost a_bestCrosses a_bestPart a_part a_trees f_treeMany a_nodes f_nodeMany f_moveNode f_movePart f_moveFirst f_moveThen f_moveOther a_out f_outMany a_kept), (a_all, aI G 1276 res.2.2.2.1), (a_undone, aI G 2528 res.2.2.2.2)] res.1 := by
  refine entZ (by decide) (Nat.le_of_ble_eq_true rfl) ?_
  intro p e s m args below meth c ls A Q hx hb hml hown htl hK hsk wq hl hret
  obtain ⟨hP, hD, hS⟩ := wq
  have hl : lv_has ls 2 [(0, .ref h0), (1, .int x1)] := hl
  have hS : va_S A s.heap s.heap [] := hS
  obtain ⟨H, hH⟩ : ∃ H : Heap, H = s.heap := ⟨_, rfl⟩
  obtain ⟨locs, hlocs⟩ : ∃ z : List Loc, z = [] := ⟨_, rfl⟩
  rw [← hH] at hP
  replace hS : va_S A s.heap H locs := by rw [hH, hlocs]; exact hS
  suffices hgo : W p l e (rmk 1) s m args below meth c H locs 0 0 Q (F0 m 0 ls []) by rw [hH, hlocs] at hgo; exact hgo
  refine lv_aload_n hx hb d_R_limit_0 rfl (lv_at hl 0 rfl) ?_
  refine lv_iconst (v := (0 : Int32)) hx hb d_R_limit_1 (by decide) ?_
  refine va_put (D := G.1) (ci := 12) (v := .int (0 : Int32)) (ty := .int) (C := n_R) (T := T_R) (N := 44) hx hb htl iw_R ty_R ty_R_ok nm_R hown hK hP hD hS 0 rfl rfl 0 (by decide) (htl _ k_1196) (fun _ h9 => h9) rfl (by decide +kernel) rfl rfl (Nat.le_of_ble_eq_true rfl) d_R_limit_2 (fun H locs hP hD hS => ?_)
  have hP : va_P G.1 classes [(h0, O_R (0 : Int32) a_all a_text a_saved a_undone f_undos f_reached f_length f_begin f_sort f_sign f_value f_word f_wrongAt f_badAt f_bad a_told f_read f_side a_pile f_piled a_open f_opened f_joins f_had a_size a_capped a_connected a_bestCost a_bestCrosses a_bestPart a_part a_trees f_treeMany a_nodes f_nodeMany f_moveNode f_movePart f_moveFirst f_moveThen f_moveOther a_out f_outMany a_kept), (a_all, aI G 1276 g_all), (a_undone, aI G 2528 g_undone)] H := hP
  have hD : va_D A [(h0, O_R (0 : Int32) a_all a_text a_saved a_undone f_undos f_reached f_length f_begin f_sort f_sign f_value f_word f_wrongAt f_badAt f_bad a_told f_read f_side a_pile f_piled a_open f_opened f_joins f_had a_size a_capped a_connected a_bestCost a_bestCrosses a_bestPart a_part a_trees f_treeMany a_nodes f_nodeMany f_moveNode f_movePart f_moveFirst f_moveThen f_moveOther a_out f_outMany a_kept), (a_all, aI G 1276 g_all), (a_undone, aI G 2528 g_undone)] := hD
  refine lv_iload_n hx hb d_R_limit_5 rfl (lv_at hl 1 rfl) ?_
  refine lv_i2l hx hb d_R_limit_6 rfl ?_
  refine lv_lconst (v := (0 : Int64)) hx hb d_R_limit_7 (by decide) ?_
  refine lv_ldc2 (v := (5000 : Int64)) hx hb hown (htl _ k_1498) d_R_limit_8 ?_
  refine call_i (isC := []) (run_S (As := [.long x1.toInt64, .long (0 : Int64), .long (5000 : Int64)]) (rest := []) hx hb hml hown htl (c_R_in l G Y  x1.toInt64 (0 : Int64) (5000 : Int64) _ rfl) ms_R_in k_1356 (hRk (by decide) (by decide)) hK hsk hS hP hD (isC := []) rfl (by decide) rfl hl.1 rfl (lv_room (Nat.le_of_ble_eq_true rfl)) d_R_limit_11) hP hD hS rfl rfl (fun H locs hP hD hS => ?_)
  have hP : va_P G.1 classes [(h0, O_R (0 : Int32) a_all a_text a_saved a_undone f_undos f_reached f_length f_begin f_sort f_sign f_value f_word f_wrongAt f_badAt f_bad a_told f_read f_side a_pile f_piled a_open f_opened f_joins f_had a_size a_capped a_connected a_bestCost a_bestCrosses a_bestPart a_part a_trees f_treeMany a_nodes f_nodeMany f_moveNode f_movePart f_moveFirst f_moveThen f_moveOther a_out f_outMany a_kept), (a_all, aI G 1276 g_all), (a_undone, aI G 2528 g_undone)] H := hP
  have hD : va_D A [(h0, O_R (0 : Int32) a_all a_text a_saved a_undone f_undos f_reached f_length f_begin f_sort f_sign f_value f_word f_wrongAt f_badAt f_bad a_told f_read f_side a_pile f_piled a_open f_opened f_joins f_had a_size a_capped a_connected a_bestCost a_bestCrosses a_bestPart a_part a_trees f_treeMany a_nodes f_nodeMany f_moveNode f_movePart f_moveFirst f_moveThen f_moveOther a_out f_outMany a_kept), (a_all, aI G 1276 g_all), (a_undone, aI G 2528 g_undone)] := hD
  refine lv_if_eq (tgt := 28) hx hb d_R_limit_14 (by decide) (fun c1 => ?_) (fun c1 => ?_)
  · have hf := di_t c1 hf
    refine lv_iconst (v := (0 : Int32)) hx hb d_R_limit_28 (by decide) ?_
    cases hf
    exact hret 29 ls H locs z_0 hP hS d_R_limit_29
  · have hf := di_f c1 hf
    refine lv_aload_n hx hb d_R_limit_17 rfl (lv_at hl 0 rfl) ?_
    refine va_get (D := G.1) (ci := 12) (v := .ref a_all) (C := n_R) (T := T_R) (N := 44) hx hb htl iw_R hown hK hP 0 rfl rfl 1 (by decide) (htl _ k_1197) (fun _ h9 => h9) rfl d_R_limit_18 ?_
    refine lv_bipush (v := (58 : Int32)) hx hb d_R_limit_21 (by decide) ?_
    refine va_iald hx hb hK hP 1 1 rfl rfl (vp_lit (by decide)) d_R_limit_23 ?_
    refine lv_iload_n hx hb d_R_limit_24 rfl (lv_at hl 1 rfl) ?_
    refine lv_icmp_ne (tgt := 30) hx hb d_R_limit_25 (by decide) (fun c2 => ?_) (fun c2 => ?_)
    · have hf := di_f c2 hf
      refine lv_aload_n hx hb d_R_limit_30 rfl (lv_at hl 0 rfl) ?_
      obtain ⟨t3, hv4, hf⟩ := db_e hf
      refine call_v (isC := [0, 1, 2]) (run_V (As := []) (rest := []) (ci := 12) (q0 := 0) hx hb hml hown htl (c_R_keeps l G Y  h0 a_all a_text a_saved a_undone a_told a_pile a_open a_size a_capped a_connected a_bestCost a_bestCrosses a_bestPart a_part a_trees a_nodes a_out a_kept (0 : Int32) f_undos f_reached f_length f_begin f_sort f_sign f_value f_word f_wrongAt f_badAt f_bad f_read f_side f_piled f_opened f_joins f_had f_treeMany f_nodeMany f_moveNode f_movePart f_moveFirst f_moveThen f_moveOther f_outMany g_all g_undone N t3 hv4) mv_R_keeps k_1437 (hRk (by decide) (by decide)) hK hsk hS hP hD (isC := [0, 1, 2]) rfl (by decide) rfl rfl rfl hl.1 rfl (lv_room (Nat.le_of_ble_eq_true rfl)) d_R_limit_31) hP hD hS rfl rfl (fun H locs hP hD hS => ?_)
      have hP : va_P G.1 classes [(h0, O_R (0 : Int32) a_all a_text a_saved a_undone t3.1 f_reached f_length f_begin f_sort f_sign f_value f_word f_wrongAt f_badAt f_bad a_told f_read f_side a_pile f_piled a_open f_opened f_joins f_had a_size a_capped a_connected a_bestCost a_bestCrosses a_bestPart a_part a_trees f_treeMany a_nodes f_nodeMany f_moveNode f_movePart f_moveFirst f_moveThen f_moveOther a_out f_outMany a_kept), (a_all, aI G 1276 g_all), (a_undone, aI G 2528 t3.2)] H := hP
      have hD : va_D A [(h0, O_R (0 : Int32) a_all a_text a_saved a_undone t3.1 f_reached f_length f_begin f_sort f_sign f_value f_word f_wrongAt f_badAt f_bad a_told f_read f_side a_pile f_piled a_open f_opened f_joins f_had a_size a_capped a_connected a_bestCost a_bestCrosses a_bestPart a_part a_trees f_treeMany a_nodes f_nodeMany f_moveNode f_movePart f_moveFirst f_moveThen f_moveOther a_out f_outMany a_kept), (a_all, aI G 1276 g_all), (a_undone, aI G 2528 t3.2)] := hD
      refine lv_aload_n hx hb d_R_limit_34 rfl (lv_at hl 0 rfl) ?_
      refine va_get (D := G.1) (ci := 12) (v := .ref a_all) (C := n_R) (T := T_R) (N := 44) hx hb htl iw_R hown hK hP 0 rfl rfl 1 (by decide) (htl _ k_1197) (fun _ h9 => h9) rfl d_R_limit_35 ?_
      refine lv_bipush (v := (58 : Int32)) hx hb d_R_limit_38 (by decide) ?_
      refine lv_iload_n hx hb d_R_limit_40 rfl (lv_at hl 1 rfl) ?_
      refine nx_iast hx hb hK hP hD hS 1 1 rfl rfl (vp_lit (by decide)) d_R_limit_41 (fun v5 ev5 H locs hP hD hS => ?_)
      have hf := dn_e ev5 hf
      have hP : va_P G.1 classes [(h0, O_R (0 : Int32) a_all a_text a_saved a_undone t3.1 f_reached f_length f_begin f_sort f_sign f_value f_word f_wrongAt f_badAt f_bad a_told f_read f_side a_pile f_piled a_open f_opened f_joins f_had a_size a_capped a_connected a_bestCost a_bestCrosses a_bestPart a_part a_trees f_treeMany a_nodes f_nodeMany f_moveNode f_movePart f_moveFirst f_moveThen f_moveOther a_out f_outMany a_kept), (a_all, aI G 1276 v5), (a_undone, aI G 2528 t3.2)] H := hP
      have hD : va_D A [(h0, O_R (0 : Int32) a_all a_text a_saved a_undone t3.1 f_reached f_length f_begin f_sort f_sign f_value f_word f_wrongAt f_badAt f_bad a_told f_read f_side a_pile f_piled a_open f_opened f_joins f_had a_size a_capped a_connected a_bestCost a_bestCrosses a_bestPart a_part a_trees f_treeMany a_nodes f_nodeMany f_moveNode f_movePart f_moveFirst f_moveThen f_moveOther a_out f_outMany a_kept), (a_all, aI G 1276 v5), (a_undone, aI G 2528 t3.2)] := hD
      refine lv_iconst (v := (1 : Int32)) hx hb d_R_limit_42 (by decide) ?_
      cases hf
      exact hret 43 ls H locs z_1 hP hS d_R_limit_43
    · have hf := di_t c2 hf
      refine lv_iconst (v := (0 : Int32)) hx hb d_R_limit_28 (by decide) ?_
      cases hf
      exact hret 29 ls H locs z_0 hP hS d_R_limit_29
set_option maxHeartbeats 4000000 in
set_option maxRecDepth 100000 in
theorem c_R_isPlanNow (l : Launch) (G : va_G × (Nat → ClassId)) (Y : (Nat → Nat) × (Nat → Nat)) (h0 : Nat) (a_all : Nat) (a_text : Nat) (a_saved : Nat) (a_undone : Nat) (a_told : Nat) (a_pile : Nat) (a_open : Nat) (a_size : Nat) (a_capped : Nat) (a_connected : Nat) (a_bestCost : Nat) (a_bestCrosses : Nat) (a_bestPart : Nat) (a_part : Nat) (a_trees : Nat) (a_nodes : Nat) (a_out : Nat) (a_kept : Nat) (f_raised : Int32) (f_undos : Int32) (f_reached : Int32) (f_length : Int32) (f_begin : Int32) (f_sort : Int32) (f_sign : Int32) (f_value : Int32) (f_word : Int64) (f_wrongAt : Int32) (f_badAt : Int32) (f_bad : Int32) (f_read : Int32) (f_side : Int32) (f_piled : Int32) (f_opened : Int32) (f_joins : Int32) (f_had : Int32) (f_treeMany : Int32) (f_nodeMany : Int32) (f_moveNode : Int32) (f_movePart : Int32) (f_moveFirst : Int32) (f_moveThen : Int32) (f_moveOther : Int32) (f_outMany : Int32) (g_all : Nat → Int32) (g_part : Nat → Int32) (x1 : Int32) (N : Nat) (res : (Nat → Int32)) (hf : R_isPlanNow N g_all g_part x1 = some res) : Cv l classes y_R_isPlanNow b_R_isPlanNow 3 none (rmk 0) G.1 (tyL G) Y [.ref h0, .int x1] [(h0, O_R f_raised a_all a_text a_saved a_undone f_undos f_reached f_length f_begin f_sort f_sign f_value f_word f_wrongAt f_badAt f_bad a_told f_read f_side a_pile f_piled a_open f_opened f_joins f_had a_size a_capped a_connected a_bestCost a_bestCrosses a_bestPart a_part a_trees f_treeMany a_nodes f_nodeMany f_moveNode f_movePart f_moveFirst f_moveThen f_moveOther a_out f_outMany a_kept), (a_all, aI G 1276 g_all), (a_part, aI G 256 g_part)] [(h0, O_R f_raised a_all a_text a_saved a_undone f_undos f_reached f_length f_begin f_sort f_sign f_value f_word f_wrongAt f_badAt f_bad a_told f_read f_side a_pile f_piled a_open f_opened f_joins f_had a_size a_capped a_connected a_bestCost a_bestCrosses a_bestPart a_part a_trees f_treeMany a_nodes f_nodeMany f_moveNode f_movePart f_moveFirst f_moveThen f_moveOther a_out f_outMany a_kept), (a_all, aI G 1276 res), (a_part, aI G 256 g_part)] := by
  refine entV (by decide) (Nat.le_of_ble_eq_true rfl) ?_
  intro p e s m args below meth c ls A Q hx hb hml hown htl hK hsk wq hl hret
  obtain ⟨hP, hD, hS⟩ := wq
  have hl : lv_has ls 3 [(0, .ref h0), (1, .int x1)] := hl
  have hS : va_S A s.heap s.heap [] := hS
  obtain ⟨H, hH⟩ : ∃ H : Heap, H = s.heap := ⟨_, rfl⟩
  obtain ⟨locs, hlocs⟩ : ∃ z : List Loc, z = [] := ⟨_, rfl⟩
  rw [← hH] at hP
  replace hS : va_S A s.heap H locs := by rw [hH, hlocs]; exact hS
  suffices hgo : W p l e (rmk 0) s m args below meth c H locs 0 0 Q (F0 m 0 ls []) by rw [hH, hlocs] at hgo; exact hgo
  have hJ38 : ∀ (g_all : Nat → Int32) (H : Heap) (locs : List Loc) (ls : Array Slot), PDS G.1 classes A s [(h0, O_R f_raised a_all a_text a_saved a_undone f_undos f_reached f_length f_begin f_sort f_sign f_value f_word f_wrongAt f_badAt f_bad a_told f_read f_side a_pile f_piled a_open f_opened f_joins f_had a_size a_capped a_connected a_bestCost a_bestCrosses a_bestPart a_part a_trees f_treeMany a_nodes f_nodeMany f_moveNode f_movePart f_moveFirst f_moveThen f_moveOther a_out f_outMany a_kept), (a_all, aI G 1276 g_all), (a_part, aI G 256 g_part)] H locs → lv_has ls 3 [] → R_isPlanNow_38 N g_all g_part = some res → W p l e (rmk 0) s m args below meth c H locs 0 0 Q (F0 m 38 ls []) := by
    intro g_all H locs ls wq hl hf
    obtain ⟨hP, hD, hS⟩ := wq
    cases hf
    exact hret 38 ls H locs hP hS d_R_isPlanNow_38
  have hJ10 : ∀ (g_all : Nat → Int32) (x2 : Int32) (H : Heap) (locs : List Loc) (ls : Array Slot), PDS G.1 classes A s [(h0, O_R f_raised a_all a_text a_saved a_undone f_undos f_reached f_length f_begin f_sort f_sign f_value f_word f_wrongAt f_badAt f_bad a_told f_read f_side a_pile f_piled a_open f_opened f_joins f_had a_size a_capped a_connected a_bestCost a_bestCrosses a_bestPart a_part a_trees f_treeMany a_nodes f_nodeMany f_moveNode f_movePart f_moveFirst f_moveThen f_moveOther a_out f_outMany a_kept), (a_all, aI G 1276 g_all), (a_part, aI G 256 g_part)] H locs → lv_has ls 3 [(0, .ref h0), (2, .int x2)] → R_isPlanNow_10 N g_all g_part x2 = some res → W p l e (rmk 0) s m args below meth c H locs 0 0 Q (F0 m 10 ls []) := by
    intro g_all x2 H locs ls wq hl hf
    obtain ⟨hP, hD, hS⟩ := wq
    obtain ⟨y10, hy10, hfo10⟩ := db_e hf
    have hL10 : ∀ (n : Nat) (g_all : Nat → Int32) (x2 : Int32) (H : Heap) (locs : List Loc) (ls : Array Slot), lp (fun x => R_isPlanNow_b10 N x.1 g_part x.2) n (g_all, x2) = some y10 → PDS G.1 classes A s [(h0, O_R f_raised a_all a_text a_saved a_undone f_undos f_reached f_length f_begin f_sort f_sign f_value f_word f_wrongAt f_badAt f_bad a_told f_read f_side a_pile f_piled a_open f_opened f_joins f_had a_size a_capped a_connected a_bestCost a_bestCrosses a_bestPart a_part a_trees f_treeMany a_nodes f_nodeMany f_moveNode f_movePart f_moveFirst f_moveThen f_moveOther a_out f_outMany a_kept), (a_all, aI G 1276 g_all), (a_part, aI G 256 g_part)] H locs → lv_has ls 3 [(0, .ref h0), (2, .int x2)] → W p l e (rmk 0) s m args below meth c H locs 0 0 Q (F0 m 10 ls []) := by
      intro n
      induction n with
      | zero =>
        intro g_all x2 H locs ls hf
        exact lp_0 hf
      | succ n ih10 =>
        intro g_all x2 H locs ls hf wq hl
        obtain ⟨hP, hD, hS⟩ := wq
        obtain ⟨r10, hf, hk10⟩ := lp_s hf
        have hf : R_isPlanNow_b10 N g_all g_part x2 = some r10 := hf
        refine lv_iload_n hx hb d_R_isPlanNow_10 rfl (lv_at hl 1 rfl) ?_
        refine lv_sipush (v := (256 : Int32)) hx hb d_R_isPlanNow_11 (by decide) ?_
        refine lv_icmp_ge (tgt := 38) hx hb d_R_isPlanNow_14 (by decide) (fun c2 => ?_) (fun c2 => ?_)
        · have hf := di_t c2 hf
          have hq10 := lpk_x hf hk10
          have hf := ex_y (f := fun y => R_isPlanNow_a10 N g_part y) hq10 hfo10
          have hf : R_isPlanNow_38 N g_all g_part = some res := hf
          exact hJ38 g_all H locs ls ⟨hP, hD, hS⟩ (lv_sub hl [] rfl) hf
        · have hf := di_f c2 hf
          refine lv_aload_n hx hb d_R_isPlanNow_17 rfl (lv_at hl 0 rfl) ?_
          refine va_get (D := G.1) (ci := 12) (v := .ref a_all) (C := n_R) (T := T_R) (N := 44) hx hb htl iw_R hown hK hP 0 rfl rfl 1 (by decide) (htl _ k_1197) (fun _ h9 => h9) rfl d_R_isPlanNow_18 ?_
          refine lv_bipush (v := (60 : Int32)) hx hb d_R_isPlanNow_21 (by decide) ?_
          refine lv_iload_n hx hb d_R_isPlanNow_23 rfl (lv_at hl 1 rfl) ?_
          refine lv_iadd hx hb d_R_isPlanNow_24 ?_
          refine lv_aload_n hx hb d_R_isPlanNow_25 rfl (lv_at hl 0 rfl) ?_
          refine va_get (D := G.1) (ci := 12) (v := .ref a_part) (C := n_R) (T := T_R) (N := 44) hx hb htl iw_R hown hK hP 0 rfl rfl 31 (by decide) (htl _ k_1227) (fun _ h9 => h9) rfl d_R_isPlanNow_26 ?_
          refine lv_iload_n hx hb d_R_isPlanNow_29 rfl (lv_at hl 1 rfl) ?_
          obtain ⟨c3, hf⟩ := dk_e hf
          refine va_iald hx hb hK hP 2 1 rfl rfl c3 d_R_isPlanNow_30 ?_
          obtain ⟨c4, hf⟩ := dk_e hf
          refine nx_iast hx hb hK hP hD hS 1 1 rfl rfl c4 d_R_isPlanNow_31 (fun v5 ev5 H locs hP hD hS => ?_)
          have hf := dn_e ev5 hf
          have hP : va_P G.1 classes [(h0, O_R f_raised a_all a_text a_saved a_undone f_undos f_reached f_length f_begin f_sort f_sign f_value f_word f_wrongAt f_badAt f_bad a_told f_read f_side a_pile f_piled a_open f_opened f_joins f_had a_size a_capped a_connected a_bestCost a_bestCrosses a_bestPart a_part a_trees f_treeMany a_nodes f_nodeMany f_moveNode f_movePart f_moveFirst f_moveThen f_moveOther a_out f_outMany a_kept), (a_all, aI G 1276 v5), (a_part, aI G 256 g_part)] H := hP
          have hD : va_D A [(h0, O_R f_raised a_all a_text a_saved a_undone f_undos f_reached f_length f_begin f_sort f_sign f_value f_word f_wrongAt f_badAt f_bad a_told f_read f_side a_pile f_piled a_open f_opened f_joins f_had a_size a_capped a_connected a_bestCost a_bestCrosses a_bestPart a_part a_trees f_treeMany a_nodes f_nodeMany f_moveNode f_movePart f_moveFirst f_moveThen f_moveOther a_out f_outMany a_kept), (a_all, aI G 1276 v5), (a_part, aI G 256 g_part)] := hD
          obtain ⟨v6, ev6⟩ : ∃ z : Int32, z = x2 + (1 : Int32) := ⟨_, rfl⟩
          have hf := dn_e ev6 hf
          refine lv_iinc (v := v6) (lv' := [(2, .int v6), (0, .ref h0)]) hx hb d_R_isPlanNow_32 hl (k := 1) rfl (by rw [ev6]; rfl) (by decide) rfl (fun ls hl => ?_)
          refine lv_goto (tgt := 10) hx hb d_R_isPlanNow_35 (by decide) ?_
          exact ih10 v5 v6 H locs ls (lpk_i hf hk10) ⟨hP, hD, hS⟩ (lv_sub hl [1, 0] rfl)
    exact hL10 N g_all x2 H locs ls hy10 ⟨hP, hD, hS⟩ hl
  refine lv_aload_n hx hb d_R_isPlanNow_0 rfl (lv_at hl 0 rfl) ?_
  refine va_get (D := G.1) (ci := 12) (v := .ref a_all) (C := n_R) (T := T_R) (N := 44) hx hb htl iw_R hown hK hP 0 rfl rfl 1 (by decide) (htl _ k_1197) (fun _ h9 => h9) rfl d_R_isPlanNow_1 ?_
  refine lv_bipush (v := (59 : Int32)) hx hb d_R_isPlanNow_4 (by decide) ?_
  refine lv_iload_n hx hb d_R_isPlanNow_6 rfl (lv_at hl 1 rfl) ?_
  refine nx_iast hx hb hK hP hD hS 1 1 rfl rfl (vp_lit (by decide)) d_R_isPlanNow_7 (fun v1 ev1 H locs hP hD hS => ?_)
  have hf := dn_e ev1 hf
  have hP : va_P G.1 classes [(h0, O_R f_raised a_all a_text a_saved a_undone f_undos f_reached f_length f_begin f_sort f_sign f_value f_word f_wrongAt f_badAt f_bad a_told f_read f_side a_pile f_piled a_open f_opened f_joins f_had a_size a_capped a_connected a_bestCost a_bestCrosses a_bestPart a_part a_trees f_treeMany a_nodes f_nodeMany f_moveNode f_movePart f_moveFirst f_moveThen f_moveOther a_out f_outMany a_kept), (a_all, aI G 1276 v1), (a_part, aI G 256 g_part)] H := hP
  have hD : va_D A [(h0, O_R f_raised a_all a_text a_saved a_undone f_undos f_reached f_length f_begin f_sort f_sign f_value f_word f_wrongAt f_badAt f_bad a_told f_read f_side a_pile f_piled a_open f_opened f_joins f_had a_size a_capped a_connected a_bestCost a_bestCrosses a_bestPart a_part a_trees f_treeMany a_nodes f_nodeMany f_moveNode f_movePart f_moveFirst f_moveThen f_moveOther a_out f_outMany a_kept), (a_all, aI G 1276 v1), (a_part, aI G 256 g_part)] := hD
  refine lv_iconst (v := (0 : Int32)) hx hb d_R_isPlanNow_8 (by decide) ?_
  refine lv_istore_n (lv' := [(2, .int (0 : Int32)), (0, .ref h0), (1, .int x1)]) hx hb d_R_isPlanNow_9 rfl hl (by decide) rfl (fun ls hl => ?_)
  exact hJ10 v1 (0 : Int32) H locs ls ⟨hP, hD, hS⟩ (lv_sub hl [1, 0] rfl) hf
set_option maxHeartbeats 4000000 in
set_option maxRecDepth 100000 in
theorem c_R_choose (l : Launch) (G : va_G × (Nat → ClassId)) (Y : (Nat → Nat) × (Nat → Nat)) (h0 : Nat) (a_all : Nat) (a_text : Nat) (a_saved : Nat) (a_undone : Nat) (a_told : Nat) (a_pile : Nat) (a_open : Nat) (a_size : Nat) (a_capped : Nat) (a_connected : Nat) (a_bestCost : Nat) (a_bestCrosses : Nat) (a_bestPart : Nat) (a_part : Nat) (a_trees : Nat) (a_nodes : Nat) (a_out : Nat) (a_kept : Nat) (f_raised : Int32) (f_undos : Int32) (f_reached : Int32) (f_length : Int32) (f_begin : Int32) (f_sort : Int32) (f_sign : Int32) (f_value : Int32) (f_word : Int64) (f_wrongAt : Int32) (f_badAt : Int32) (f_bad : Int32) (f_read : Int32) (f_side : Int32) (f_piled : Int32) (f_opened : Int32) (f_joins : Int32) (f_had : Int32) (f_treeMany : Int32) (f_nodeMany : Int32) (f_moveNode : Int32) (f_movePart : Int32) (f_moveFirst : Int32) (f_moveThen : Int32) (f_moveOther : Int32) (f_outMany : Int32) (g_all : Nat → Int32) (g_bestCost : Nat → Int64) (g_bestCrosses : Nat → Int32) (g_bestPart : Nat → Int32) (g_capped : Nat → Int32) (g_connected : Nat → Int32) (g_part : Nat → Int32) (g_size : Nat → Int64) (g_trees : Nat → Int32) (g_undone : Nat → Int32) (N : Nat) (res : Int32 × Int32 × Int32 × Int32 × (Nat → Int32) × (Nat → Int64) × (Nat → Int32) × (Nat → Int32) × (Nat → Int32) × (Nat → Int32) × (Nat → Int32) × (Nat → Int64) × (Nat → Int32) × (Nat → Int32)) (hf : R_choose N f_raised f_undos f_treeMany g_all g_bestCost g_bestCrosses g_bestPart g_capped g_connected g_part g_size g_trees g_undone = some res) : Ci l classes y_R_choose b_R_choose 2 (some .int) (rmk 5) G.1 (tyL G) Y [.ref h0] [(h0, O_R f_raised a_all a_text a_saved a_undone f_undos f_reached f_length f_begin f_sort f_sign f_value f_word f_wrongAt f_badAt f_bad a_told f_read f_side a_pile f_piled a_open f_opened f_joins f_had a_size a_capped a_connected a_bestCost a_bestCrosses a_bestPart a_part a_trees f_treeMany a_nodes f_nodeMany f_moveNode f_movePart f_moveFirst f_moveThen f_moveOther a_out f_outMany a_kept), (a_all, aI G 1276 g_all), (a_bestCost, aJ G 512 g_bestCost), (a_bestCrosses, aI G 512 g_bestCrosses), (a_bestPart, aI G 512 g_bestPart), (a_capped, aZ G 256 g_capped), (a_connected, aZ G 256 g_connected), (a_part, aI G 256 g_part), (a_size, aJ G 256 g_size), (a_trees, aI G 8 g_trees), (a_undone, aI G 2528 g_undone)] [(h0, O_R res.2.1 a_all a_text a_saved a_undone res.2.2.1 f_reached f_length f_begin f_sort f_sign f_value f_word f_wrongAt f_badAt f_bad a_told f_read f_side a_pile f_piled a_open f_opened f_joins f_had a_size a_capped a_connected a_bestCost a_bestCrosses a_bestPart a_part a_trees res.2.2.2.1 a_nodes f_nodeMany f_moveNode f_movePart f_moveFirst f_moveThen f_moveOther a_out f_outMany a_kept), (a_all, aI G 1276 res.2.2.2.2.1), (a_bestCost, aJ G 512 res.2.2.2.2.2.1), (a_bestCrosses, aI G 512 res.2.2.2.2.2.2.1), (a_bestPart, aI G 512 res.2.2.2.2.2.2.2.1), (a_capped, aZ G 256 res.2.2.2.2.2.2.2.2.1), (a_connected, aZ G 256 res.2.2.2.2.2.2.2.2.2.1), (a_part, aI G 256 res.2.2.2.2.2.2.2.2.2.2.1), (a_size, aJ G 256 res.2.2.2.2.2.2.2.2.2.2.2.1), (a_trees, aI G 8 res.2.2.2.2.2.2.2.2.2.2.2.2.1), (a_undone, aI G 2528 res.2.2.2.2.2.2.2.2.2.2.2.2.2)] res.1 := by
  refine entI (by decide) (Nat.le_of_ble_eq_true rfl) ?_
  intro p e s m args below meth c ls A Q hx hb hml hown htl hK hsk wq hl hret
  obtain ⟨hP, hD, hS⟩ := wq
  have hl : lv_has ls 2 [(0, .ref h0)] := hl
  have hS : va_S A s.heap s.heap [] := hS
  obtain ⟨H, hH⟩ : ∃ H : Heap, H = s.heap := ⟨_, rfl⟩
  obtain ⟨locs, hlocs⟩ : ∃ z : List Loc, z = [] := ⟨_, rfl⟩
  rw [← hH] at hP
  replace hS : va_S A s.heap H locs := by rw [hH, hlocs]; exact hS
  suffices hgo : W p l e (rmk 5) s m args below meth c H locs 0 0 Q (F0 m 0 ls []) by rw [hH, hlocs] at hgo; exact hgo
  have hJ59 : ∀ (f_raised : Int32) (f_undos : Int32) (f_treeMany : Int32) (g_all : Nat → Int32) (g_bestCost : Nat → Int64) (g_bestCrosses : Nat → Int32) (g_bestPart : Nat → Int32) (g_capped : Nat → Int32) (g_connected : Nat → Int32) (g_part : Nat → Int32) (g_size : Nat → Int64) (g_trees : Nat → Int32) (g_undone : Nat → Int32) (x1 : Int32) (H : Heap) (locs : List Loc) (ls : Array Slot), PDS G.1 classes A s [(h0, O_R f_raised a_all a_text a_saved a_undone f_undos f_reached f_length f_begin f_sort f_sign f_value f_word f_wrongAt f_badAt f_bad a_told f_read f_side a_pile f_piled a_open f_opened f_joins f_had a_size a_capped a_connected a_bestCost a_bestCrosses a_bestPart a_part a_trees f_treeMany a_nodes f_nodeMany f_moveNode f_movePart f_moveFirst f_moveThen f_moveOther a_out f_outMany a_kept), (a_all, aI G 1276 g_all), (a_bestCost, aJ G 512 g_bestCost), (a_bestCrosses, aI G 512 g_bestCrosses), (a_bestPart, aI G 512 g_bestPart), (a_capped, aZ G 256 g_capped), (a_connected, aZ G 256 g_connected), (a_part, aI G 256 g_part), (a_size, aJ G 256 g_size), (a_trees, aI G 8 g_trees), (a_undone, aI G 2528 g_undone)] H locs → lv_has ls 2 [(0, .ref h0), (1, .int x1)] → R_choose_59 N f_raised f_undos f_treeMany g_all g_bestCost g_bestCrosses g_bestPart g_capped g_connected g_part g_size g_trees g_undone x1 = some res → W p l e (rmk 5) s m args below meth c H locs 0 0 Q (F0 m 59 ls []) := by
    intro f_raised f_undos f_treeMany g_all g_bestCost g_bestCrosses g_bestPart g_capped g_connected g_part g_size g_trees g_undone x1 H locs ls wq hl hf
    obtain ⟨hP, hD, hS⟩ := wq
    refine lv_aload_n hx hb d_R_choose_59 rfl (lv_at hl 0 rfl) ?_
    obtain ⟨t12, hv13, hf⟩ := db_e hf
    refine call_v (isC := [0, 1, 10]) (run_V (As := []) (rest := []) (ci := 12) (q0 := 0) hx hb hml hown htl (c_R_keeps l G Y  h0 a_all a_text a_saved a_undone a_told a_pile a_open a_size a_capped a_connected a_bestCost a_bestCrosses a_bestPart a_part a_trees a_nodes a_out a_kept f_raised f_undos f_reached f_length f_begin f_sort f_sign f_value f_word f_wrongAt f_badAt f_bad f_read f_side f_piled f_opened f_joins f_had f_treeMany f_nodeMany f_moveNode f_movePart f_moveFirst f_moveThen f_moveOther f_outMany g_all g_undone N t12 hv13) mv_R_keeps k_1437 (hRk (by decide) (by decide)) hK hsk hS hP hD (isC := [0, 1, 10]) rfl (by decide) rfl rfl rfl hl.1 rfl (lv_room (Nat.le_of_ble_eq_true rfl)) d_R_choose_60) hP hD hS rfl rfl (fun H locs hP hD hS => ?_)
    have hP : va_P G.1 classes [(h0, O_R f_raised a_all a_text a_saved a_undone t12.1 f_reached f_length f_begin f_sort f_sign f_value f_word f_wrongAt f_badAt f_bad a_told f_read f_side a_pile f_piled a_open f_opened f_joins f_had a_size a_capped a_connected a_bestCost a_bestCrosses a_bestPart a_part a_trees f_treeMany a_nodes f_nodeMany f_moveNode f_movePart f_moveFirst f_moveThen f_moveOther a_out f_outMany a_kept), (a_all, aI G 1276 g_all), (a_bestCost, aJ G 512 g_bestCost), (a_bestCrosses, aI G 512 g_bestCrosses), (a_bestPart, aI G 512 g_bestPart), (a_capped, aZ G 256 g_capped), (a_connected, aZ G 256 g_connected), (a_part, aI G 256 g_part), (a_size, aJ G 256 g_size), (a_trees, aI G 8 g_trees), (a_undone, aI G 2528 t12.2)] H := hP
    have hD : va_D A [(h0, O_R f_raised a_all a_text a_saved a_undone t12.1 f_reached f_length f_begin f_sort f_sign f_value f_word f_wrongAt f_badAt f_bad a_told f_read f_side a_pile f_piled a_open f_opened f_joins f_had a_size a_capped a_connected a_bestCost a_bestCrosses a_bestPart a_part a_trees f_treeMany a_nodes f_nodeMany f_moveNode f_movePart f_moveFirst f_moveThen f_moveOther a_out f_outMany a_kept), (a_all, aI G 1276 g_all), (a_bestCost, aJ G 512 g_bestCost), (a_bestCrosses, aI G 512 g_bestCrosses), (a_bestPart, aI G 512 g_bestPart), (a_capped, aZ G 256 g_capped), (a_connected, aZ G 256 g_connected), (a_part, aI G 256 g_part), (a_size, aJ G 256 g_size), (a_trees, aI G 8 g_trees), (a_undone, aI G 2528 t12.2)] := hD
    refine lv_aload_n hx hb d_R_choose_63 rfl (lv_at hl 0 rfl) ?_
    refine lv_aload_n hx hb d_R_choose_64 rfl (lv_at hl 0 rfl) ?_
    refine call_i (isC := [0, 1]) (run_V (As := []) (rest := [.ref h0]) (ci := 12) (q0 := 0) hx hb hml hown htl (c_R_everything l G Y  h0 a_all a_text a_saved a_undone a_told a_pile a_open a_size a_capped a_connected a_bestCost a_bestCrosses a_bestPart a_part a_trees a_nodes a_out a_kept f_raised t12.1 f_reached f_length f_begin f_sort f_sign f_value f_word f_wrongAt f_badAt f_bad f_read f_side f_piled f_opened f_joins f_had f_treeMany f_nodeMany f_moveNode f_movePart f_moveFirst f_moveThen f_moveOther f_outMany g_all _ rfl) mv_R_everything k_1466 (hRk (by decide) (by decide)) hK hsk hS hP hD (isC := [0, 1]) rfl (by decide) rfl rfl rfl hl.1 rfl (lv_room (Nat.le_of_ble_eq_true rfl)) d_R_choose_65) hP hD hS rfl rfl (fun H locs hP hD hS => ?_)
    have hP : va_P G.1 classes [(h0, O_R f_raised a_all a_text a_saved a_undone t12.1 f_reached f_length f_begin f_sort f_sign f_value f_word f_wrongAt f_badAt f_bad a_told f_read f_side a_pile f_piled a_open f_opened f_joins f_had a_size a_capped a_connected a_bestCost a_bestCrosses a_bestPart a_part a_trees f_treeMany a_nodes f_nodeMany f_moveNode f_movePart f_moveFirst f_moveThen f_moveOther a_out f_outMany a_kept), (a_all, aI G 1276 g_all), (a_bestCost, aJ G 512 g_bestCost), (a_bestCrosses, aI G 512 g_bestCrosses), (a_bestPart, aI G 512 g_bestPart), (a_capped, aZ G 256 g_capped), (a_connected, aZ G 256 g_connected), (a_part, aI G 256 g_part), (a_size, aJ G 256 g_size), (a_trees, aI G 8 g_trees), (a_undone, aI G 2528 t12.2)] H := hP
    have hD : va_D A [(h0, O_R f_raised a_all a_text a_saved a_undone t12.1 f_reached f_length f_begin f_sort f_sign f_value f_word f_wrongAt f_badAt f_bad a_told f_read f_side a_pile f_piled a_open f_opened f_joins f_had a_size a_capped a_connected a_bestCost a_bestCrosses a_bestPart a_part a_trees f_treeMany a_nodes f_nodeMany f_moveNode f_movePart f_moveFirst f_moveThen f_moveOther a_out f_outMany a_kept), (a_all, aI G 1276 g_all), (a_bestCost, aJ G 512 g_bestCost), (a_bestCrosses, aI G 512 g_bestCrosses), (a_bestPart, aI G 512 g_bestPart), (a_capped, aZ G 256 g_capped), (a_connected, aZ G 256 g_connected), (a_part, aI G 256 g_part), (a_size, aJ G 256 g_size), (a_trees, aI G 8 g_trees), (a_undone, aI G 2528 t12.2)] := hD
    obtain ⟨t14, hv15, hf⟩ := db_e hf
    refine call_v (isC := [0, 1, 7]) (run_V (As := [.int (R_everything g_all)]) (rest := []) (ci := 12) (q0 := 0) hx hb hml hown htl (c_R_isPlanNow l G Y  h0 a_all a_text a_saved a_undone a_told a_pile a_open a_size a_capped a_connected a_bestCost a_bestCrosses a_bestPart a_part a_trees a_nodes a_out a_kept f_raised t12.1 f_reached f_length f_begin f_sort f_sign f_value f_word f_wrongAt f_badAt f_bad f_read f_side f_piled f_opened f_joins f_had f_treeMany f_nodeMany f_moveNode f_movePart f_moveFirst f_moveThen f_moveOther f_outMany g_all g_part (R_everything g_all) N t14 hv15) mv_R_isPlanNow k_1566 (hRk (by decide) (by decide)) hK hsk hS hP hD (isC := [0, 1, 7]) rfl (by decide) rfl rfl rfl hl.1 rfl (lv_room (Nat.le_of_ble_eq_true rfl)) d_R_choose_68) hP hD hS rfl rfl (fun H locs hP hD hS => ?_)
    have hP : va_P G.1 classes [(h0, O_R f_raised a_all a_text a_saved a_undone t12.1 f_reached f_length f_begin f_sort f_sign f_value f_word f_wrongAt f_badAt f_bad a_told f_read f_side a_pile f_piled a_open f_opened f_joins f_had a_size a_capped a_connected a_bestCost a_bestCrosses a_bestPart a_part a_trees f_treeMany a_nodes f_nodeMany f_moveNode f_movePart f_moveFirst f_moveThen f_moveOther a_out f_outMany a_kept), (a_all, aI G 1276 t14), (a_bestCost, aJ G 512 g_bestCost), (a_bestCrosses, aI G 512 g_bestCrosses), (a_bestPart, aI G 512 g_bestPart), (a_capped, aZ G 256 g_capped), (a_connected, aZ G 256 g_connected), (a_part, aI G 256 g_part), (a_size, aJ G 256 g_size), (a_trees, aI G 8 g_trees), (a_undone, aI G 2528 t12.2)] H := hP
    have hD : va_D A [(h0, O_R f_raised a_all a_text a_saved a_undone t12.1 f_reached f_length f_begin f_sort f_sign f_value f_word f_wrongAt f_badAt f_bad a_told f_read f_side a_pile f_piled a_open f_opened f_joins f_had a_size a_capped a_connected a_bestCost a_bestCrosses a_bestPart a_part a_trees f_treeMany a_nodes f_nodeMany f_moveNode f_movePart f_moveFirst f_moveThen f_moveOther a_out f_outMany a_kept), (a_all, aI G 1276 t14), (a_bestCost, aJ G 512 g_bestCost), (a_bestCrosses, aI G 512 g_bestCrosses), (a_bestPart, aI G 512 g_bestPart), (a_capped, aZ G 256 g_capped), (a_connected, aZ G 256 g_connected), (a_part, aI G 256 g_part), (a_size, aJ G 256 g_size), (a_trees, aI G 8 g_trees), (a_undone, aI G 2528 t12.2)] := hD
    refine lv_iload_n hx hb d_R_choose_71 rfl (lv_at hl 1 rfl) ?_
    refine lv_if_eq (tgt := 79) hx hb d_R_choose_72 (by decide) (fun c16 => ?_) (fun c16 => ?_)
    · have hf := di_t c16 hf
      refine lv_iconst (v := (0 : Int32)) hx hb d_R_choose_79 (by decide) ?_
      cases hf
      exact hret 80 ls H locs hP hS d_R_choose_80
    · have hf := di_f c16 hf
      refine lv_iconst (v := (1 : Int32)) hx hb d_R_choose_75 (by decide) ?_
      refine lv_goto (tgt := 80) hx hb d_R_choose_76 (by decide) ?_
      cases hf
      exact hret 80 ls H locs hP hS d_R_choose_80
  have hJ39 : ∀ (f_raised : Int32) (f_undos : Int32) (f_treeMany : Int32) (g_all : Nat → Int32) (g_bestCost : Nat → Int64) (g_bestCrosses : Nat → Int32) (g_bestPart : Nat → Int32) (g_capped : Nat → Int32) (g_connected : Nat → Int32) (g_part : Nat → Int32) (g_size : Nat → Int64) (g_trees : Nat → Int32) (g_undone : Nat → Int32) (z0 : Int32) (H : Heap) (locs : List Loc) (ls : Array Slot), PDS G.1 classes A s [(h0, O_R f_raised a_all a_text a_saved a_undone f_undos f_reached f_length f_begin f_sort f_sign f_value f_word f_wrongAt f_badAt f_bad a_told f_read f_side a_pile f_piled a_open f_opened f_joins f_had a_size a_capped a_connected a_bestCost a_bestCrosses a_bestPart a_part a_trees f_treeMany a_nodes f_nodeMany f_moveNode f_movePart f_moveFirst f_moveThen f_moveOther a_out f_outMany a_kept), (a_all, aI G 1276 g_all), (a_bestCost, aJ G 512 g_bestCost), (a_bestCrosses, aI G 512 g_bestCrosses), (a_bestPart, aI G 512 g_bestPart), (a_capped, aZ G 256 g_capped), (a_connected, aZ G 256 g_connected), (a_part, aI G 256 g_part), (a_size, aJ G 256 g_size), (a_trees, aI G 8 g_trees), (a_undone, aI G 2528 g_undone)] H locs → lv_has ls 2 [(0, .ref h0)] → R_choose_39 N f_raised f_undos f_treeMany g_all g_bestCost g_bestCrosses g_bestPart g_capped g_connected g_part g_size g_trees g_undone z0 = some res → W p l e (rmk 5) s m args below meth c H locs 0 0 Q (F0 m 39 ls [.int z0]) := by
    intro f_raised f_undos f_treeMany g_all g_bestCost g_bestCrosses g_bestPart g_capped g_connected g_part g_size g_trees g_undone z0 H locs ls wq hl hf
    obtain ⟨hP, hD, hS⟩ := wq
    refine lv_istore_n (lv' := [(1, .int z0), (0, .ref h0)]) hx hb d_R_choose_39 rfl hl (by decide) rfl (fun ls hl => ?_)
    refine lv_iload_n hx hb d_R_choose_40 rfl (lv_at hl 0 rfl) ?_
    refine lv_if_eq (tgt := 51) hx hb d_R_choose_41 (by decide) (fun c7 => ?_) (fun c7 => ?_)
    · have hf := di_t c7 hf
      refine lv_aload_n hx hb d_R_choose_51 rfl (lv_at hl 1 rfl) ?_
      refine lv_aload_n hx hb d_R_choose_52 rfl (lv_at hl 1 rfl) ?_
      refine call_i (isC := [0, 1]) (run_V (As := []) (rest := [.ref h0]) (ci := 12) (q0 := 0) hx hb hml hown htl (c_R_everything l G Y  h0 a_all a_text a_saved a_undone a_told a_pile a_open a_size a_capped a_connected a_bestCost a_bestCrosses a_bestPart a_part a_trees a_nodes a_out a_kept f_raised f_undos f_reached f_length f_begin f_sort f_sign f_value f_word f_wrongAt f_badAt f_bad f_read f_side f_piled f_opened f_joins f_had f_treeMany f_nodeMany f_moveNode f_movePart f_moveFirst f_moveThen f_moveOther f_outMany g_all _ rfl) mv_R_everything k_1466 (hRk (by decide) (by decide)) hK hsk hS hP hD (isC := [0, 1]) rfl (by decide) rfl rfl rfl hl.1 rfl (lv_room (Nat.le_of_ble_eq_true rfl)) d_R_choose_53) hP hD hS rfl rfl (fun H locs hP hD hS => ?_)
      have hP : va_P G.1 classes [(h0, O_R f_raised a_all a_text a_saved a_undone f_undos f_reached f_length f_begin f_sort f_sign f_value f_word f_wrongAt f_badAt f_bad a_told f_read f_side a_pile f_piled a_open f_opened f_joins f_had a_size a_capped a_connected a_bestCost a_bestCrosses a_bestPart a_part a_trees f_treeMany a_nodes f_nodeMany f_moveNode f_movePart f_moveFirst f_moveThen f_moveOther a_out f_outMany a_kept), (a_all, aI G 1276 g_all), (a_bestCost, aJ G 512 g_bestCost), (a_bestCrosses, aI G 512 g_bestCrosses), (a_bestPart, aI G 512 g_bestPart), (a_capped, aZ G 256 g_capped), (a_connected, aZ G 256 g_connected), (a_part, aI G 256 g_part), (a_size, aJ G 256 g_size), (a_trees, aI G 8 g_trees), (a_undone, aI G 2528 g_undone)] H := hP
      have hD : va_D A [(h0, O_R f_raised a_all a_text a_saved a_undone f_undos f_reached f_length f_begin f_sort f_sign f_value f_word f_wrongAt f_badAt f_bad a_told f_read f_side a_pile f_piled a_open f_opened f_joins f_had a_size a_capped a_connected a_bestCost a_bestCrosses a_bestPart a_part a_trees f_treeMany a_nodes f_nodeMany f_moveNode f_movePart f_moveFirst f_moveThen f_moveOther a_out f_outMany a_kept), (a_all, aI G 1276 g_all), (a_bestCost, aJ G 512 g_bestCost), (a_bestCrosses, aI G 512 g_bestCrosses), (a_bestPart, aI G 512 g_bestPart), (a_capped, aZ G 256 g_capped), (a_connected, aZ G 256 g_connected), (a_part, aI G 256 g_part), (a_size, aJ G 256 g_size), (a_trees, aI G 8 g_trees), (a_undone, aI G 2528 g_undone)] := hD
      obtain ⟨t8, hv9, hf⟩ := db_e hf
      refine call_v (isC := [0, 4, 7]) (run_V (As := [.int (R_everything g_all)]) (rest := []) (ci := 12) (q0 := 0) hx hb hml hown htl (c_R_partsOfBest l G Y  h0 a_all a_text a_saved a_undone a_told a_pile a_open a_size a_capped a_connected a_bestCost a_bestCrosses a_bestPart a_part a_trees a_nodes a_out a_kept f_raised f_undos f_reached f_length f_begin f_sort f_sign f_value f_word f_wrongAt f_badAt f_bad f_read f_side f_piled f_opened f_joins f_had f_treeMany f_nodeMany f_moveNode f_movePart f_moveFirst f_moveThen f_moveOther f_outMany g_bestPart g_part (R_everything g_all) N t8 hv9) mv_R_partsOfBest k_1562 (hRk (by decide) (by decide)) hK hsk hS hP hD (isC := [0, 4, 7]) rfl (by decide) rfl rfl rfl hl.1 rfl (lv_room (Nat.le_of_ble_eq_true rfl)) d_R_choose_56) hP hD hS rfl rfl (fun H locs hP hD hS => ?_)
      have hP : va_P G.1 classes [(h0, O_R f_raised a_all a_text a_saved a_undone f_undos f_reached f_length f_begin f_sort f_sign f_value f_word f_wrongAt f_badAt f_bad a_told f_read f_side a_pile f_piled a_open f_opened f_joins f_had a_size a_capped a_connected a_bestCost a_bestCrosses a_bestPart a_part a_trees f_treeMany a_nodes f_nodeMany f_moveNode f_movePart f_moveFirst f_moveThen f_moveOther a_out f_outMany a_kept), (a_all, aI G 1276 g_all), (a_bestCost, aJ G 512 g_bestCost), (a_bestCrosses, aI G 512 g_bestCrosses), (a_bestPart, aI G 512 g_bestPart), (a_capped, aZ G 256 g_capped), (a_connected, aZ G 256 g_connected), (a_part, aI G 256 t8), (a_size, aJ G 256 g_size), (a_trees, aI G 8 g_trees), (a_undone, aI G 2528 g_undone)] H := hP
      have hD : va_D A [(h0, O_R f_raised a_all a_text a_saved a_undone f_undos f_reached f_length f_begin f_sort f_sign f_value f_word f_wrongAt f_badAt f_bad a_told f_read f_side a_pile f_piled a_open f_opened f_joins f_had a_size a_capped a_connected a_bestCost a_bestCrosses a_bestPart a_part a_trees f_treeMany a_nodes f_nodeMany f_moveNode f_movePart f_moveFirst f_moveThen f_moveOther a_out f_outMany a_kept), (a_all, aI G 1276 g_all), (a_bestCost, aJ G 512 g_bestCost), (a_bestCrosses, aI G 512 g_bestCrosses), (a_bestPart, aI G 512 g_bestPart), (a_capped, aZ G 256 g_capped), (a_connected, aZ G 256 g_connected), (a_part, aI G 256 t8), (a_size, aJ G 256 g_size), (a_trees, aI G 8 g_trees), (a_undone, aI G 2528 g_undone)] := hD
      exact hJ59 f_raised f_undos f_treeMany g_all g_bestCost g_bestCrosses g_bestPart g_capped g_connected t8 g_size g_trees g_undone z0 H locs ls ⟨hP, hD, hS⟩ (lv_sub hl [1, 0] rfl) hf
    · have hf := di_f c7 hf
      refine lv_aload_n hx hb d_R_choose_44 rfl (lv_at hl 1 rfl) ?_
      obtain ⟨t10, hv11, hf⟩ := db_e hf
      refine call_v (isC := [0, 1, 7, 8, 9]) (run_V (As := []) (rest := []) (ci := 12) (q0 := 0) hx hb hml hown htl (c_R_partsOfGreedy l G Y  h0 a_all a_text a_saved a_undone a_told a_pile a_open a_size a_capped a_connected a_bestCost a_bestCrosses a_bestPart a_part a_trees a_nodes a_out a_kept f_raised f_undos f_reached f_length f_begin f_sort f_sign f_value f_word f_wrongAt f_badAt f_bad f_read f_side f_piled f_opened f_joins f_had f_treeMany f_nodeMany f_moveNode f_movePart f_moveFirst f_moveThen f_moveOther f_outMany g_all g_part g_size g_trees N t10 hv11) mv_R_partsOfGreedy k_1546 (hRk (by decide) (by decide)) hK hsk hS hP hD (isC := [0, 1, 7, 8, 9]) rfl (by decide) rfl rfl rfl hl.1 rfl (lv_room (Nat.le_of_ble_eq_true rfl)) d_R_choose_45) hP hD hS rfl rfl (fun H locs hP hD hS => ?_)
      have hP : va_P G.1 classes [(h0, O_R f_raised a_all a_text a_saved a_undone f_undos f_reached f_length f_begin f_sort f_sign f_value f_word f_wrongAt f_badAt f_bad a_told f_read f_side a_pile f_piled a_open f_opened f_joins f_had a_size a_capped a_connected a_bestCost a_bestCrosses a_bestPart a_part a_trees t10.1 a_nodes f_nodeMany f_moveNode f_movePart f_moveFirst f_moveThen f_moveOther a_out f_outMany a_kept), (a_all, aI G 1276 g_all), (a_bestCost, aJ G 512 g_bestCost), (a_bestCrosses, aI G 512 g_bestCrosses), (a_bestPart, aI G 512 g_bestPart), (a_capped, aZ G 256 g_capped), (a_connected, aZ G 256 g_connected), (a_part, aI G 256 t10.2.1), (a_size, aJ G 256 g_size), (a_trees, aI G 8 t10.2.2), (a_undone, aI G 2528 g_undone)] H := hP
      have hD : va_D A [(h0, O_R f_raised a_all a_text a_saved a_undone f_undos f_reached f_length f_begin f_sort f_sign f_value f_word f_wrongAt f_badAt f_bad a_told f_read f_side a_pile f_piled a_open f_opened f_joins f_had a_size a_capped a_connected a_bestCost a_bestCrosses a_bestPart a_part a_trees t10.1 a_nodes f_nodeMany f_moveNode f_movePart f_moveFirst f_moveThen f_moveOther a_out f_outMany a_kept), (a_all, aI G 1276 g_all), (a_bestCost, aJ G 512 g_bestCost), (a_bestCrosses, aI G 512 g_bestCrosses), (a_bestPart, aI G 512 g_bestPart), (a_capped, aZ G 256 g_capped), (a_connected, aZ G 256 g_connected), (a_part, aI G 256 t10.2.1), (a_size, aJ G 256 g_size), (a_trees, aI G 8 t10.2.2), (a_undone, aI G 2528 g_undone)] := hD
      refine lv_goto (tgt := 59) hx hb d_R_choose_48 (by decide) ?_
      exact hJ59 f_raised f_undos t10.1 g_all g_bestCost g_bestCrosses g_bestPart g_capped g_connected t10.2.1 g_size t10.2.2 g_undone z0 H locs ls ⟨hP, hD, hS⟩ (lv_sub hl [1, 0] rfl) hf
  refine lv_aload_n hx hb d_R_choose_0 rfl (lv_at hl 0 rfl) ?_
  refine lv_iconst (v := (0 : Int32)) hx hb d_R_choose_1 (by decide) ?_
  refine va_put (D := G.1) (ci := 12) (v := .int (0 : Int32)) (ty := .int) (C := n_R) (T := T_R) (N := 44) hx hb htl iw_R ty_R ty_R_ok nm_R hown hK hP hD hS 0 rfl rfl 0 (by decide) (htl _ k_1196) (fun _ h9 => h9) rfl (by decide +kernel) rfl rfl (Nat.le_of_ble_eq_true rfl) d_R_choose_2 (fun H locs hP hD hS => ?_)
  have hP : va_P G.1 classes [(h0, O_R (0 : Int32) a_all a_text a_saved a_undone f_undos f_reached f_length f_begin f_sort f_sign f_value f_word f_wrongAt f_badAt f_bad a_told f_read f_side a_pile f_piled a_open f_opened f_joins f_had a_size a_capped a_connected a_bestCost a_bestCrosses a_bestPart a_part a_trees f_treeMany a_nodes f_nodeMany f_moveNode f_movePart f_moveFirst f_moveThen f_moveOther a_out f_outMany a_kept), (a_all, aI G 1276 g_all), (a_bestCost, aJ G 512 g_bestCost), (a_bestCrosses, aI G 512 g_bestCrosses), (a_bestPart, aI G 512 g_bestPart), (a_capped, aZ G 256 g_capped), (a_connected, aZ G 256 g_connected), (a_part, aI G 256 g_part), (a_size, aJ G 256 g_size), (a_trees, aI G 8 g_trees), (a_undone, aI G 2528 g_undone)] H := hP
  have hD : va_D A [(h0, O_R (0 : Int32) a_all a_text a_saved a_undone f_undos f_reached f_length f_begin f_sort f_sign f_value f_word f_wrongAt f_badAt f_bad a_told f_read f_side a_pile f_piled a_open f_opened f_joins f_had a_size a_capped a_connected a_bestCost a_bestCrosses a_bestPart a_part a_trees f_treeMany a_nodes f_nodeMany f_moveNode f_movePart f_moveFirst f_moveThen f_moveOther a_out f_outMany a_kept), (a_all, aI G 1276 g_all), (a_bestCost, aJ G 512 g_bestCost), (a_bestCrosses, aI G 512 g_bestCrosses), (a_bestPart, aI G 512 g_bestPart), (a_capped, aZ G 256 g_capped), (a_connected, aZ G 256 g_connected), (a_part, aI G 256 g_part), (a_size, aJ G 256 g_size), (a_trees, aI G 8 g_trees), (a_undone, aI G 2528 g_undone)] := hD
  refine lv_aload_n hx hb d_R_choose_5 rfl (lv_at hl 0 rfl) ?_
  refine va_get (D := G.1) (ci := 12) (v := .ref a_all) (C := n_R) (T := T_R) (N := 44) hx hb htl iw_R hown hK hP 0 rfl rfl 1 (by decide) (htl _ k_1197) (fun _ h9 => h9) rfl d_R_choose_6 ?_
  refine lv_iconst (v := (0 : Int32)) hx hb d_R_choose_9 (by decide) ?_
  refine va_iald hx hb hK hP 1 1 rfl rfl (vp_lit (by decide)) d_R_choose_10 ?_
  refine lv_if_ne (tgt := 16) hx hb d_R_choose_11 (by decide) (fun c1 => ?_) (fun c1 => ?_)
  · have hf := di_f c1 hf
    refine lv_aload_n hx hb d_R_choose_16 rfl (lv_at hl 0 rfl) ?_
    obtain ⟨t2, hv3, hf⟩ := db_e hf
    refine call_v (isC := [0, 1, 2, 3, 4, 5, 6, 8]) (run_V (As := []) (rest := []) (ci := 12) (q0 := 0) hx hb hml hown htl (c_R_lays l G Y  h0 a_all a_text a_saved a_undone a_told a_pile a_open a_size a_capped a_connected a_bestCost a_bestCrosses a_bestPart a_part a_trees a_nodes a_out a_kept (0 : Int32) f_undos f_reached f_length f_begin f_sort f_sign f_value f_word f_wrongAt f_badAt f_bad f_read f_side f_piled f_opened f_joins f_had f_treeMany f_nodeMany f_moveNode f_movePart f_moveFirst f_moveThen f_moveOther f_outMany g_all g_bestCost g_bestCrosses g_bestPart g_capped g_connected g_size N t2 hv3) mv_R_lays k_1503 (hRk (by decide) (by decide)) hK hsk hS hP hD (isC := [0, 1, 2, 3, 4, 5, 6, 8]) rfl (by decide) rfl rfl rfl hl.1 rfl (lv_room (Nat.le_of_ble_eq_true rfl)) d_R_choose_17) hP hD hS rfl rfl (fun H locs hP hD hS => ?_)
    have hP : va_P G.1 classes [(h0, O_R (0 : Int32) a_all a_text a_saved a_undone f_undos f_reached f_length f_begin f_sort f_sign f_value f_word f_wrongAt f_badAt f_bad a_told f_read f_side a_pile f_piled a_open f_opened f_joins f_had a_size a_capped a_connected a_bestCost a_bestCrosses a_bestPart a_part a_trees f_treeMany a_nodes f_nodeMany f_moveNode f_movePart f_moveFirst f_moveThen f_moveOther a_out f_outMany a_kept), (a_all, aI G 1276 g_all), (a_bestCost, aJ G 512 t2.1), (a_bestCrosses, aI G 512 t2.2.1), (a_bestPart, aI G 512 t2.2.2.1), (a_capped, aZ G 256 t2.2.2.2.1), (a_connected, aZ G 256 t2.2.2.2.2.1), (a_part, aI G 256 g_part), (a_size, aJ G 256 t2.2.2.2.2.2), (a_trees, aI G 8 g_trees), (a_undone, aI G 2528 g_undone)] H := hP
    have hD : va_D A [(h0, O_R (0 : Int32) a_all a_text a_saved a_undone f_undos f_reached f_length f_begin f_sort f_sign f_value f_word f_wrongAt f_badAt f_bad a_told f_read f_side a_pile f_piled a_open f_opened f_joins f_had a_size a_capped a_connected a_bestCost a_bestCrosses a_bestPart a_part a_trees f_treeMany a_nodes f_nodeMany f_moveNode f_movePart f_moveFirst f_moveThen f_moveOther a_out f_outMany a_kept), (a_all, aI G 1276 g_all), (a_bestCost, aJ G 512 t2.1), (a_bestCrosses, aI G 512 t2.2.1), (a_bestPart, aI G 512 t2.2.2.1), (a_capped, aZ G 256 t2.2.2.2.1), (a_connected, aZ G 256 t2.2.2.2.2.1), (a_part, aI G 256 g_part), (a_size, aJ G 256 t2.2.2.2.2.2), (a_trees, aI G 8 g_trees), (a_undone, aI G 2528 g_undone)] := hD
    refine lv_aload_n hx hb d_R_choose_20 rfl (lv_at hl 0 rfl) ?_
    obtain ⟨t4, hv5, hf⟩ := db_e hf
    refine call_i (isC := [0, 1, 6]) (run_V (As := []) (rest := []) (ci := 12) (q0 := 0) hx hb hml hown htl (c_R_pairMany l G Y  h0 a_all a_text a_saved a_undone a_told a_pile a_open a_size a_capped a_connected a_bestCost a_bestCrosses a_bestPart a_part a_trees a_nodes a_out a_kept (0 : Int32) f_undos f_reached f_length f_begin f_sort f_sign f_value f_word f_wrongAt f_badAt f_bad f_read f_side f_piled f_opened f_joins f_had f_treeMany f_nodeMany f_moveNode f_movePart f_moveFirst f_moveThen f_moveOther f_outMany g_all t2.2.2.2.2.1 N t4 hv5) mv_R_pairMany k_1542 (hRk (by decide) (by decide)) hK hsk hS hP hD (isC := [0, 1, 6]) rfl (by decide) rfl rfl rfl hl.1 rfl (lv_room (Nat.le_of_ble_eq_true rfl)) d_R_choose_21) hP hD hS rfl rfl (fun H locs hP hD hS => ?_)
    have hP : va_P G.1 classes [(h0, O_R (0 : Int32) a_all a_text a_saved a_undone f_undos f_reached f_length f_begin f_sort f_sign f_value f_word f_wrongAt f_badAt f_bad a_told f_read f_side a_pile f_piled a_open f_opened f_joins f_had a_size a_capped a_connected a_bestCost a_bestCrosses a_bestPart a_part a_trees f_treeMany a_nodes f_nodeMany f_moveNode f_movePart f_moveFirst f_moveThen f_moveOther a_out f_outMany a_kept), (a_all, aI G 1276 g_all), (a_bestCost, aJ G 512 t2.1), (a_bestCrosses, aI G 512 t2.2.1), (a_bestPart, aI G 512 t2.2.2.1), (a_capped, aZ G 256 t2.2.2.2.1), (a_connected, aZ G 256 t2.2.2.2.2.1), (a_part, aI G 256 g_part), (a_size, aJ G 256 t2.2.2.2.2.2), (a_trees, aI G 8 g_trees), (a_undone, aI G 2528 g_undone)] H := hP
    have hD : va_D A [(h0, O_R (0 : Int32) a_all a_text a_saved a_undone f_undos f_reached f_length f_begin f_sort f_sign f_value f_word f_wrongAt f_badAt f_bad a_told f_read f_side a_pile f_piled a_open f_opened f_joins f_had a_size a_capped a_connected a_bestCost a_bestCrosses a_bestPart a_part a_trees f_treeMany a_nodes f_nodeMany f_moveNode f_movePart f_moveFirst f_moveThen f_moveOther a_out f_outMany a_kept), (a_all, aI G 1276 g_all), (a_bestCost, aJ G 512 t2.1), (a_bestCrosses, aI G 512 t2.2.1), (a_bestPart, aI G 512 t2.2.2.1), (a_capped, aZ G 256 t2.2.2.2.1), (a_connected, aZ G 256 t2.2.2.2.2.1), (a_part, aI G 256 g_part), (a_size, aJ G 256 t2.2.2.2.2.2), (a_trees, aI G 8 g_trees), (a_undone, aI G 2528 g_undone)] := hD
    refine lv_aload_n hx hb d_R_choose_24 rfl (lv_at hl 0 rfl) ?_
    refine va_get (D := G.1) (ci := 12) (v := .ref a_all) (C := n_R) (T := T_R) (N := 44) hx hb htl iw_R hown hK hP 0 rfl rfl 1 (by decide) (htl _ k_1197) (fun _ h9 => h9) rfl d_R_choose_25 ?_
    refine lv_bipush (v := (58 : Int32)) hx hb d_R_choose_28 (by decide) ?_
    refine va_iald hx hb hK hP 1 1 rfl rfl (vp_lit (by decide)) d_R_choose_30 ?_
    refine lv_icmp_le (tgt := 38) hx hb d_R_choose_31 (by decide) (fun c6 => ?_) (fun c6 => ?_)
    · have hf := di_t c6 hf
      refine lv_iconst (v := (0 : Int32)) hx hb d_R_choose_38 (by decide) ?_
      exact hJ39 (0 : Int32) f_undos f_treeMany g_all t2.1 t2.2.1 t2.2.2.1 t2.2.2.2.1 t2.2.2.2.2.1 g_part t2.2.2.2.2.2 g_trees g_undone (0 : Int32) H locs ls ⟨hP, hD, hS⟩ (lv_sub hl [0] rfl) hf
    · have hf := di_f c6 hf
      refine lv_iconst (v := (1 : Int32)) hx hb d_R_choose_34 (by decide) ?_
      refine lv_goto (tgt := 39) hx hb d_R_choose_35 (by decide) ?_
      exact hJ39 (0 : Int32) f_undos f_treeMany g_all t2.1 t2.2.1 t2.2.2.1 t2.2.2.2.1 t2.2.2.2.2.1 g_part t2.2.2.2.2.2 g_trees g_undone (1 : Int32) H locs ls ⟨hP, hD, hS⟩ (lv_sub hl [0] rfl) hf
  · have hf := di_t c1 hf
    refine lv_iconst (v := (-1 : Int32)) hx hb d_R_choose_14 (by decide) ?_
    cases hf
    exact hret 15 ls H locs hP hS d_R_choose_15
set_option maxHeartbeats 4000000 in
set_option maxRecDepth 100000 in
theorem c_R_step (l : Launch) (G : va_G × (Nat → ClassId)) (Y : (Nat → Nat) × (Nat → Nat)) (h0 : Nat) (a_all : Nat) (a_text : Nat) (a_saved : Nat) (a_undone : Nat) (a_told : Nat) (a_pile : Nat) (a_open : Nat) (a_size : Nat) (a_capped : Nat) (a_connected : Nat) (a_bestCost : Nat) (a_bestCrosses : Nat) (a_bestPart : Nat) (a_part : Nat) (a_trees : Nat) (a_nodes : Nat) (a_out : Nat) (a_kept : Nat) (f_raised : Int32) (f_undos : Int32) (f_reached : Int32) (f_length : Int32) (f_begin : Int32) (f_sort : Int32) (f_sign : Int32) (f_value : Int32) (f_word : Int64) (f_wrongAt : Int32) (f_badAt : Int32) (f_bad : Int32) (f_read : Int32) (f_side : Int32) (f_piled : Int32) (f_opened : Int32) (f_joins : Int32) (f_had : Int32) (f_treeMany : Int32) (f_nodeMany : Int32) (f_moveNode : Int32) (f_movePart : Int32) (f_moveFirst : Int32) (f_moveThen : Int32) (f_moveOther : Int32) (f_outMany : Int32) (g_all : Nat → Int32) (g_bestCost : Nat → Int64) (g_bestCrosses : Nat → Int32) (g_bestPart : Nat → Int32) (g_capped : Nat → Int32) (g_connected : Nat → Int32) (g_nodes : Nat → Int32) (g_open : Nat → Int32) (g_part : Nat → Int32) (g_size : Nat → Int64) (g_undone : Nat → Int32) (N : Nat) (res : Int32 × Int32 × Int32 × Int32 × Int32 × Int32 × Int32 × Int32 × Int32 × Int32 × (Nat → Int32) × (Nat → Int64) × (Nat → Int32) × (Nat → Int32) × (Nat → Int32) × (Nat → Int32) × (Nat → Int32) × (Nat → Int32) × (Nat → Int32) × (Nat → Int64) × (Nat → Int32)) (hf : R_step N f_raised f_undos f_opened f_nodeMany f_moveNode f_movePart f_moveFirst f_moveThen f_moveOther g_all g_bestCost g_bestCrosses g_bestPart g_capped g_connected g_nodes g_open g_part g_size g_undone = some res) : Ci l classes y_R_step b_R_step 4 (some .int) (rmk 5) G.1 (tyL G) Y [.ref h0] [(h0, O_R f_raised a_all a_text a_saved a_undone f_undos f_reached f_length f_begin f_sort f_sign f_value f_word f_wrongAt f_badAt f_bad a_told f_read f_side a_pile f_piled a_open f_opened f_joins f_had a_size a_capped a_connected a_bestCost a_bestCrosses a_bestPart a_part a_trees f_treeMany a_nodes f_nodeMany f_moveNode f_movePart f_moveFirst f_moveThen f_moveOther a_out f_outMany a_kept), (a_all, aI G 1276 g_all), (a_bestCost, aJ G 512 g_bestCost), (a_bestCrosses, aI G 512 g_bestCrosses), (a_bestPart, aI G 512 g_bestPart), (a_capped, aZ G 256 g_capped), (a_connected, aZ G 256 g_connected), (a_nodes, aI G 8 g_nodes), (a_open, aI G 502 g_open), (a_part, aI G 256 g_part), (a_size, aJ G 256 g_size), (a_undone, aI G 2528 g_undone)] [(h0, O_R res.2.1 a_all a_text a_saved a_undone res.2.2.1 f_reached f_length f_begin f_sort f_sign f_value f_word f_wrongAt f_badAt f_bad a_told f_read f_side a_pile f_piled a_open res.2.2.2.1 f_joins f_had a_size a_capped a_connected a_bestCost a_bestCrosses a_bestPart a_part a_trees f_treeMany a_nodes res.2.2.2.2.1 res.2.2.2.2.2.1 res.2.2.2.2.2.2.1 res.2.2.2.2.2.2.2.1 res.2.2.2.2.2.2.2.2.1 res.2.2.2.2.2.2.2.2.2.1 a_out f_outMany a_kept), (a_all, aI G 1276 res.2.2.2.2.2.2.2.2.2.2.1), (a_bestCost, aJ G 512 res.2.2.2.2.2.2.2.2.2.2.2.1), (a_bestCrosses, aI G 512 res.2.2.2.2.2.2.2.2.2.2.2.2.1), (a_bestPart, aI G 512 res.2.2.2.2.2.2.2.2.2.2.2.2.2.1), (a_capped, aZ G 256 res.2.2.2.2.2.2.2.2.2.2.2.2.2.2.1), (a_connected, aZ G 256 res.2.2.2.2.2.2.2.2.2.2.2.2.2.2.2.1), (a_nodes, aI G 8 res.2.2.2.2.2.2.2.2.2.2.2.2.2.2.2.2.1), (a_open, aI G 502 res.2.2.2.2.2.2.2.2.2.2.2.2.2.2.2.2.2.1), (a_part, aI G 256 res.2.2.2.2.2.2.2.2.2.2.2.2.2.2.2.2.2.2.1), (a_size, aJ G 256 res.2.2.2.2.2.2.2.2.2.2.2.2.2.2.2.2.2.2.2.1), (a_undone, aI G 2528 res.2.2.2.2.2.2.2.2.2.2.2.2.2.2.2.2.2.2.2.2)] res.1 := by
  refine entI (by decide) (Nat.le_of_ble_eq_true rfl) ?_
  intro p e s m args below meth c ls A Q hx hb hml hown htl hK hsk wq hl hret
  obtain ⟨hP, hD, hS⟩ := wq
  have hl : lv_has ls 4 [(0, .ref h0)] := hl
  have hS : va_S A s.heap s.heap [] := hS
  obtain ⟨H, hH⟩ : ∃ H : Heap, H = s.heap := ⟨_, rfl⟩
  obtain ⟨locs, hlocs⟩ : ∃ z : List Loc, z = [] := ⟨_, rfl⟩
  rw [← hH] at hP
  replace hS : va_S A s.heap H locs := by rw [hH, hlocs]; exact hS
  suffices hgo : W p l e (rmk 5) s m args below meth c H locs 0 0 Q (F0 m 0 ls []) by rw [hH, hlocs] at hgo; exact hgo
  refine lv_aload_n hx hb d_R_step_0 rfl (lv_at hl 0 rfl) ?_
  refine lv_iconst (v := (0 : Int32)) hx hb d_R_step_1 (by decide) ?_
  refine va_put (D := G.1) (ci := 12) (v := .int (0 : Int32)) (ty := .int) (C := n_R) (T := T_R) (N := 44) hx hb htl iw_R ty_R ty_R_ok nm_R hown hK hP hD hS 0 rfl rfl 0 (by decide) (htl _ k_1196) (fun _ h9 => h9) rfl (by decide +kernel) rfl rfl (Nat.le_of_ble_eq_true rfl) d_R_step_2 (fun H locs hP hD hS => ?_)
  have hP : va_P G.1 classes [(h0, O_R (0 : Int32) a_all a_text a_saved a_undone f_undos f_reached f_length f_begin f_sort f_sign f_value f_word f_wrongAt f_badAt f_bad a_told f_read f_side a_pile f_piled a_open f_opened f_joins f_had a_size a_capped a_connected a_bestCost a_bestCrosses a_bestPart a_part a_trees f_treeMany a_nodes f_nodeMany f_moveNode f_movePart f_moveFirst f_moveThen f_moveOther a_out f_outMany a_kept), (a_all, aI G 1276 g_all), (a_bestCost, aJ G 512 g_bestCost), (a_bestCrosses, aI G 512 g_bestCrosses), (a_bestPart, aI G 512 g_bestPart), (a_capped, aZ G 256 g_capped), (a_connected, aZ G 256 g_connected), (a_nodes, aI G 8 g_nodes), (a_open, aI G 502 g_open), (a_part, aI G 256 g_part), (a_size, aJ G 256 g_size), (a_undone, aI G 2528 g_undone)] H := hP
  have hD : va_D A [(h0, O_R (0 : Int32) a_all a_text a_saved a_undone f_undos f_reached f_length f_begin f_sort f_sign f_value f_word f_wrongAt f_badAt f_bad a_told f_read f_side a_pile f_piled a_open f_opened f_joins f_had a_size a_capped a_connected a_bestCost a_bestCrosses a_bestPart a_part a_trees f_treeMany a_nodes f_nodeMany f_moveNode f_movePart f_moveFirst f_moveThen f_moveOther a_out f_outMany a_kept), (a_all, aI G 1276 g_all), (a_bestCost, aJ G 512 g_bestCost), (a_bestCrosses, aI G 512 g_bestCrosses), (a_bestPart, aI G 512 g_bestPart), (a_capped, aZ G 256 g_capped), (a_connected, aZ G 256 g_connected), (a_nodes, aI G 8 g_nodes), (a_open, aI G 502 g_open), (a_part, aI G 256 g_part), (a_size, aJ G 256 g_size), (a_undone, aI G 2528 g_undone)] := hD
  refine lv_aload_n hx hb d_R_step_5 rfl (lv_at hl 0 rfl) ?_
  refine va_get (D := G.1) (ci := 12) (v := .ref a_all) (C := n_R) (T := T_R) (N := 44) hx hb htl iw_R hown hK hP 0 rfl rfl 1 (by decide) (htl _ k_1197) (fun _ h9 => h9) rfl d_R_step_6 ?_
  refine lv_bipush (v := (59 : Int32)) hx hb d_R_step_9 (by decide) ?_
  refine va_iald hx hb hK hP 1 1 rfl rfl (vp_lit (by decide)) d_R_step_11 ?_
  refine lv_topi (fun v1 ev1 => ?_)
  have hf := dn_e ev1 hf
  refine lv_istore_n (lv' := [(1, .int v1), (0, .ref h0)]) hx hb d_R_step_12 rfl hl (by decide) rfl (fun ls hl => ?_)
  refine lv_iload_n hx hb d_R_step_13 rfl (lv_at hl 0 rfl) ?_
  refine lv_if_ne (tgt := 19) hx hb d_R_step_14 (by decide) (fun c2 => ?_) (fun c2 => ?_)
  · have hf := di_f c2 hf
    refine lv_aload_n hx hb d_R_step_19 rfl (lv_at hl 1 rfl) ?_
    obtain ⟨t3, hv4, hf⟩ := db_e hf
    refine call_v (isC := [0, 1, 2, 3, 4, 5, 6, 10]) (run_V (As := []) (rest := []) (ci := 12) (q0 := 0) hx hb hml hown htl (c_R_lays l G Y  h0 a_all a_text a_saved a_undone a_told a_pile a_open a_size a_capped a_connected a_bestCost a_bestCrosses a_bestPart a_part a_trees a_nodes a_out a_kept (0 : Int32) f_undos f_reached f_length f_begin f_sort f_sign f_value f_word f_wrongAt f_badAt f_bad f_read f_side f_piled f_opened f_joins f_had f_treeMany f_nodeMany f_moveNode f_movePart f_moveFirst f_moveThen f_moveOther f_outMany g_all g_bestCost g_bestCrosses g_bestPart g_capped g_connected g_size N t3 hv4) mv_R_lays k_1503 (hRk (by decide) (by decide)) hK hsk hS hP hD (isC := [0, 1, 2, 3, 4, 5, 6, 10]) rfl (by decide) rfl rfl rfl hl.1 rfl (lv_room (Nat.le_of_ble_eq_true rfl)) d_R_step_20) hP hD hS rfl rfl (fun H locs hP hD hS => ?_)
    have hP : va_P G.1 classes [(h0, O_R (0 : Int32) a_all a_text a_saved a_undone f_undos f_reached f_length f_begin f_sort f_sign f_value f_word f_wrongAt f_badAt f_bad a_told f_read f_side a_pile f_piled a_open f_opened f_joins f_had a_size a_capped a_connected a_bestCost a_bestCrosses a_bestPart a_part a_trees f_treeMany a_nodes f_nodeMany f_moveNode f_movePart f_moveFirst f_moveThen f_moveOther a_out f_outMany a_kept), (a_all, aI G 1276 g_all), (a_bestCost, aJ G 512 t3.1), (a_bestCrosses, aI G 512 t3.2.1), (a_bestPart, aI G 512 t3.2.2.1), (a_capped, aZ G 256 t3.2.2.2.1), (a_connected, aZ G 256 t3.2.2.2.2.1), (a_nodes, aI G 8 g_nodes), (a_open, aI G 502 g_open), (a_part, aI G 256 g_part), (a_size, aJ G 256 t3.2.2.2.2.2), (a_undone, aI G 2528 g_undone)] H := hP
    have hD : va_D A [(h0, O_R (0 : Int32) a_all a_text a_saved a_undone f_undos f_reached f_length f_begin f_sort f_sign f_value f_word f_wrongAt f_badAt f_bad a_told f_read f_side a_pile f_piled a_open f_opened f_joins f_had a_size a_capped a_connected a_bestCost a_bestCrosses a_bestPart a_part a_trees f_treeMany a_nodes f_nodeMany f_moveNode f_movePart f_moveFirst f_moveThen f_moveOther a_out f_outMany a_kept), (a_all, aI G 1276 g_all), (a_bestCost, aJ G 512 t3.1), (a_bestCrosses, aI G 512 t3.2.1), (a_bestPart, aI G 512 t3.2.2.1), (a_capped, aZ G 256 t3.2.2.2.1), (a_connected, aZ G 256 t3.2.2.2.2.1), (a_nodes, aI G 8 g_nodes), (a_open, aI G 502 g_open), (a_part, aI G 256 g_part), (a_size, aJ G 256 t3.2.2.2.2.2), (a_undone, aI G 2528 g_undone)] := hD
    refine lv_aload_n hx hb d_R_step_23 rfl (lv_at hl 1 rfl) ?_
    obtain ⟨t5, hv6, hf⟩ := db_e hf
    refine call_v (isC := [0, 1, 9]) (run_V (As := []) (rest := []) (ci := 12) (q0 := 0) hx hb hml hown htl (c_R_takesPlan l G Y  h0 a_all a_text a_saved a_undone a_told a_pile a_open a_size a_capped a_connected a_bestCost a_bestCrosses a_bestPart a_part a_trees a_nodes a_out a_kept (0 : Int32) f_undos f_reached f_length f_begin f_sort f_sign f_value f_word f_wrongAt f_badAt f_bad f_read f_side f_piled f_opened f_joins f_had f_treeMany f_nodeMany f_moveNode f_movePart f_moveFirst f_moveThen f_moveOther f_outMany g_all g_part N t5 hv6) mv_R_takesPlan k_1574 (hRk (by decide) (by decide)) hK hsk hS hP hD (isC := [0, 1, 9]) rfl (by decide) rfl rfl rfl hl.1 rfl (lv_room (Nat.le_of_ble_eq_true rfl)) d_R_step_24) hP hD hS rfl rfl (fun H locs hP hD hS => ?_)
    have hP : va_P G.1 classes [(h0, O_R (0 : Int32) a_all a_text a_saved a_undone f_undos f_reached f_length f_begin f_sort f_sign f_value f_word f_wrongAt f_badAt f_bad a_told f_read f_side a_pile f_piled a_open f_opened f_joins f_had a_size a_capped a_connected a_bestCost a_bestCrosses a_bestPart a_part a_trees f_treeMany a_nodes f_nodeMany f_moveNode f_movePart f_moveFirst f_moveThen f_moveOther a_out f_outMany a_kept), (a_all, aI G 1276 g_all), (a_bestCost, aJ G 512 t3.1), (a_bestCrosses, aI G 512 t3.2.1), (a_bestPart, aI G 512 t3.2.2.1), (a_capped, aZ G 256 t3.2.2.2.1), (a_connected, aZ G 256 t3.2.2.2.2.1), (a_nodes, aI G 8 g_nodes), (a_open, aI G 502 g_open), (a_part, aI G 256 t5), (a_size, aJ G 256 t3.2.2.2.2.2), (a_undone, aI G 2528 g_undone)] H := hP
    have hD : va_D A [(h0, O_R (0 : Int32) a_all a_text a_saved a_undone f_undos f_reached f_length f_begin f_sort f_sign f_value f_word f_wrongAt f_badAt f_bad a_told f_read f_side a_pile f_piled a_open f_opened f_joins f_had a_size a_capped a_connected a_bestCost a_bestCrosses a_bestPart a_part a_trees f_treeMany a_nodes f_nodeMany f_moveNode f_movePart f_moveFirst f_moveThen f_moveOther a_out f_outMany a_kept), (a_all, aI G 1276 g_all), (a_bestCost, aJ G 512 t3.1), (a_bestCrosses, aI G 512 t3.2.1), (a_bestPart, aI G 512 t3.2.2.1), (a_capped, aZ G 256 t3.2.2.2.1), (a_connected, aZ G 256 t3.2.2.2.2.1), (a_nodes, aI G 8 g_nodes), (a_open, aI G 502 g_open), (a_part, aI G 256 t5), (a_size, aJ G 256 t3.2.2.2.2.2), (a_undone, aI G 2528 g_undone)] := hD
    refine lv_aload_n hx hb d_R_step_27 rfl (lv_at hl 1 rfl) ?_
    refine lv_iload_n hx hb d_R_step_28 rfl (lv_at hl 0 rfl) ?_
    obtain ⟨t7, hv8, hf⟩ := db_e hf
    refine call_i (isC := [0, 1, 7, 8, 9, 10]) (run_V (As := [.int v1]) (rest := []) (ci := 12) (q0 := 0) hx hb hml hown htl (c_R_bestMove l G Y  h0 a_all a_text a_saved a_undone a_told a_pile a_open a_size a_capped a_connected a_bestCost a_bestCrosses a_bestPart a_part a_trees a_nodes a_out a_kept (0 : Int32) f_undos f_reached f_length f_begin f_sort f_sign f_value f_word f_wrongAt f_badAt f_bad f_read f_side f_piled f_opened f_joins f_had f_treeMany f_nodeMany f_moveNode f_movePart f_moveFirst f_moveThen f_moveOther f_outMany g_all g_nodes g_open t5 t3.2.2.2.2.2 v1 N t7 hv8) mv_R_bestMove k_1578 (hRk (by decide) (by decide)) hK hsk hS hP hD (isC := [0, 1, 7, 8, 9, 10]) rfl (by decide) rfl rfl rfl hl.1 rfl (lv_room (Nat.le_of_ble_eq_true rfl)) d_R_step_29) hP hD hS rfl rfl (fun H locs hP hD hS => ?_)
    have hP : va_P G.1 classes [(h0, O_R (0 : Int32) a_all a_text a_saved a_undone f_undos f_reached f_length f_begin f_sort f_sign f_value f_word f_wrongAt f_badAt f_bad a_told f_read f_side a_pile f_piled a_open t7.2.1 f_joins f_had a_size a_capped a_connected a_bestCost a_bestCrosses a_bestPart a_part a_trees f_treeMany a_nodes t7.2.2.1 t7.2.2.2.1 t7.2.2.2.2.1 t7.2.2.2.2.2.1 t7.2.2.2.2.2.2.1 t7.2.2.2.2.2.2.2.1 a_out f_outMany a_kept), (a_all, aI G 1276 g_all), (a_bestCost, aJ G 512 t3.1), (a_bestCrosses, aI G 512 t3.2.1), (a_bestPart, aI G 512 t3.2.2.1), (a_capped, aZ G 256 t3.2.2.2.1), (a_connected, aZ G 256 t3.2.2.2.2.1), (a_nodes, aI G 8 t7.2.2.2.2.2.2.2.2.1), (a_open, aI G 502 t7.2.2.2.2.2.2.2.2.2.1), (a_part, aI G 256 t7.2.2.2.2.2.2.2.2.2.2), (a_size, aJ G 256 t3.2.2.2.2.2), (a_undone, aI G 2528 g_undone)] H := hP
    have hD : va_D A [(h0, O_R (0 : Int32) a_all a_text a_saved a_undone f_undos f_reached f_length f_begin f_sort f_sign f_value f_word f_wrongAt f_badAt f_bad a_told f_read f_side a_pile f_piled a_open t7.2.1 f_joins f_had a_size a_capped a_connected a_bestCost a_bestCrosses a_bestPart a_part a_trees f_treeMany a_nodes t7.2.2.1 t7.2.2.2.1 t7.2.2.2.2.1 t7.2.2.2.2.2.1 t7.2.2.2.2.2.2.1 t7.2.2.2.2.2.2.2.1 a_out f_outMany a_kept), (a_all, aI G 1276 g_all), (a_bestCost, aJ G 512 t3.1), (a_bestCrosses, aI G 512 t3.2.1), (a_bestPart, aI G 512 t3.2.2.1), (a_capped, aZ G 256 t3.2.2.2.1), (a_connected, aZ G 256 t3.2.2.2.2.1), (a_nodes, aI G 8 t7.2.2.2.2.2.2.2.2.1), (a_open, aI G 502 t7.2.2.2.2.2.2.2.2.2.1), (a_part, aI G 256 t7.2.2.2.2.2.2.2.2.2.2), (a_size, aJ G 256 t3.2.2.2.2.2), (a_undone, aI G 2528 g_undone)] := hD
    refine lv_istore_n (lv' := [(2, .int t7.1), (1, .int v1), (0, .ref h0)]) hx hb d_R_step_32 rfl hl (by decide) rfl (fun ls hl => ?_)
    refine lv_iload_n hx hb d_R_step_33 rfl (lv_at hl 0 rfl) ?_
    refine lv_iconst (v := (-1 : Int32)) hx hb d_R_step_34 (by decide) ?_
    refine lv_icmp_ne (tgt := 40) hx hb d_R_step_35 (by decide) (fun c9 => ?_) (fun c9 => ?_)
    · have hf := di_f c9 hf
      refine lv_aload_n hx hb d_R_step_40 rfl (lv_at hl 2 rfl) ?_
      refine lv_iload_n hx hb d_R_step_41 rfl (lv_at hl 0 rfl) ?_
      obtain ⟨t10, hv11, hf⟩ := db_e hf
      refine call_i (isC := [0, 7, 9]) (run_V (As := [.int t7.1]) (rest := []) (ci := 12) (q0 := 0) hx hb hml hown htl (c_R_isMove l G Y  h0 a_all a_text a_saved a_undone a_told a_pile a_open a_size a_capped a_connected a_bestCost a_bestCrosses a_bestPart a_part a_trees a_nodes a_out a_kept (0 : Int32) f_undos f_reached f_length f_begin f_sort f_sign f_value f_word f_wrongAt f_badAt f_bad f_read f_side f_piled t7.2.1 f_joins f_had f_treeMany t7.2.2.1 t7.2.2.2.1 t7.2.2.2.2.1 t7.2.2.2.2.2.1 t7.2.2.2.2.2.2.1 t7.2.2.2.2.2.2.2.1 f_outMany t7.2.2.2.2.2.2.2.2.1 t7.2.2.2.2.2.2.2.2.2.2 t7.1 N t10 hv11) mv_R_isMove k_1598 (hRk (by decide) (by decide)) hK hsk hS hP hD (isC := [0, 7, 9]) rfl (by decide) rfl rfl rfl hl.1 rfl (lv_room (Nat.le_of_ble_eq_true rfl)) d_R_step_42) hP hD hS rfl rfl (fun H locs hP hD hS => ?_)
      have hP : va_P G.1 classes [(h0, O_R (0 : Int32) a_all a_text a_saved a_undone f_undos f_reached f_length f_begin f_sort f_sign f_value f_word f_wrongAt f_badAt f_bad a_told f_read f_side a_pile f_piled a_open t7.2.1 f_joins f_had a_size a_capped a_connected a_bestCost a_bestCrosses a_bestPart a_part a_trees f_treeMany a_nodes t7.2.2.1 t10.2.1 t10.2.2.1 t10.2.2.2.1 t10.2.2.2.2.1 t10.2.2.2.2.2 a_out f_outMany a_kept), (a_all, aI G 1276 g_all), (a_bestCost, aJ G 512 t3.1), (a_bestCrosses, aI G 512 t3.2.1), (a_bestPart, aI G 512 t3.2.2.1), (a_capped, aZ G 256 t3.2.2.2.1), (a_connected, aZ G 256 t3.2.2.2.2.1), (a_nodes, aI G 8 t7.2.2.2.2.2.2.2.2.1), (a_open, aI G 502 t7.2.2.2.2.2.2.2.2.2.1), (a_part, aI G 256 t7.2.2.2.2.2.2.2.2.2.2), (a_size, aJ G 256 t3.2.2.2.2.2), (a_undone, aI G 2528 g_undone)] H := hP
      have hD : va_D A [(h0, O_R (0 : Int32) a_all a_text a_saved a_undone f_undos f_reached f_length f_begin f_sort f_sign f_value f_word f_wrongAt f_badAt f_bad a_told f_read f_side a_pile f_piled a_open t7.2.1 f_joins f_had a_size a_capped a_connected a_bestCost a_bestCrosses a_bestPart a_part a_trees f_treeMany a_nodes t7.2.2.1 t10.2.1 t10.2.2.1 t10.2.2.2.1 t10.2.2.2.2.1 t10.2.2.2.2.2 a_out f_outMany a_kept), (a_all, aI G 1276 g_all), (a_bestCost, aJ G 512 t3.1), (a_bestCrosses, aI G 512 t3.2.1), (a_bestPart, aI G 512 t3.2.2.1), (a_capped, aZ G 256 t3.2.2.2.1), (a_connected, aZ G 256 t3.2.2.2.2.1), (a_nodes, aI G 8 t7.2.2.2.2.2.2.2.2.1), (a_open, aI G 502 t7.2.2.2.2.2.2.2.2.2.1), (a_part, aI G 256 t7.2.2.2.2.2.2.2.2.2.2), (a_size, aJ G 256 t3.2.2.2.2.2), (a_undone, aI G 2528 g_undone)] := hD
      refine lv_istore_n (lv' := [(3, .int t10.1), (2, .int t7.1), (1, .int v1), (0, .ref h0)]) hx hb d_R_step_45 rfl hl (by decide) rfl (fun ls hl => ?_)
      refine lv_aload_n hx hb d_R_step_46 rfl (lv_at hl 3 rfl) ?_
      obtain ⟨t12, hv13, hf⟩ := db_e hf
      refine call_v (isC := [0, 9]) (run_V (As := []) (rest := []) (ci := 12) (q0 := 0) hx hb hml hown htl (c_R_goes l G Y  h0 a_all a_text a_saved a_undone a_told a_pile a_open a_size a_capped a_connected a_bestCost a_bestCrosses a_bestPart a_part a_trees a_nodes a_out a_kept (0 : Int32) f_undos f_reached f_length f_begin f_sort f_sign f_value f_word f_wrongAt f_badAt f_bad f_read f_side f_piled t7.2.1 f_joins f_had f_treeMany t7.2.2.1 t10.2.1 t10.2.2.1 t10.2.2.2.1 t10.2.2.2.2.1 t10.2.2.2.2.2 f_outMany t7.2.2.2.2.2.2.2.2.2.2 t12 hv13) mv_R_goes k_1602 (hRk (by decide) (by decide)) hK hsk hS hP hD (isC := [0, 9]) rfl (by decide) rfl rfl rfl hl.1 rfl (lv_room (Nat.le_of_ble_eq_true rfl)) d_R_step_47) hP hD hS rfl rfl (fun H locs hP hD hS => ?_)
      have hP : va_P G.1 classes [(h0, O_R (0 : Int32) a_all a_text a_saved a_undone f_undos f_reached f_length f_begin f_sort f_sign f_value f_word f_wrongAt f_badAt f_bad a_told f_read f_side a_pile f_piled a_open t7.2.1 f_joins f_had a_size a_capped a_connected a_bestCost a_bestCrosses a_bestPart a_part a_trees f_treeMany a_nodes t7.2.2.1 t10.2.1 t10.2.2.1 t10.2.2.2.1 t10.2.2.2.2.1 t10.2.2.2.2.2 a_out f_outMany a_kept), (a_all, aI G 1276 g_all), (a_bestCost, aJ G 512 t3.1), (a_bestCrosses, aI G 512 t3.2.1), (a_bestPart, aI G 512 t3.2.2.1), (a_capped, aZ G 256 t3.2.2.2.1), (a_connected, aZ G 256 t3.2.2.2.2.1), (a_nodes, aI G 8 t7.2.2.2.2.2.2.2.2.1), (a_open, aI G 502 t7.2.2.2.2.2.2.2.2.2.1), (a_part, aI G 256 t12), (a_size, aJ G 256 t3.2.2.2.2.2), (a_undone, aI G 2528 g_undone)] H := hP
      have hD : va_D A [(h0, O_R (0 : Int32) a_all a_text a_saved a_undone f_undos f_reached f_length f_begin f_sort f_sign f_value f_word f_wrongAt f_badAt f_bad a_told f_read f_side a_pile f_piled a_open t7.2.1 f_joins f_had a_size a_capped a_connected a_bestCost a_bestCrosses a_bestPart a_part a_trees f_treeMany a_nodes t7.2.2.1 t10.2.1 t10.2.2.1 t10.2.2.2.1 t10.2.2.2.2.1 t10.2.2.2.2.2 a_out f_outMany a_kept), (a_all, aI G 1276 g_all), (a_bestCost, aJ G 512 t3.1), (a_bestCrosses, aI G 512 t3.2.1), (a_bestPart, aI G 512 t3.2.2.1), (a_capped, aZ G 256 t3.2.2.2.1), (a_connected, aZ G 256 t3.2.2.2.2.1), (a_nodes, aI G 8 t7.2.2.2.2.2.2.2.2.1), (a_open, aI G 502 t7.2.2.2.2.2.2.2.2.2.1), (a_part, aI G 256 t12), (a_size, aJ G 256 t3.2.2.2.2.2), (a_undone, aI G 2528 g_undone)] := hD
      refine lv_aload_n hx hb d_R_step_50 rfl (lv_at hl 3 rfl) ?_
      obtain ⟨t14, hv15, hf⟩ := db_e hf
      refine call_v (isC := [0, 1, 11]) (run_V (As := []) (rest := []) (ci := 12) (q0 := 0) hx hb hml hown htl (c_R_keeps l G Y  h0 a_all a_text a_saved a_undone a_told a_pile a_open a_size a_capped a_connected a_bestCost a_bestCrosses a_bestPart a_part a_trees a_nodes a_out a_kept (0 : Int32) f_undos f_reached f_length f_begin f_sort f_sign f_value f_word f_wrongAt f_badAt f_bad f_read f_side f_piled t7.2.1 f_joins f_had f_treeMany t7.2.2.1 t10.2.1 t10.2.2.1 t10.2.2.2.1 t10.2.2.2.2.1 t10.2.2.2.2.2 f_outMany g_all g_undone N t14 hv15) mv_R_keeps k_1437 (hRk (by decide) (by decide)) hK hsk hS hP hD (isC := [0, 1, 11]) rfl (by decide) rfl rfl rfl hl.1 rfl (lv_room (Nat.le_of_ble_eq_true rfl)) d_R_step_51) hP hD hS rfl rfl (fun H locs hP hD hS => ?_)
      have hP : va_P G.1 classes [(h0, O_R (0 : Int32) a_all a_text a_saved a_undone t14.1 f_reached f_length f_begin f_sort f_sign f_value f_word f_wrongAt f_badAt f_bad a_told f_read f_side a_pile f_piled a_open t7.2.1 f_joins f_had a_size a_capped a_connected a_bestCost a_bestCrosses a_bestPart a_part a_trees f_treeMany a_nodes t7.2.2.1 t10.2.1 t10.2.2.1 t10.2.2.2.1 t10.2.2.2.2.1 t10.2.2.2.2.2 a_out f_outMany a_kept), (a_all, aI G 1276 g_all), (a_bestCost, aJ G 512 t3.1), (a_bestCrosses, aI G 512 t3.2.1), (a_bestPart, aI G 512 t3.2.2.1), (a_capped, aZ G 256 t3.2.2.2.1), (a_connected, aZ G 256 t3.2.2.2.2.1), (a_nodes, aI G 8 t7.2.2.2.2.2.2.2.2.1), (a_open, aI G 502 t7.2.2.2.2.2.2.2.2.2.1), (a_part, aI G 256 t12), (a_size, aJ G 256 t3.2.2.2.2.2), (a_undone, aI G 2528 t14.2)] H := hP
      have hD : va_D A [(h0, O_R (0 : Int32) a_all a_text a_saved a_undone t14.1 f_reached f_length f_begin f_sort f_sign f_value f_word f_wrongAt f_badAt f_bad a_told f_read f_side a_pile f_piled a_open t7.2.1 f_joins f_had a_size a_capped a_connected a_bestCost a_bestCrosses a_bestPart a_part a_trees f_treeMany a_nodes t7.2.2.1 t10.2.1 t10.2.2.1 t10.2.2.2.1 t10.2.2.2.2.1 t10.2.2.2.2.2 a_out f_outMany a_kept), (a_all, aI G 1276 g_all), (a_bestCost, aJ G 512 t3.1), (a_bestCrosses, aI G 512 t3.2.1), (a_bestPart, aI G 512 t3.2.2.1), (a_capped, aZ G 256 t3.2.2.2.1), (a_connected, aZ G 256 t3.2.2.2.2.1), (a_nodes, aI G 8 t7.2.2.2.2.2.2.2.2.1), (a_open, aI G 502 t7.2.2.2.2.2.2.2.2.2.1), (a_part, aI G 256 t12), (a_size, aJ G 256 t3.2.2.2.2.2), (a_undone, aI G 2528 t14.2)] := hD
      refine lv_aload_n hx hb d_R_step_54 rfl (lv_at hl 3 rfl) ?_
      refine lv_iload_n hx hb d_R_step_55 rfl (lv_at hl 2 rfl) ?_
      obtain ⟨t16, hv17, hf⟩ := db_e hf
      refine call_v (isC := [0, 1, 9]) (run_V (As := [.int v1]) (rest := []) (ci := 12) (q0 := 0) hx hb hml hown htl (c_R_isPlanNow l G Y  h0 a_all a_text a_saved a_undone a_told a_pile a_open a_size a_capped a_connected a_bestCost a_bestCrosses a_bestPart a_part a_trees a_nodes a_out a_kept (0 : Int32) t14.1 f_reached f_length f_begin f_sort f_sign f_value f_word f_wrongAt f_badAt f_bad f_read f_side f_piled t7.2.1 f_joins f_had f_treeMany t7.2.2.1 t10.2.1 t10.2.2.1 t10.2.2.2.1 t10.2.2.2.2.1 t10.2.2.2.2.2 f_outMany g_all t12 v1 N t16 hv17) mv_R_isPlanNow k_1566 (hRk (by decide) (by decide)) hK hsk hS hP hD (isC := [0, 1, 9]) rfl (by decide) rfl rfl rfl hl.1 rfl (lv_room (Nat.le_of_ble_eq_true rfl)) d_R_step_56) hP hD hS rfl rfl (fun H locs hP hD hS => ?_)
      have hP : va_P G.1 classes [(h0, O_R (0 : Int32) a_all a_text a_saved a_undone t14.1 f_reached f_length f_begin f_sort f_sign f_value f_word f_wrongAt f_badAt f_bad a_told f_read f_side a_pile f_piled a_open t7.2.1 f_joins f_had a_size a_capped a_connected a_bestCost a_bestCrosses a_bestPart a_part a_trees f_treeMany a_nodes t7.2.2.1 t10.2.1 t10.2.2.1 t10.2.2.2.1 t10.2.2.2.2.1 t10.2.2.2.2.2 a_out f_outMany a_kept), (a_all, aI G 1276 t16), (a_bestCost, aJ G 512 t3.1), (a_bestCrosses, aI G 512 t3.2.1), (a_bestPart, aI G 512 t3.2.2.1), (a_capped, aZ G 256 t3.2.2.2.1), (a_connected, aZ G 256 t3.2.2.2.2.1), (a_nodes, aI G 8 t7.2.2.2.2.2.2.2.2.1), (a_open, aI G 502 t7.2.2.2.2.2.2.2.2.2.1), (a_part, aI G 256 t12), (a_size, aJ G 256 t3.2.2.2.2.2), (a_undone, aI G 2528 t14.2)] H := hP
      have hD : va_D A [(h0, O_R (0 : Int32) a_all a_text a_saved a_undone t14.1 f_reached f_length f_begin f_sort f_sign f_value f_word f_wrongAt f_badAt f_bad a_told f_read f_side a_pile f_piled a_open t7.2.1 f_joins f_had a_size a_capped a_connected a_bestCost a_bestCrosses a_bestPart a_part a_trees f_treeMany a_nodes t7.2.2.1 t10.2.1 t10.2.2.1 t10.2.2.2.1 t10.2.2.2.2.1 t10.2.2.2.2.2 a_out f_outMany a_kept), (a_all, aI G 1276 t16), (a_bestCost, aJ G 512 t3.1), (a_bestCrosses, aI G 512 t3.2.1), (a_bestPart, aI G 512 t3.2.2.1), (a_capped, aZ G 256 t3.2.2.2.1), (a_connected, aZ G 256 t3.2.2.2.2.1), (a_nodes, aI G 8 t7.2.2.2.2.2.2.2.2.1), (a_open, aI G 502 t7.2.2.2.2.2.2.2.2.2.1), (a_part, aI G 256 t12), (a_size, aJ G 256 t3.2.2.2.2.2), (a_undone, aI G 2528 t14.2)] := hD
      refine lv_iconst (v := (1 : Int32)) hx hb d_R_step_59 (by decide) ?_
      refine lv_iload_n hx hb d_R_step_60 rfl (lv_at hl 1 rfl) ?_
      refine lv_iconst (v := (2 : Int32)) hx hb d_R_step_61 (by decide) ?_
      refine lv_irem hx hb d_R_step_62 (by decide) ?_
      refine lv_iadd hx hb d_R_step_63 ?_
      cases hf
      exact hret 64 ls H locs hP hS d_R_step_64
    · have hf := di_t c9 hf
      refine lv_iconst (v := (0 : Int32)) hx hb d_R_step_38 (by decide) ?_
      cases hf
      exact hret 39 ls H locs hP hS d_R_step_39
  · have hf := di_t c2 hf
    refine lv_iconst (v := (-1 : Int32)) hx hb d_R_step_17 (by decide) ?_
    cases hf
    exact hret 18 ls H locs hP hS d_R_step_18
set_option maxHeartbeats 4000000 in
set_option maxRecDepth 100000 in
theorem c_R_undo (l : Launch) (G : va_G × (Nat → ClassId)) (Y : (Nat → Nat) × (Nat → Nat)) (h0 : Nat) (a_all : Nat) (a_text : Nat) (a_saved : Nat) (a_undone : Nat) (a_told : Nat) (a_pile : Nat) (a_open : Nat) (a_size : Nat) (a_capped : Nat) (a_connected : Nat) (a_bestCost : Nat) (a_bestCrosses : Nat) (a_bestPart : Nat) (a_part : Nat) (a_trees : Nat) (a_nodes : Nat) (a_out : Nat) (a_kept : Nat) (f_raised : Int32) (f_undos : Int32) (f_reached : Int32) (f_length : Int32) (f_begin : Int32) (f_sort : Int32) (f_sign : Int32) (f_value : Int32) (f_word : Int64) (f_wrongAt : Int32) (f_badAt : Int32) (f_bad : Int32) (f_read : Int32) (f_side : Int32) (f_piled : Int32) (f_opened : Int32) (f_joins : Int32) (f_had : Int32) (f_treeMany : Int32) (f_nodeMany : Int32) (f_moveNode : Int32) (f_movePart : Int32) (f_moveFirst : Int32) (f_moveThen : Int32) (f_moveOther : Int32) (f_outMany : Int32) (g_all : Nat → Int32) (g_undone : Nat → Int32) (N : Nat) (res : Int32 × Int32 × Int32 × (Nat → Int32)) (hf : R_undo N f_raised f_undos g_all g_undone = some res) : Ci l classes y_R_undo b_R_undo 2 (some .int) (rmk 0) G.1 (tyL G) Y [.ref h0] [(h0, O_R f_raised a_all a_text a_saved a_undone f_undos f_reached f_length f_begin f_sort f_sign f_value f_word f_wrongAt f_badAt f_bad a_told f_read f_side a_pile f_piled a_open f_opened f_joins f_had a_size a_capped a_connected a_bestCost a_bestCrosses a_bestPart a_part a_trees f_treeMany a_nodes f_nodeMany f_moveNode f_movePart f_moveFirst f_moveThen f_moveOther a_out f_outMany a_kept), (a_all, aI G 1276 g_all), (a_undone, aI G 2528 g_undone)] [(h0, O_R res.2.1 a_all a_text a_saved a_undone res.2.2.1 f_reached f_length f_begin f_sort f_sign f_value f_word f_wrongAt f_badAt f_bad a_told f_read f_side a_pile f_piled a_open f_opened f_joins f_had a_size a_capped a_connected a_bestCost a_bestCrosses a_bestPart a_part a_trees f_treeMany a_nodes f_nodeMany f_moveNode f_movePart f_moveFirst f_moveThen f_moveOther a_out f_outMany a_kept), (a_all, aI G 1276 res.2.2.2), (a_undone, aI G 2528 g_undone)] res.1 := by
  refine entI (by decide) (Nat.le_of_ble_eq_true rfl) ?_
  intro p e s m args below meth c ls A Q hx hb hml hown htl hK hsk wq hl hret
  obtain ⟨hP, hD, hS⟩ := wq
  have hl : lv_has ls 2 [(0, .ref h0)] := hl
  have hS : va_S A s.heap s.heap [] := hS
  obtain ⟨H, hH⟩ : ∃ H : Heap, H = s.heap := ⟨_, rfl⟩
  obtain ⟨locs, hlocs⟩ : ∃ z : List Loc, z = [] := ⟨_, rfl⟩
  rw [← hH] at hP
  replace hS : va_S A s.heap H locs := by rw [hH, hlocs]; exact hS
  suffices hgo : W p l e (rmk 0) s m args below meth c H locs 0 0 Q (F0 m 0 ls []) by rw [hH, hlocs] at hgo; exact hgo
  have hJ60 : ∀ (f_raised : Int32) (f_undos : Int32) (g_all : Nat → Int32) (H : Heap) (locs : List Loc) (ls : Array Slot), PDS G.1 classes A s [(h0, O_R f_raised a_all a_text a_saved a_undone f_undos f_reached f_length f_begin f_sort f_sign f_value f_word f_wrongAt f_badAt f_bad a_told f_read f_side a_pile f_piled a_open f_opened f_joins f_had a_size a_capped a_connected a_bestCost a_bestCrosses a_bestPart a_part a_trees f_treeMany a_nodes f_nodeMany f_moveNode f_movePart f_moveFirst f_moveThen f_moveOther a_out f_outMany a_kept), (a_all, aI G 1276 g_all), (a_undone, aI G 2528 g_undone)] H locs → lv_has ls 2 [(0, .ref h0)] → R_undo_60 N f_raised f_undos g_all g_undone = some res → W p l e (rmk 0) s m args below meth c H locs 0 0 Q (F0 m 60 ls []) := by
    intro f_raised f_undos g_all H locs ls wq hl hf
    obtain ⟨hP, hD, hS⟩ := wq
    refine lv_aload_n hx hb d_R_undo_60 rfl (lv_at hl 0 rfl) ?_
    refine va_get (D := G.1) (ci := 12) (v := .int f_undos) (C := n_R) (T := T_R) (N := 44) hx hb htl iw_R hown hK hP 0 rfl rfl 5 (by decide) (htl _ k_1201) (fun _ h9 => h9) rfl d_R_undo_61 ?_
    cases hf
    exact hret 64 ls H locs hP hS d_R_undo_64
  have hJ26 : ∀ (f_raised : Int32) (f_undos : Int32) (g_all : Nat → Int32) (x1 : Int32) (H : Heap) (locs : List Loc) (ls : Array Slot), PDS G.1 classes A s [(h0, O_R f_raised a_all a_text a_saved a_undone f_undos f_reached f_length f_begin f_sort f_sign f_value f_word f_wrongAt f_badAt f_bad a_told f_read f_side a_pile f_piled a_open f_opened f_joins f_had a_size a_capped a_connected a_bestCost a_bestCrosses a_bestPart a_part a_trees f_treeMany a_nodes f_nodeMany f_moveNode f_movePart f_moveFirst f_moveThen f_moveOther a_out f_outMany a_kept), (a_all, aI G 1276 g_all), (a_undone, aI G 2528 g_undone)] H locs → lv_has ls 2 [(0, .ref h0), (1, .int x1)] → R_undo_26 N f_raised f_undos g_all g_undone x1 = some res → W p l e (rmk 0) s m args below meth c H locs 0 0 Q (F0 m 26 ls []) := by
    intro f_raised f_undos g_all x1 H locs ls wq hl hf
    obtain ⟨hP, hD, hS⟩ := wq
    obtain ⟨y26, hy26, hfo26⟩ := db_e hf
    have hL26 : ∀ (n : Nat) (g_all : Nat → Int32) (x1 : Int32) (H : Heap) (locs : List Loc) (ls : Array Slot), lp (fun x => R_undo_b26 N f_raised f_undos x.1 g_undone x.2) n (g_all, x1) = some y26 → PDS G.1 classes A s [(h0, O_R f_raised a_all a_text a_saved a_undone f_undos f_reached f_length f_begin f_sort f_sign f_value f_word f_wrongAt f_badAt f_bad a_told f_read f_side a_pile f_piled a_open f_opened f_joins f_had a_size a_capped a_connected a_bestCost a_bestCrosses a_bestPart a_part a_trees f_treeMany a_nodes f_nodeMany f_moveNode f_movePart f_moveFirst f_moveThen f_moveOther a_out f_outMany a_kept), (a_all, aI G 1276 g_all), (a_undone, aI G 2528 g_undone)] H locs → lv_has ls 2 [(0, .ref h0), (1, .int x1)] → W p l e (rmk 0) s m args below meth c H locs 0 0 Q (F0 m 26 ls []) := by
      intro n
      induction n with
      | zero =>
        intro g_all x1 H locs ls hf
        exact lp_0 hf
      | succ n ih26 =>
        intro g_all x1 H locs ls hf wq hl
        obtain ⟨hP, hD, hS⟩ := wq
        obtain ⟨r26, hf, hk26⟩ := lp_s hf
        have hf : R_undo_b26 N f_raised f_undos g_all g_undone x1 = some r26 := hf
        refine lv_iload_n hx hb d_R_undo_26 rfl (lv_at hl 1 rfl) ?_
        refine lv_sipush (v := (316 : Int32)) hx hb d_R_undo_27 (by decide) ?_
        refine lv_icmp_ge (tgt := 60) hx hb d_R_undo_30 (by decide) (fun c3 => ?_) (fun c3 => ?_)
        · have hf := di_t c3 hf
          have hq26 := lpk_x hf hk26
          have hf := ex_y (f := fun y => R_undo_a26 N f_raised f_undos g_undone y) hq26 hfo26
          have hf : R_undo_60 N f_raised f_undos g_all g_undone = some res := hf
          exact hJ60 f_raised f_undos g_all H locs ls ⟨hP, hD, hS⟩ (lv_sub hl [0] rfl) hf
        · have hf := di_f c3 hf
          refine lv_aload_n hx hb d_R_undo_33 rfl (lv_at hl 0 rfl) ?_
          refine va_get (D := G.1) (ci := 12) (v := .ref a_all) (C := n_R) (T := T_R) (N := 44) hx hb htl iw_R hown hK hP 0 rfl rfl 1 (by decide) (htl _ k_1197) (fun _ h9 => h9) rfl d_R_undo_34 ?_
          refine lv_iload_n hx hb d_R_undo_37 rfl (lv_at hl 1 rfl) ?_
          refine lv_aload_n hx hb d_R_undo_38 rfl (lv_at hl 0 rfl) ?_
          refine va_get (D := G.1) (ci := 12) (v := .ref a_undone) (C := n_R) (T := T_R) (N := 44) hx hb htl iw_R hown hK hP 0 rfl rfl 4 (by decide) (htl _ k_1200) (fun _ h9 => h9) rfl d_R_undo_39 ?_
          refine lv_sipush (v := (316 : Int32)) hx hb d_R_undo_42 (by decide) ?_
          refine lv_aload_n hx hb d_R_undo_45 rfl (lv_at hl 0 rfl) ?_
          refine va_get (D := G.1) (ci := 12) (v := .int f_undos) (C := n_R) (T := T_R) (N := 44) hx hb htl iw_R hown hK hP 0 rfl rfl 5 (by decide) (htl _ k_1201) (fun _ h9 => h9) rfl d_R_undo_46 ?_
          refine lv_imul hx hb d_R_undo_49 ?_
          refine lv_iload_n hx hb d_R_undo_50 rfl (lv_at hl 1 rfl) ?_
          refine lv_iadd hx hb d_R_undo_51 ?_
          obtain ⟨c4, hf⟩ := dk_e hf
          refine va_iald hx hb hK hP 2 1 rfl rfl c4 d_R_undo_52 ?_
          obtain ⟨c5, hf⟩ := dk_e hf
          refine nx_iast hx hb hK hP hD hS 1 1 rfl rfl c5 d_R_undo_53 (fun v6 ev6 H locs hP hD hS => ?_)
          have hf := dn_e ev6 hf
          have hP : va_P G.1 classes [(h0, O_R f_raised a_all a_text a_saved a_undone f_undos f_reached f_length f_begin f_sort f_sign f_value f_word f_wrongAt f_badAt f_bad a_told f_read f_side a_pile f_piled a_open f_opened f_joins f_had a_size a_capped a_connected a_bestCost a_bestCrosses a_bestPart a_part a_trees f_treeMany a_nodes f_nodeMany f_moveNode f_movePart f_moveFirst f_moveThen f_moveOther a_out f_outMany a_kept), (a_all, aI G 1276 v6), (a_undone, aI G 2528 g_undone)] H := hP
          have hD : va_D A [(h0, O_R f_raised a_all a_text a_saved a_undone f_undos f_reached f_length f_begin f_sort f_sign f_value f_word f_wrongAt f_badAt f_bad a_told f_read f_side a_pile f_piled a_open f_opened f_joins f_had a_size a_capped a_connected a_bestCost a_bestCrosses a_bestPart a_part a_trees f_treeMany a_nodes f_nodeMany f_moveNode f_movePart f_moveFirst f_moveThen f_moveOther a_out f_outMany a_kept), (a_all, aI G 1276 v6), (a_undone, aI G 2528 g_undone)] := hD
          obtain ⟨v7, ev7⟩ : ∃ z : Int32, z = x1 + (1 : Int32) := ⟨_, rfl⟩
          have hf := dn_e ev7 hf
          refine lv_iinc (v := v7) (lv' := [(1, .int v7), (0, .ref h0)]) hx hb d_R_undo_54 hl (k := 1) rfl (by rw [ev7]; rfl) (by decide) rfl (fun ls hl => ?_)
          refine lv_goto (tgt := 26) hx hb d_R_undo_57 (by decide) ?_
          exact ih26 v6 v7 H locs ls (lpk_i hf hk26) ⟨hP, hD, hS⟩ (lv_sub hl [1, 0] rfl)
    exact hL26 N g_all x1 H locs ls hy26 ⟨hP, hD, hS⟩ hl
  refine lv_aload_n hx hb d_R_undo_0 rfl (lv_at hl 0 rfl) ?_
  refine lv_iconst (v := (0 : Int32)) hx hb d_R_undo_1 (by decide) ?_
  refine va_put (D := G.1) (ci := 12) (v := .int (0 : Int32)) (ty := .int) (C := n_R) (T := T_R) (N := 44) hx hb htl iw_R ty_R ty_R_ok nm_R hown hK hP hD hS 0 rfl rfl 0 (by decide) (htl _ k_1196) (fun _ h9 => h9) rfl (by decide +kernel) rfl rfl (Nat.le_of_ble_eq_true rfl) d_R_undo_2 (fun H locs hP hD hS => ?_)
  have hP : va_P G.1 classes [(h0, O_R (0 : Int32) a_all a_text a_saved a_undone f_undos f_reached f_length f_begin f_sort f_sign f_value f_word f_wrongAt f_badAt f_bad a_told f_read f_side a_pile f_piled a_open f_opened f_joins f_had a_size a_capped a_connected a_bestCost a_bestCrosses a_bestPart a_part a_trees f_treeMany a_nodes f_nodeMany f_moveNode f_movePart f_moveFirst f_moveThen f_moveOther a_out f_outMany a_kept), (a_all, aI G 1276 g_all), (a_undone, aI G 2528 g_undone)] H := hP
  have hD : va_D A [(h0, O_R (0 : Int32) a_all a_text a_saved a_undone f_undos f_reached f_length f_begin f_sort f_sign f_value f_word f_wrongAt f_badAt f_bad a_told f_read f_side a_pile f_piled a_open f_opened f_joins f_had a_size a_capped a_connected a_bestCost a_bestCrosses a_bestPart a_part a_trees f_treeMany a_nodes f_nodeMany f_moveNode f_movePart f_moveFirst f_moveThen f_moveOther a_out f_outMany a_kept), (a_all, aI G 1276 g_all), (a_undone, aI G 2528 g_undone)] := hD
  refine lv_aload_n hx hb d_R_undo_5 rfl (lv_at hl 0 rfl) ?_
  refine va_get (D := G.1) (ci := 12) (v := .int f_undos) (C := n_R) (T := T_R) (N := 44) hx hb htl iw_R hown hK hP 0 rfl rfl 5 (by decide) (htl _ k_1201) (fun _ h9 => h9) rfl d_R_undo_6 ?_
  refine lv_if_ne (tgt := 14) hx hb d_R_undo_9 (by decide) (fun c1 => ?_) (fun c1 => ?_)
  · have hf := di_f c1 hf
    refine lv_aload_n hx hb d_R_undo_14 rfl (lv_at hl 0 rfl) ?_
    refine lv_dup hx hb d_R_undo_15 rfl ?_
    refine va_get (D := G.1) (ci := 12) (v := .int f_undos) (C := n_R) (T := T_R) (N := 44) hx hb htl iw_R hown hK hP 0 rfl rfl 5 (by decide) (htl _ k_1201) (fun _ h9 => h9) rfl d_R_undo_16 ?_
    refine lv_iconst (v := (1 : Int32)) hx hb d_R_undo_19 (by decide) ?_
    refine lv_isub hx hb d_R_undo_20 ?_
    refine lv_topi (fun v2 ev2 => ?_)
    have hf := dn_e ev2 hf
    refine va_put (D := G.1) (ci := 12) (v := .int v2) (ty := .int) (C := n_R) (T := T_R) (N := 44) hx hb htl iw_R ty_R ty_R_ok nm_R hown hK hP hD hS 0 rfl rfl 5 (by decide) (htl _ k_1201) (fun _ h9 => h9) rfl (by decide +kernel) rfl rfl (Nat.le_of_ble_eq_true rfl) d_R_undo_21 (fun H locs hP hD hS => ?_)
    have hP : va_P G.1 classes [(h0, O_R (0 : Int32) a_all a_text a_saved a_undone v2 f_reached f_length f_begin f_sort f_sign f_value f_word f_wrongAt f_badAt f_bad a_told f_read f_side a_pile f_piled a_open f_opened f_joins f_had a_size a_capped a_connected a_bestCost a_bestCrosses a_bestPart a_part a_trees f_treeMany a_nodes f_nodeMany f_moveNode f_movePart f_moveFirst f_moveThen f_moveOther a_out f_outMany a_kept), (a_all, aI G 1276 g_all), (a_undone, aI G 2528 g_undone)] H := hP
    have hD : va_D A [(h0, O_R (0 : Int32) a_all a_text a_saved a_undone v2 f_reached f_length f_begin f_sort f_sign f_value f_word f_wrongAt f_badAt f_bad a_told f_read f_side a_pile f_piled a_open f_opened f_joins f_had a_size a_capped a_connected a_bestCost a_bestCrosses a_bestPart a_part a_trees f_treeMany a_nodes f_nodeMany f_moveNode f_movePart f_moveFirst f_moveThen f_moveOther a_out f_outMany a_kept), (a_all, aI G 1276 g_all), (a_undone, aI G 2528 g_undone)] := hD
    refine lv_iconst (v := (0 : Int32)) hx hb d_R_undo_24 (by decide) ?_
    refine lv_istore_n (lv' := [(1, .int (0 : Int32)), (0, .ref h0)]) hx hb d_R_undo_25 rfl hl (by decide) rfl (fun ls hl => ?_)
    exact hJ26 (0 : Int32) v2 g_all (0 : Int32) H locs ls ⟨hP, hD, hS⟩ (lv_sub hl [1, 0] rfl) hf
  · have hf := di_t c1 hf
    refine lv_iconst (v := (-1 : Int32)) hx hb d_R_undo_12 (by decide) ?_
    cases hf
    exact hret 13 ls H locs hP hS d_R_undo_13
set_option maxHeartbeats 4000000 in
set_option maxRecDepth 100000 in
theorem c_R_connectedMany (l : Launch) (G : va_G × (Nat → ClassId)) (Y : (Nat → Nat) × (Nat → Nat)) (h0 : Nat) (a_all : Nat) (a_text : Nat) (a_saved : Nat) (a_undone : Nat) (a_told : Nat) (a_pile : Nat) (a_open : Nat) (a_size : Nat) (a_capped : Nat) (a_connected : Nat) (a_bestCost : Nat) (a_bestCrosses : Nat) (a_bestPart : Nat) (a_part : Nat) (a_trees : Nat) (a_nodes : Nat) (a_out : Nat) (a_kept : Nat) (f_raised : Int32) (f_undos : Int32) (f_reached : Int32) (f_length : Int32) (f_begin : Int32) (f_sort : Int32) (f_sign : Int32) (f_value : Int32) (f_word : Int64) (f_wrongAt : Int32) (f_badAt : Int32) (f_bad : Int32) (f_read : Int32) (f_side : Int32) (f_piled : Int32) (f_opened : Int32) (f_joins : Int32) (f_had : Int32) (f_treeMany : Int32) (f_nodeMany : Int32) (f_moveNode : Int32) (f_movePart : Int32) (f_moveFirst : Int32) (f_moveThen : Int32) (f_moveOther : Int32) (f_outMany : Int32) (g_all : Nat → Int32) (g_capped : Nat → Int32) (g_connected : Nat → Int32) (x1 : Int32) (N : Nat) (res : Int32) (hf : R_connectedMany N g_all g_capped g_connected x1 = some res) : Ci l classes y_R_connectedMany b_R_connectedMany 4 (some .int) (rmk 1) G.1 (tyL G) Y [.ref h0, .int x1] [(h0, O_R f_raised a_all a_text a_saved a_undone f_undos f_reached f_length f_begin f_sort f_sign f_value f_word f_wrongAt f_badAt f_bad a_told f_read f_side a_pile f_piled a_open f_opened f_joins f_had a_size a_capped a_connected a_bestCost a_bestCrosses a_bestPart a_part a_trees f_treeMany a_nodes f_nodeMany f_moveNode f_movePart f_moveFirst f_moveThen f_moveOther a_out f_outMany a_kept), (a_all, aI G 1276 g_all), (a_capped, aZ G 256 g_capped), (a_connected, aZ G 256 g_connected)] [(h0, O_R f_raised a_all a_text a_saved a_undone f_undos f_reached f_length f_begin f_sort f_sign f_value f_word f_wrongAt f_badAt f_bad a_told f_read f_side a_pile f_piled a_open f_opened f_joins f_had a_size a_capped a_connected a_bestCost a_bestCrosses a_bestPart a_part a_trees f_treeMany a_nodes f_nodeMany f_moveNode f_movePart f_moveFirst f_moveThen f_moveOther a_out f_outMany a_kept), (a_all, aI G 1276 g_all), (a_capped, aZ G 256 g_capped), (a_connected, aZ G 256 g_connected)] res := by
  refine entI (by decide) (Nat.le_of_ble_eq_true rfl) ?_
  intro p e s m args below meth c ls A Q hx hb hml hown htl hK hsk wq hl hret
  obtain ⟨hP, hD, hS⟩ := wq
  have hl : lv_has ls 4 [(0, .ref h0), (1, .int x1)] := hl
  have hS : va_S A s.heap s.heap [] := hS
  obtain ⟨H, hH⟩ : ∃ H : Heap, H = s.heap := ⟨_, rfl⟩
  obtain ⟨locs, hlocs⟩ : ∃ z : List Loc, z = [] := ⟨_, rfl⟩
  rw [← hH] at hP
  replace hS : va_S A s.heap H locs := by rw [hH, hlocs]; exact hS
  suffices hgo : W p l e (rmk 1) s m args below meth c H locs 0 0 Q (F0 m 0 ls []) by rw [hH, hlocs] at hgo; exact hgo
  have hJ51 : ∀ (x2 : Int32) (H : Heap) (locs : List Loc) (ls : Array Slot), PDS G.1 classes A s [(h0, O_R f_raised a_all a_text a_saved a_undone f_undos f_reached f_length f_begin f_sort f_sign f_value f_word f_wrongAt f_badAt f_bad a_told f_read f_side a_pile f_piled a_open f_opened f_joins f_had a_size a_capped a_connected a_bestCost a_bestCrosses a_bestPart a_part a_trees f_treeMany a_nodes f_nodeMany f_moveNode f_movePart f_moveFirst f_moveThen f_moveOther a_out f_outMany a_kept), (a_all, aI G 1276 g_all), (a_capped, aZ G 256 g_capped), (a_connected, aZ G 256 g_connected)] H locs → lv_has ls 4 [(2, .int x2)] → R_connectedMany_51 N g_all g_capped g_connected x2 = some res → W p l e (rmk 1) s m args below meth c H locs 0 0 Q (F0 m 51 ls []) := by
    intro x2 H locs ls wq hl hf
    obtain ⟨hP, hD, hS⟩ := wq
    refine lv_iload_n hx hb d_R_connectedMany_51 rfl (lv_at hl 0 rfl) ?_
    cases hf
    exact hret 52 ls H locs hP hS d_R_connectedMany_52
  have hJ4 : ∀ (x2 : Int32) (x3 : Int32) (H : Heap) (locs : List Loc) (ls : Array Slot), PDS G.1 classes A s [(h0, O_R f_raised a_all a_text a_saved a_undone f_undos f_reached f_length f_begin f_sort f_sign f_value f_word f_wrongAt f_badAt f_bad a_told f_read f_side a_pile f_piled a_open f_opened f_joins f_had a_size a_capped a_connected a_bestCost a_bestCrosses a_bestPart a_part a_trees f_treeMany a_nodes f_nodeMany f_moveNode f_movePart f_moveFirst f_moveThen f_moveOther a_out f_outMany a_kept), (a_all, aI G 1276 g_all), (a_capped, aZ G 256 g_capped), (a_connected, aZ G 256 g_connected)] H locs → lv_has ls 4 [(0, .ref h0), (1, .int x1), (2, .int x2), (3, .int x3)] → R_connectedMany_4 N g_all g_capped g_connected x1 x2 x3 = some res → W p l e (rmk 1) s m args below meth c H locs 0 0 Q (F0 m 4 ls []) := by
    intro x2 x3 H locs ls wq hl hf
    obtain ⟨hP, hD, hS⟩ := wq
    obtain ⟨y4, hy4, hfo4⟩ := db_e hf
    have hL4 : ∀ (n : Nat) (x2 : Int32) (x3 : Int32) (H : Heap) (locs : List Loc) (ls : Array Slot), lp (fun x => R_connectedMany_b4 N g_all g_capped g_connected x1 x.1 x.2) n (x2, x3) = some y4 → PDS G.1 classes A s [(h0, O_R f_raised a_all a_text a_saved a_undone f_undos f_reached f_length f_begin f_sort f_sign f_value f_word f_wrongAt f_badAt f_bad a_told f_read f_side a_pile f_piled a_open f_opened f_joins f_had a_size a_capped a_connected a_bestCost a_bestCrosses a_bestPart a_part a_trees f_treeMany a_nodes f_nodeMany f_moveNode f_movePart f_moveFirst f_moveThen f_moveOther a_out f_outMany a_kept), (a_all, aI G 1276 g_all), (a_capped, aZ G 256 g_capped), (a_connected, aZ G 256 g_connected)] H locs → lv_has ls 4 [(0, .ref h0), (1, .int x1), (2, .int x2), (3, .int x3)] → W p l e (rmk 1) s m args below meth c H locs 0 0 Q (F0 m 4 ls []) := by
      intro n
      induction n with
      | zero =>
        intro x2 x3 H locs ls hf
        exact lp_0 hf
      | succ n ih4 =>
        intro x2 x3 H locs ls hf wq hl
        obtain ⟨hP, hD, hS⟩ := wq
        obtain ⟨r4, hf, hk4⟩ := lp_s hf
        have hf : R_connectedMany_b4 N g_all g_capped g_connected x1 x2 x3 = some r4 := hf
        have hJ43 : ∀ (x3 : Int32) (z0 : Int32) (z1 : Int32) (H : Heap) (locs : List Loc) (ls : Array Slot), PDS G.1 classes A s [(h0, O_R f_raised a_all a_text a_saved a_undone f_undos f_reached f_length f_begin f_sort f_sign f_value f_word f_wrongAt f_badAt f_bad a_told f_read f_side a_pile f_piled a_open f_opened f_joins f_had a_size a_capped a_connected a_bestCost a_bestCrosses a_bestPart a_part a_trees f_treeMany a_nodes f_nodeMany f_moveNode f_movePart f_moveFirst f_moveThen f_moveOther a_out f_outMany a_kept), (a_all, aI G 1276 g_all), (a_capped, aZ G 256 g_capped), (a_connected, aZ G 256 g_connected)] H locs → lv_has ls 4 [(0, .ref h0), (1, .int x1), (3, .int x3)] → R_connectedMany_43 N g_all g_capped g_connected x1 x3 z0 z1 = some r4 → W p l e (rmk 1) s m args below meth c H locs 0 0 Q (F0 m 43 ls [.int z1, .int z0]) := by
          intro x3 z0 z1 H locs ls wq hl hf
          obtain ⟨hP, hD, hS⟩ := wq
          refine lv_iadd hx hb d_R_connectedMany_43 ?_
          refine lv_topi (fun v7 ev7 => ?_)
          have hf := dn_e ev7 hf
          refine lv_istore_n (lv' := [(2, .int v7), (0, .ref h0), (1, .int x1), (3, .int x3)]) hx hb d_R_connectedMany_44 rfl hl (by decide) rfl (fun ls hl => ?_)
          obtain ⟨v8, ev8⟩ : ∃ z : Int32, z = x3 + (1 : Int32) := ⟨_, rfl⟩
          have hf := dn_e ev8 hf
          refine lv_iinc (v := v8) (lv' := [(3, .int v8), (2, .int v7), (0, .ref h0), (1, .int x1)]) hx hb d_R_connectedMany_45 hl (k := 3) rfl (by rw [ev8]; rfl) (by decide) rfl (fun ls hl => ?_)
          refine lv_goto (tgt := 4) hx hb d_R_connectedMany_48 (by decide) ?_
          exact ih4 v7 v8 H locs ls (lpk_i hf hk4) ⟨hP, hD, hS⟩ (lv_sub hl [2, 3, 1, 0] rfl)
        have hJ42 : ∀ (x3 : Int32) (z0 : Int32) (H : Heap) (locs : List Loc) (ls : Array Slot), PDS G.1 classes A s [(h0, O_R f_raised a_all a_text a_saved a_undone f_undos f_reached f_length f_begin f_sort f_sign f_value f_word f_wrongAt f_badAt f_bad a_told f_read f_side a_pile f_piled a_open f_opened f_joins f_had a_size a_capped a_connected a_bestCost a_bestCrosses a_bestPart a_part a_trees f_treeMany a_nodes f_nodeMany f_moveNode f_movePart f_moveFirst f_moveThen f_moveOther a_out f_outMany a_kept), (a_all, aI G 1276 g_all), (a_capped, aZ G 256 g_capped), (a_connected, aZ G 256 g_connected)] H locs → lv_has ls 4 [(0, .ref h0), (1, .int x1), (3, .int x3)] → R_connectedMany_42 N g_all g_capped g_connected x1 x3 z0 = some r4 → W p l e (rmk 1) s m args below meth c H locs 0 0 Q (F0 m 42 ls [.int z0]) := by
          intro x3 z0 H locs ls wq hl hf
          obtain ⟨hP, hD, hS⟩ := wq
          refine lv_iconst (v := (0 : Int32)) hx hb d_R_connectedMany_42 (by decide) ?_
          exact hJ43 x3 z0 (0 : Int32) H locs ls ⟨hP, hD, hS⟩ (lv_sub hl [0, 1, 2] rfl) hf
        have hJ38 : ∀ (x3 : Int32) (z0 : Int32) (H : Heap) (locs : List Loc) (ls : Array Slot), PDS G.1 classes A s [(h0, O_R f_raised a_all a_text a_saved a_undone f_undos f_reached f_length f_begin f_sort f_sign f_value f_word f_wrongAt f_badAt f_bad a_told f_read f_side a_pile f_piled a_open f_opened f_joins f_had a_size a_capped a_connected a_bestCost a_bestCrosses a_bestPart a_part a_trees f_treeMany a_nodes f_nodeMany f_moveNode f_movePart f_moveFirst f_moveThen f_moveOther a_out f_outMany a_kept), (a_all, aI G 1276 g_all), (a_capped, aZ G 256 g_capped), (a_connected, aZ G 256 g_connected)] H locs → lv_has ls 4 [(0, .ref h0), (1, .int x1), (3, .int x3)] → R_connectedMany_38 N g_all g_capped g_connected x1 x3 z0 = some r4 → W p l e (rmk 1) s m args below meth c H locs 0 0 Q (F0 m 38 ls [.int z0]) := by
          intro x3 z0 H locs ls wq hl hf
          obtain ⟨hP, hD, hS⟩ := wq
          refine lv_iconst (v := (1 : Int32)) hx hb d_R_connectedMany_38 (by decide) ?_
          refine lv_goto (tgt := 43) hx hb d_R_connectedMany_39 (by decide) ?_
          exact hJ43 x3 z0 (1 : Int32) H locs ls ⟨hP, hD, hS⟩ (lv_sub hl [0, 1, 2] rfl) hf
        refine lv_iload_n hx hb d_R_connectedMany_4 rfl (lv_at hl 3 rfl) ?_
        refine lv_aload_n hx hb d_R_connectedMany_5 rfl (lv_at hl 0 rfl) ?_
        refine call_i (isC := [0, 1]) (run_V (As := []) (rest := [.int x3]) (ci := 12) (q0 := 0) hx hb hml hown htl (c_R_everything l G Y  h0 a_all a_text a_saved a_undone a_told a_pile a_open a_size a_capped a_connected a_bestCost a_bestCrosses a_bestPart a_part a_trees a_nodes a_out a_kept f_raised f_undos f_reached f_length f_begin f_sort f_sign f_value f_word f_wrongAt f_badAt f_bad f_read f_side f_piled f_opened f_joins f_had f_treeMany f_nodeMany f_moveNode f_movePart f_moveFirst f_moveThen f_moveOther f_outMany g_all _ rfl) mv_R_everything k_1466 (hRk (by decide) (by decide)) hK hsk hS hP hD (isC := [0, 1]) rfl (by decide) rfl rfl rfl hl.1 rfl (lv_room (Nat.le_of_ble_eq_true rfl)) d_R_connectedMany_6) hP hD hS rfl rfl (fun H locs hP hD hS => ?_)
        have hP : va_P G.1 classes [(h0, O_R f_raised a_all a_text a_saved a_undone f_undos f_reached f_length f_begin f_sort f_sign f_value f_word f_wrongAt f_badAt f_bad a_told f_read f_side a_pile f_piled a_open f_opened f_joins f_had a_size a_capped a_connected a_bestCost a_bestCrosses a_bestPart a_part a_trees f_treeMany a_nodes f_nodeMany f_moveNode f_movePart f_moveFirst f_moveThen f_moveOther a_out f_outMany a_kept), (a_all, aI G 1276 g_all), (a_capped, aZ G 256 g_capped), (a_connected, aZ G 256 g_connected)] H := hP
        have hD : va_D A [(h0, O_R f_raised a_all a_text a_saved a_undone f_undos f_reached f_length f_begin f_sort f_sign f_value f_word f_wrongAt f_badAt f_bad a_told f_read f_side a_pile f_piled a_open f_opened f_joins f_had a_size a_capped a_connected a_bestCost a_bestCrosses a_bestPart a_part a_trees f_treeMany a_nodes f_nodeMany f_moveNode f_movePart f_moveFirst f_moveThen f_moveOther a_out f_outMany a_kept), (a_all, aI G 1276 g_all), (a_capped, aZ G 256 g_capped), (a_connected, aZ G 256 g_connected)] := hD
        refine lv_icmp_gt (tgt := 51) hx hb d_R_connectedMany_9 (by decide) (fun c1 => ?_) (fun c1 => ?_)
        · have hf := di_t c1 hf
          have hq4 := lpk_x hf hk4
          have hf := ex_y (f := fun y => R_connectedMany_a4 N g_all g_capped g_connected x1 y) hq4 hfo4
          have hf : R_connectedMany_51 N g_all g_capped g_connected x2 = some res := hf
          exact hJ51 x2 H locs ls ⟨hP, hD, hS⟩ (lv_sub hl [2] rfl) hf
        · have hf := di_f c1 hf
          refine lv_iload_n hx hb d_R_connectedMany_12 rfl (lv_at hl 2 rfl) ?_
          refine lv_iload_n hx hb d_R_connectedMany_13 rfl (lv_at hl 1 rfl) ?_
          refine lv_if_eq (tgt := 29) hx hb d_R_connectedMany_14 (by decide) (fun c2 => ?_) (fun c2 => ?_)
          · have hf := di_t c2 hf
            refine lv_aload_n hx hb d_R_connectedMany_29 rfl (lv_at hl 0 rfl) ?_
            refine va_get (D := G.1) (ci := 12) (v := .ref a_connected) (C := n_R) (T := T_R) (N := 44) hx hb htl iw_R hown hK hP 0 rfl rfl 27 (by decide) (htl _ k_1223) (fun _ h9 => h9) rfl d_R_connectedMany_30 ?_
            refine lv_iload_n hx hb d_R_connectedMany_33 rfl (lv_at hl 3 rfl) ?_
            obtain ⟨c3, hf⟩ := dk_e hf
            refine va_zald hx hb hK hP 3 3 rfl rfl c3 d_R_connectedMany_34 ?_
            refine lv_if_eq (tgt := 42) hx hb d_R_connectedMany_35 (by decide) (fun c4 => ?_) (fun c4 => ?_)
            · have hf := di_t c4 hf
              exact hJ42 x3 x2 H locs ls ⟨hP, hD, hS⟩ (lv_sub hl [0, 1, 3] rfl) hf
            · have hf := di_f c4 hf
              exact hJ38 x3 x2 H locs ls ⟨hP, hD, hS⟩ (lv_sub hl [0, 1, 3] rfl) hf
          · have hf := di_f c2 hf
            refine lv_aload_n hx hb d_R_connectedMany_17 rfl (lv_at hl 0 rfl) ?_
            refine va_get (D := G.1) (ci := 12) (v := .ref a_capped) (C := n_R) (T := T_R) (N := 44) hx hb htl iw_R hown hK hP 0 rfl rfl 26 (by decide) (htl _ k_1222) (fun _ h9 => h9) rfl d_R_connectedMany_18 ?_
            refine lv_iload_n hx hb d_R_connectedMany_21 rfl (lv_at hl 3 rfl) ?_
            obtain ⟨c5, hf⟩ := dk_e hf
            refine va_zald hx hb hK hP 2 3 rfl rfl c5 d_R_connectedMany_22 ?_
            refine lv_if_eq (tgt := 42) hx hb d_R_connectedMany_23 (by decide) (fun c6 => ?_) (fun c6 => ?_)
            · have hf := di_t c6 hf
              exact hJ42 x3 x2 H locs ls ⟨hP, hD, hS⟩ (lv_sub hl [0, 1, 3] rfl) hf
            · have hf := di_f c6 hf
              refine lv_goto (tgt := 38) hx hb d_R_connectedMany_26 (by decide) ?_
              exact hJ38 x3 x2 H locs ls ⟨hP, hD, hS⟩ (lv_sub hl [0, 1, 3] rfl) hf
    exact hL4 N x2 x3 H locs ls hy4 ⟨hP, hD, hS⟩ hl
  refine lv_iconst (v := (0 : Int32)) hx hb d_R_connectedMany_0 (by decide) ?_
  refine lv_istore_n (lv' := [(2, .int (0 : Int32)), (0, .ref h0), (1, .int x1)]) hx hb d_R_connectedMany_1 rfl hl (by decide) rfl (fun ls hl => ?_)
  refine lv_iconst (v := (1 : Int32)) hx hb d_R_connectedMany_2 (by decide) ?_
  refine lv_istore_n (lv' := [(3, .int (1 : Int32)), (2, .int (0 : Int32)), (0, .ref h0), (1, .int x1)]) hx hb d_R_connectedMany_3 rfl hl (by decide) rfl (fun ls hl => ?_)
  exact hJ4 (0 : Int32) (1 : Int32) H locs ls ⟨hP, hD, hS⟩ (lv_sub hl [2, 3, 1, 0] rfl) hf
