set_option maxHeartbeats 4000000 in
set_option maxRecDepth 100000 in
theorem c_R_isPlan (l : Launch) (G : va_G × (Nat → ClassId)) (Y : (Nat → Nat) × (Nat → Nat)) (h0 : Nat) (a_all : Nat) (a_text : Nat) (a_saved : Nat) (a_undone : Nat) (a_told : Nat) (a_pile : Nat) (a_open : Nat) (a_size : Nat) (a_capped : Nat) (a_connected : Nat) (a_bestCost : Nat) (a_bestCrosses : Nat) (a_bestPart : Nat) (a_part : Nat) (a_trees : Nat) (a_nodes : Nat) (a_out : Nat) (a_kept : Nat) (f_raised : Int32) (f_undos : Int32) (f_reached : Int32) (f_length : Int32) (f_begin : Int32) (f_sort : Int32) (f_sign : Int32) (f_value : Int32) (f_word : Int64) (f_wrongAt : Int32) (f_badAt : Int32) (f_bad : Int32) (f_read : Int32) (f_side : Int32) (f_piled : Int32) (f_opened : Int32) (f_joins : Int32) (f_had : Int32) (f_treeMany : Int32) (f_nodeMany : Int32) (f_moveNode : Int32) (f_movePart : Int32) (f_moveFirst : Int32) (f_moveThen : Int32) (f_moveOther : Int32) (f_outMany : Int32) (g_all : Nat → Int32) (g_open : Nat → Int32) (g_pile : Nat → Int32) (g_text : Nat → Int32) (g_told : Nat → Int32) (N : Nat) (res : Int32 × Int32 × Int32 × Int32 × Int32 × Int32 × Int64 × Int32 × Int32 × Int32 × Int32 × Int32 × Int32 × Int32 × (Nat → Int32) × (Nat → Int32) × (Nat → Int32)) (hf : R_isPlan N f_reached f_length f_begin f_sort f_sign f_value f_word f_wrongAt f_badAt f_bad f_piled f_opened f_joins f_had g_all g_open g_pile g_text g_told = some res) : Ci l classes y_R_isPlan b_R_isPlan 1 (some .boolean) (rmk 4) G.1 (tyL G) Y [.ref h0] [(h0, O_R f_raised a_all a_text a_saved a_undone f_undos f_reached f_length f_begin f_sort f_sign f_value f_word f_wrongAt f_badAt f_bad a_told f_read f_side a_pile f_piled a_open f_opened f_joins f_had a_size a_capped a_connected a_bestCost a_bestCrosses a_bestPart a_part a_trees f_treeMany a_nodes f_nodeMany f_moveNode f_movePart f_moveFirst f_moveThen f_moveOther a_out f_outMany a_kept), (a_all, aI G 1276 g_all), (a_open, aI G 502 g_open), (a_pile, aI G 502 g_pile), (a_text, aB G 2000 g_text), (a_told, aI G 316 g_told)] [(h0, O_R f_raised a_all a_text a_saved a_undone f_undos res.2.1 f_length res.2.2.1 res.2.2.2.1 res.2.2.2.2.1 res.2.2.2.2.2.1 res.2.2.2.2.2.2.1 res.2.2.2.2.2.2.2.1 res.2.2.2.2.2.2.2.2.1 res.2.2.2.2.2.2.2.2.2.1 a_told f_read f_side a_pile res.2.2.2.2.2.2.2.2.2.2.1 a_open res.2.2.2.2.2.2.2.2.2.2.2.1 res.2.2.2.2.2.2.2.2.2.2.2.2.1 res.2.2.2.2.2.2.2.2.2.2.2.2.2.1 a_size a_capped a_connected a_bestCost a_bestCrosses a_bestPart a_part a_trees f_treeMany a_nodes f_nodeMany f_moveNode f_movePart f_moveFirst f_moveThen f_moveOther a_out f_outMany a_kept), (a_all, aI G 1276 g_all), (a_open, aI G 502 res.2.2.2.2.2.2.2.2.2.2.2.2.2.2.1), (a_pile, aI G 502 res.2.2.2.2.2.2.2.2.2.2.2.2.2.2.2.1), (a_text, aB G 2000 g_text), (a_told, aI G 316 res.2.2.2.2.2.2.2.2.2.2.2.2.2.2.2.2)] res.1 := by
  refine entZ (by decide) (Nat.le_of_ble_eq_true rfl) ?_
  intro p e s m args below meth c ls A Q hx hb hml hown htl hK hsk wq hl hret
  obtain ⟨hP, hD, hS⟩ := wq
  have hl : lv_has ls 1 [(0, .ref h0)] := hl
  have hS : va_S A s.heap s.heap [] := hS
  obtain ⟨H, hH⟩ : ∃ H : Heap, H = s.heap := ⟨_, rfl⟩
  obtain ⟨locs, hlocs⟩ : ∃ z : List Loc, z = [] := ⟨_, rfl⟩
  rw [← hH] at hP
  replace hS : va_S A s.heap H locs := by rw [hH, hlocs]; exact hS
  suffices hgo : W p l e (rmk 4) s m args below meth c H locs 0 0 Q (F0 m 0 ls []) by rw [hH, hlocs] at hgo; exact hgo
  have hJ67 : ∀ (f_reached : Int32) (f_begin : Int32) (f_sort : Int32) (f_sign : Int32) (f_value : Int32) (f_word : Int64) (f_wrongAt : Int32) (f_badAt : Int32) (f_bad : Int32) (f_piled : Int32) (f_opened : Int32) (f_joins : Int32) (f_had : Int32) (g_open : Nat → Int32) (g_pile : Nat → Int32) (g_told : Nat → Int32) (H : Heap) (locs : List Loc) (ls : Array Slot), PDS G.1 classes A s [(h0, O_R f_raised a_all a_text a_saved a_undone f_undos f_reached f_length f_begin f_sort f_sign f_value f_word f_wrongAt f_badAt f_bad a_told f_read f_side a_pile f_piled a_open f_opened f_joins f_had a_size a_capped a_connected a_bestCost a_bestCrosses a_bestPart a_part a_trees f_treeMany a_nodes f_nodeMany f_moveNode f_movePart f_moveFirst f_moveThen f_moveOther a_out f_outMany a_kept), (a_all, aI G 1276 g_all), (a_open, aI G 502 g_open), (a_pile, aI G 502 g_pile), (a_text, aB G 2000 g_text), (a_told, aI G 316 g_told)] H locs → lv_has ls 1 [(0, .ref h0)] → R_isPlan_67 N f_reached f_length f_begin f_sort f_sign f_value f_word f_wrongAt f_badAt f_bad f_piled f_opened f_joins f_had g_all g_open g_pile g_text g_told = some res → W p l e (rmk 4) s m args below meth c H locs 0 0 Q (F0 m 67 ls []) := by
    intro f_reached f_begin f_sort f_sign f_value f_word f_wrongAt f_badAt f_bad f_piled f_opened f_joins f_had g_open g_pile g_told H locs ls wq hl hf
    obtain ⟨hP, hD, hS⟩ := wq
    refine lv_aload_n hx hb d_R_isPlan_67 rfl (lv_at hl 0 rfl) ?_
    refine va_get (D := G.1) (ci := 12) (v := .int f_sort) (C := n_R) (T := T_R) (N := 44) hx hb htl iw_R hown hK hP 0 rfl rfl 9 (by decide) (htl _ k_1205) (fun _ h9 => h9) rfl d_R_isPlan_68 ?_
    refine lv_if_eq (tgt := 81) hx hb d_R_isPlan_71 (by decide) (fun c15 => ?_) (fun c15 => ?_)
    · have hf := di_t c15 hf
      refine lv_iconst (v := (1 : Int32)) hx hb d_R_isPlan_81 (by decide) ?_
      refine lv_goto (tgt := 86) hx hb d_R_isPlan_82 (by decide) ?_
      cases hf
      exact hret 86 ls H locs z_1 hP hS d_R_isPlan_86
    · have hf := di_f c15 hf
      refine lv_aload_n hx hb d_R_isPlan_74 rfl (lv_at hl 0 rfl) ?_
      obtain ⟨t16, hv17, hf⟩ := db_e hf
      refine call_i (isC := [0]) (run_V (As := []) (rest := []) (ci := 12) (q0 := 0) hx hb hml hown htl (c_R_fails l G Y  h0 a_all a_text a_saved a_undone a_told a_pile a_open a_size a_capped a_connected a_bestCost a_bestCrosses a_bestPart a_part a_trees a_nodes a_out a_kept f_raised f_undos f_reached f_length f_begin f_sort f_sign f_value f_word f_wrongAt f_badAt f_bad f_read f_side f_piled f_opened f_joins f_had f_treeMany f_nodeMany f_moveNode f_movePart f_moveFirst f_moveThen f_moveOther f_outMany t16 hv17) mv_R_fails k_1379 (hRk (by decide) (by decide)) hK hsk hS hP hD (isC := [0]) rfl (by decide) rfl rfl rfl hl.1 rfl (lv_room (Nat.le_of_ble_eq_true rfl)) d_R_isPlan_75) hP hD hS rfl rfl (fun H locs hP hD hS => ?_)
      have hP : va_P G.1 classes [(h0, O_R f_raised a_all a_text a_saved a_undone f_undos f_reached f_length f_begin f_sort f_sign f_value f_word t16.2 f_badAt f_bad a_told f_read f_side a_pile f_piled a_open f_opened f_joins f_had a_size a_capped a_connected a_bestCost a_bestCrosses a_bestPart a_part a_trees f_treeMany a_nodes f_nodeMany f_moveNode f_movePart f_moveFirst f_moveThen f_moveOther a_out f_outMany a_kept), (a_all, aI G 1276 g_all), (a_open, aI G 502 g_open), (a_pile, aI G 502 g_pile), (a_text, aB G 2000 g_text), (a_told, aI G 316 g_told)] H := hP
      have hD : va_D A [(h0, O_R f_raised a_all a_text a_saved a_undone f_undos f_reached f_length f_begin f_sort f_sign f_value f_word t16.2 f_badAt f_bad a_told f_read f_side a_pile f_piled a_open f_opened f_joins f_had a_size a_capped a_connected a_bestCost a_bestCrosses a_bestPart a_part a_trees f_treeMany a_nodes f_nodeMany f_moveNode f_movePart f_moveFirst f_moveThen f_moveOther a_out f_outMany a_kept), (a_all, aI G 1276 g_all), (a_open, aI G 502 g_open), (a_pile, aI G 502 g_pile), (a_text, aB G 2000 g_text), (a_told, aI G 316 g_told)] := hD
      refine lv_if_eq (tgt := 85) hx hb d_R_isPlan_78 (by decide) (fun c18 => ?_) (fun c18 => ?_)
      · have hf := di_t c18 hf
        refine lv_iconst (v := (0 : Int32)) hx hb d_R_isPlan_85 (by decide) ?_
        cases hf
        exact hret 86 ls H locs z_0 hP hS d_R_isPlan_86
      · have hf := di_f c18 hf
        refine lv_iconst (v := (1 : Int32)) hx hb d_R_isPlan_81 (by decide) ?_
        refine lv_goto (tgt := 86) hx hb d_R_isPlan_82 (by decide) ?_
        cases hf
        exact hret 86 ls H locs z_1 hP hS d_R_isPlan_86
  have hJ58 : ∀ (f_reached : Int32) (f_begin : Int32) (f_sort : Int32) (f_sign : Int32) (f_value : Int32) (f_word : Int64) (f_wrongAt : Int32) (f_badAt : Int32) (f_bad : Int32) (f_piled : Int32) (f_opened : Int32) (f_joins : Int32) (f_had : Int32) (g_open : Nat → Int32) (g_pile : Nat → Int32) (g_told : Nat → Int32) (H : Heap) (locs : List Loc) (ls : Array Slot), PDS G.1 classes A s [(h0, O_R f_raised a_all a_text a_saved a_undone f_undos f_reached f_length f_begin f_sort f_sign f_value f_word f_wrongAt f_badAt f_bad a_told f_read f_side a_pile f_piled a_open f_opened f_joins f_had a_size a_capped a_connected a_bestCost a_bestCrosses a_bestPart a_part a_trees f_treeMany a_nodes f_nodeMany f_moveNode f_movePart f_moveFirst f_moveThen f_moveOther a_out f_outMany a_kept), (a_all, aI G 1276 g_all), (a_open, aI G 502 g_open), (a_pile, aI G 502 g_pile), (a_text, aB G 2000 g_text), (a_told, aI G 316 g_told)] H locs → lv_has ls 1 [] → R_isPlan_58 N f_reached f_length f_begin f_sort f_sign f_value f_word f_wrongAt f_badAt f_bad f_piled f_opened f_joins f_had g_all g_open g_pile g_text g_told = some res → W p l e (rmk 4) s m args below meth c H locs 0 0 Q (F0 m 58 ls []) := by
    intro f_reached f_begin f_sort f_sign f_value f_word f_wrongAt f_badAt f_bad f_piled f_opened f_joins f_had g_open g_pile g_told H locs ls wq hl hf
    obtain ⟨hP, hD, hS⟩ := wq
    refine lv_iconst (v := (0 : Int32)) hx hb d_R_isPlan_58 (by decide) ?_
    cases hf
    exact hret 59 ls H locs z_0 hP hS d_R_isPlan_59
  have hJ0 : ∀ (f_reached : Int32) (f_begin : Int32) (f_sort : Int32) (f_sign : Int32) (f_value : Int32) (f_word : Int64) (f_wrongAt : Int32) (f_badAt : Int32) (f_bad : Int32) (f_piled : Int32) (f_opened : Int32) (f_joins : Int32) (f_had : Int32) (g_open : Nat → Int32) (g_pile : Nat → Int32) (g_told : Nat → Int32) (H : Heap) (locs : List Loc) (ls : Array Slot), PDS G.1 classes A s [(h0, O_R f_raised a_all a_text a_saved a_undone f_undos f_reached f_length f_begin f_sort f_sign f_value f_word f_wrongAt f_badAt f_bad a_told f_read f_side a_pile f_piled a_open f_opened f_joins f_had a_size a_capped a_connected a_bestCost a_bestCrosses a_bestPart a_part a_trees f_treeMany a_nodes f_nodeMany f_moveNode f_movePart f_moveFirst f_moveThen f_moveOther a_out f_outMany a_kept), (a_all, aI G 1276 g_all), (a_open, aI G 502 g_open), (a_pile, aI G 502 g_pile), (a_text, aB G 2000 g_text), (a_told, aI G 316 g_told)] H locs → lv_has ls 1 [(0, .ref h0)] → R_isPlan_0 N f_reached f_length f_begin f_sort f_sign f_value f_word f_wrongAt f_badAt f_bad f_piled f_opened f_joins f_had g_all g_open g_pile g_text g_told = some res → W p l e (rmk 4) s m args below meth c H locs 0 0 Q (F0 m 0 ls []) := by
    intro f_reached f_begin f_sort f_sign f_value f_word f_wrongAt f_badAt f_bad f_piled f_opened f_joins f_had g_open g_pile g_told H locs ls wq hl hf
    obtain ⟨hP, hD, hS⟩ := wq
    obtain ⟨y0, hy0, hfo0⟩ := db_e hf
    have hL0 : ∀ (n : Nat) (f_reached : Int32) (f_begin : Int32) (f_sort : Int32) (f_sign : Int32) (f_value : Int32) (f_word : Int64) (f_wrongAt : Int32) (f_badAt : Int32) (f_bad : Int32) (f_piled : Int32) (f_opened : Int32) (f_joins : Int32) (f_had : Int32) (g_open : Nat → Int32) (g_pile : Nat → Int32) (g_told : Nat → Int32) (H : Heap) (locs : List Loc) (ls : Array Slot), lp (fun x => R_isPlan_b0 N x.1 f_length x.2.1 x.2.2.1 x.2.2.2.1 x.2.2.2.2.1 x.2.2.2.2.2.1 x.2.2.2.2.2.2.1 x.2.2.2.2.2.2.2.1 x.2.2.2.2.2.2.2.2.1 x.2.2.2.2.2.2.2.2.2.1 x.2.2.2.2.2.2.2.2.2.2.1 x.2.2.2.2.2.2.2.2.2.2.2.1 x.2.2.2.2.2.2.2.2.2.2.2.2.1 g_all x.2.2.2.2.2.2.2.2.2.2.2.2.2.1 x.2.2.2.2.2.2.2.2.2.2.2.2.2.2.1 g_text x.2.2.2.2.2.2.2.2.2.2.2.2.2.2.2) n (f_reached, f_begin, f_sort, f_sign, f_value, f_word, f_wrongAt, f_badAt, f_bad, f_piled, f_opened, f_joins, f_had, g_open, g_pile, g_told) = some y0 → PDS G.1 classes A s [(h0, O_R f_raised a_all a_text a_saved a_undone f_undos f_reached f_length f_begin f_sort f_sign f_value f_word f_wrongAt f_badAt f_bad a_told f_read f_side a_pile f_piled a_open f_opened f_joins f_had a_size a_capped a_connected a_bestCost a_bestCrosses a_bestPart a_part a_trees f_treeMany a_nodes f_nodeMany f_moveNode f_movePart f_moveFirst f_moveThen f_moveOther a_out f_outMany a_kept), (a_all, aI G 1276 g_all), (a_open, aI G 502 g_open), (a_pile, aI G 502 g_pile), (a_text, aB G 2000 g_text), (a_told, aI G 316 g_told)] H locs → lv_has ls 1 [(0, .ref h0)] → W p l e (rmk 4) s m args below meth c H locs 0 0 Q (F0 m 0 ls []) := by
      intro n
      induction n with
      | zero =>
        intro f_reached f_begin f_sort f_sign f_value f_word f_wrongAt f_badAt f_bad f_piled f_opened f_joins f_had g_open g_pile g_told H locs ls hf
        exact lp_0 hf
      | succ n ih0 =>
        intro f_reached f_begin f_sort f_sign f_value f_word f_wrongAt f_badAt f_bad f_piled f_opened f_joins f_had g_open g_pile g_told H locs ls hf wq hl
        obtain ⟨hP, hD, hS⟩ := wq
        obtain ⟨r0, hf, hk0⟩ := lp_s hf
        have hf : R_isPlan_b0 N f_reached f_length f_begin f_sort f_sign f_value f_word f_wrongAt f_badAt f_bad f_piled f_opened f_joins f_had g_all g_open g_pile g_text g_told = some r0 := hf
        have hJ44 : ∀ (f_reached : Int32) (f_begin : Int32) (f_sort : Int32) (f_sign : Int32) (f_value : Int32) (f_word : Int64) (f_wrongAt : Int32) (f_badAt : Int32) (f_bad : Int32) (f_piled : Int32) (f_opened : Int32) (f_joins : Int32) (f_had : Int32) (g_open : Nat → Int32) (g_pile : Nat → Int32) (g_told : Nat → Int32) (H : Heap) (locs : List Loc) (ls : Array Slot), PDS G.1 classes A s [(h0, O_R f_raised a_all a_text a_saved a_undone f_undos f_reached f_length f_begin f_sort f_sign f_value f_word f_wrongAt f_badAt f_bad a_told f_read f_side a_pile f_piled a_open f_opened f_joins f_had a_size a_capped a_connected a_bestCost a_bestCrosses a_bestPart a_part a_trees f_treeMany a_nodes f_nodeMany f_moveNode f_movePart f_moveFirst f_moveThen f_moveOther a_out f_outMany a_kept), (a_all, aI G 1276 g_all), (a_open, aI G 502 g_open), (a_pile, aI G 502 g_pile), (a_text, aB G 2000 g_text), (a_told, aI G 316 g_told)] H locs → lv_has ls 1 [(0, .ref h0)] → R_isPlan_44 N f_reached f_length f_begin f_sort f_sign f_value f_word f_wrongAt f_badAt f_bad f_piled f_opened f_joins f_had g_all g_open g_pile g_text g_told = some r0 → W p l e (rmk 4) s m args below meth c H locs 0 0 Q (F0 m 44 ls []) := by
          intro f_reached f_begin f_sort f_sign f_value f_word f_wrongAt f_badAt f_bad f_piled f_opened f_joins f_had g_open g_pile g_told H locs ls wq hl hf
          obtain ⟨hP, hD, hS⟩ := wq
          refine lv_aload_n hx hb d_R_isPlan_44 rfl (lv_at hl 0 rfl) ?_
          obtain ⟨t8, hv9, hf⟩ := db_e hf
          refine call_i (isC := [0, 1, 3, 4]) (run_V (As := []) (rest := []) (ci := 12) (q0 := 0) hx hb hml hown htl (c_R_takesNumber l G Y  h0 a_all a_text a_saved a_undone a_told a_pile a_open a_size a_capped a_connected a_bestCost a_bestCrosses a_bestPart a_part a_trees a_nodes a_out a_kept f_raised f_undos f_reached f_length f_begin f_sort f_sign f_value f_word f_wrongAt f_badAt f_bad f_read f_side f_piled f_opened f_joins f_had f_treeMany f_nodeMany f_moveNode f_movePart f_moveFirst f_moveThen f_moveOther f_outMany g_all g_pile g_text N t8 hv9) mv_R_takesNumber k_1415 (hRk (by decide) (by decide)) hK hsk hS hP hD (isC := [0, 1, 3, 4]) rfl (by decide) rfl rfl rfl hl.1 rfl (lv_room (Nat.le_of_ble_eq_true rfl)) d_R_isPlan_45) hP hD hS rfl rfl (fun H locs hP hD hS => ?_)
          have hP : va_P G.1 classes [(h0, O_R f_raised a_all a_text a_saved a_undone f_undos t8.2.1 f_length t8.2.2.1 t8.2.2.2.1 t8.2.2.2.2.1 t8.2.2.2.2.2.1 t8.2.2.2.2.2.2.1 t8.2.2.2.2.2.2.2.1 t8.2.2.2.2.2.2.2.2.1 t8.2.2.2.2.2.2.2.2.2.1 a_told f_read f_side a_pile t8.2.2.2.2.2.2.2.2.2.2.1 a_open f_opened f_joins t8.2.2.2.2.2.2.2.2.2.2.2.1 a_size a_capped a_connected a_bestCost a_bestCrosses a_bestPart a_part a_trees f_treeMany a_nodes f_nodeMany f_moveNode f_movePart f_moveFirst f_moveThen f_moveOther a_out f_outMany a_kept), (a_all, aI G 1276 g_all), (a_open, aI G 502 g_open), (a_pile, aI G 502 t8.2.2.2.2.2.2.2.2.2.2.2.2), (a_text, aB G 2000 g_text), (a_told, aI G 316 g_told)] H := hP
          have hD : va_D A [(h0, O_R f_raised a_all a_text a_saved a_undone f_undos t8.2.1 f_length t8.2.2.1 t8.2.2.2.1 t8.2.2.2.2.1 t8.2.2.2.2.2.1 t8.2.2.2.2.2.2.1 t8.2.2.2.2.2.2.2.1 t8.2.2.2.2.2.2.2.2.1 t8.2.2.2.2.2.2.2.2.2.1 a_told f_read f_side a_pile t8.2.2.2.2.2.2.2.2.2.2.1 a_open f_opened f_joins t8.2.2.2.2.2.2.2.2.2.2.2.1 a_size a_capped a_connected a_bestCost a_bestCrosses a_bestPart a_part a_trees f_treeMany a_nodes f_nodeMany f_moveNode f_movePart f_moveFirst f_moveThen f_moveOther a_out f_outMany a_kept), (a_all, aI G 1276 g_all), (a_open, aI G 502 g_open), (a_pile, aI G 502 t8.2.2.2.2.2.2.2.2.2.2.2.2), (a_text, aB G 2000 g_text), (a_told, aI G 316 g_told)] := hD
          refine lv_if_eq (tgt := 58) hx hb d_R_isPlan_48 (by decide) (fun c10 => ?_) (fun c10 => ?_)
          · have hf := di_t c10 hf
            have hq0 := lpk_x hf hk0
            have hf := ex_y (f := fun y => R_isPlan_a0 N f_length g_all g_text y) hq0 hfo0
            have hf : R_isPlan_58 N t8.2.1 f_length t8.2.2.1 t8.2.2.2.1 t8.2.2.2.2.1 t8.2.2.2.2.2.1 t8.2.2.2.2.2.2.1 t8.2.2.2.2.2.2.2.1 t8.2.2.2.2.2.2.2.2.1 t8.2.2.2.2.2.2.2.2.2.1 t8.2.2.2.2.2.2.2.2.2.2.1 f_opened f_joins t8.2.2.2.2.2.2.2.2.2.2.2.1 g_all g_open t8.2.2.2.2.2.2.2.2.2.2.2.2 g_text g_told = some res := hf
            exact hJ58 t8.2.1 t8.2.2.1 t8.2.2.2.1 t8.2.2.2.2.1 t8.2.2.2.2.2.1 t8.2.2.2.2.2.2.1 t8.2.2.2.2.2.2.2.1 t8.2.2.2.2.2.2.2.2.1 t8.2.2.2.2.2.2.2.2.2.1 t8.2.2.2.2.2.2.2.2.2.2.1 f_opened f_joins t8.2.2.2.2.2.2.2.2.2.2.2.1 g_open t8.2.2.2.2.2.2.2.2.2.2.2.2 g_told H locs ls ⟨hP, hD, hS⟩ (lv_sub hl [] rfl) hf
          · have hf := di_f c10 hf
            refine lv_aload_n hx hb d_R_isPlan_51 rfl (lv_at hl 0 rfl) ?_
            obtain ⟨t11, hv12, hf⟩ := db_e hf
            refine call_i (isC := [0, 2, 3, 4, 5]) (run_V (As := []) (rest := []) (ci := 12) (q0 := 0) hx hb hml hown htl (c_R_closes l G Y  h0 a_all a_text a_saved a_undone a_told a_pile a_open a_size a_capped a_connected a_bestCost a_bestCrosses a_bestPart a_part a_trees a_nodes a_out a_kept f_raised f_undos t8.2.1 f_length t8.2.2.1 t8.2.2.2.1 t8.2.2.2.2.1 t8.2.2.2.2.2.1 t8.2.2.2.2.2.2.1 t8.2.2.2.2.2.2.2.1 t8.2.2.2.2.2.2.2.2.1 t8.2.2.2.2.2.2.2.2.2.1 f_read f_side t8.2.2.2.2.2.2.2.2.2.2.1 f_opened f_joins t8.2.2.2.2.2.2.2.2.2.2.2.1 f_treeMany f_nodeMany f_moveNode f_movePart f_moveFirst f_moveThen f_moveOther f_outMany g_open t8.2.2.2.2.2.2.2.2.2.2.2.2 g_text g_told N t11 hv12) mv_R_closes k_1423 (hRk (by decide) (by decide)) hK hsk hS hP hD (isC := [0, 2, 3, 4, 5]) rfl (by decide) rfl rfl rfl hl.1 rfl (lv_room (Nat.le_of_ble_eq_true rfl)) d_R_isPlan_52) hP hD hS rfl rfl (fun H locs hP hD hS => ?_)
            have hP : va_P G.1 classes [(h0, O_R f_raised a_all a_text a_saved a_undone f_undos t11.2.1 f_length t11.2.2.1 t11.2.2.2.1 t11.2.2.2.2.1 t11.2.2.2.2.2.1 t11.2.2.2.2.2.2.1 t11.2.2.2.2.2.2.2.1 t8.2.2.2.2.2.2.2.2.1 t8.2.2.2.2.2.2.2.2.2.1 a_told f_read f_side a_pile t11.2.2.2.2.2.2.2.2.1 a_open t11.2.2.2.2.2.2.2.2.2.1 t11.2.2.2.2.2.2.2.2.2.2.1 t8.2.2.2.2.2.2.2.2.2.2.2.1 a_size a_capped a_connected a_bestCost a_bestCrosses a_bestPart a_part a_trees f_treeMany a_nodes f_nodeMany f_moveNode f_movePart f_moveFirst f_moveThen f_moveOther a_out f_outMany a_kept), (a_all, aI G 1276 g_all), (a_open, aI G 502 t11.2.2.2.2.2.2.2.2.2.2.2.1), (a_pile, aI G 502 t11.2.2.2.2.2.2.2.2.2.2.2.2.1), (a_text, aB G 2000 g_text), (a_told, aI G 316 t11.2.2.2.2.2.2.2.2.2.2.2.2.2)] H := hP
            have hD : va_D A [(h0, O_R f_raised a_all a_text a_saved a_undone f_undos t11.2.1 f_length t11.2.2.1 t11.2.2.2.1 t11.2.2.2.2.1 t11.2.2.2.2.2.1 t11.2.2.2.2.2.2.1 t11.2.2.2.2.2.2.2.1 t8.2.2.2.2.2.2.2.2.1 t8.2.2.2.2.2.2.2.2.2.1 a_told f_read f_side a_pile t11.2.2.2.2.2.2.2.2.1 a_open t11.2.2.2.2.2.2.2.2.2.1 t11.2.2.2.2.2.2.2.2.2.2.1 t8.2.2.2.2.2.2.2.2.2.2.2.1 a_size a_capped a_connected a_bestCost a_bestCrosses a_bestPart a_part a_trees f_treeMany a_nodes f_nodeMany f_moveNode f_movePart f_moveFirst f_moveThen f_moveOther a_out f_outMany a_kept), (a_all, aI G 1276 g_all), (a_open, aI G 502 t11.2.2.2.2.2.2.2.2.2.2.2.1), (a_pile, aI G 502 t11.2.2.2.2.2.2.2.2.2.2.2.2.1), (a_text, aB G 2000 g_text), (a_told, aI G 316 t11.2.2.2.2.2.2.2.2.2.2.2.2.2)] := hD
            refine lv_if_ne (tgt := 60) hx hb d_R_isPlan_55 (by decide) (fun c13 => ?_) (fun c13 => ?_)
            · have hf := di_f c13 hf
              refine lv_aload_n hx hb d_R_isPlan_60 rfl (lv_at hl 0 rfl) ?_
              refine va_get (D := G.1) (ci := 12) (v := .int t11.2.2.2.2.2.2.2.2.2.1) (C := n_R) (T := T_R) (N := 44) hx hb htl iw_R hown hK hP 0 rfl rfl 22 (by decide) (htl _ k_1218) (fun _ h9 => h9) rfl d_R_isPlan_61 ?_
              refine lv_if_gt (tgt := 0) hx hb d_R_isPlan_64 (by decide) (fun c14 => ?_) (fun c14 => ?_)
              · have hf := di_t c14 hf
                exact ih0 t11.2.1 t11.2.2.1 t11.2.2.2.1 t11.2.2.2.2.1 t11.2.2.2.2.2.1 t11.2.2.2.2.2.2.1 t11.2.2.2.2.2.2.2.1 t8.2.2.2.2.2.2.2.2.1 t8.2.2.2.2.2.2.2.2.2.1 t11.2.2.2.2.2.2.2.2.1 t11.2.2.2.2.2.2.2.2.2.1 t11.2.2.2.2.2.2.2.2.2.2.1 t8.2.2.2.2.2.2.2.2.2.2.2.1 t11.2.2.2.2.2.2.2.2.2.2.2.1 t11.2.2.2.2.2.2.2.2.2.2.2.2.1 t11.2.2.2.2.2.2.2.2.2.2.2.2.2 H locs ls (lpk_i hf hk0) ⟨hP, hD, hS⟩ (lv_sub hl [0] rfl)
              · have hf := di_f c14 hf
                have hq0 := lpk_x hf hk0
                have hf := ex_y (f := fun y => R_isPlan_a0 N f_length g_all g_text y) hq0 hfo0
                have hf : R_isPlan_67 N t11.2.1 f_length t11.2.2.1 t11.2.2.2.1 t11.2.2.2.2.1 t11.2.2.2.2.2.1 t11.2.2.2.2.2.2.1 t11.2.2.2.2.2.2.2.1 t8.2.2.2.2.2.2.2.2.1 t8.2.2.2.2.2.2.2.2.2.1 t11.2.2.2.2.2.2.2.2.1 t11.2.2.2.2.2.2.2.2.2.1 t11.2.2.2.2.2.2.2.2.2.2.1 t8.2.2.2.2.2.2.2.2.2.2.2.1 g_all t11.2.2.2.2.2.2.2.2.2.2.2.1 t11.2.2.2.2.2.2.2.2.2.2.2.2.1 g_text t11.2.2.2.2.2.2.2.2.2.2.2.2.2 = some res := hf
                exact hJ67 t11.2.1 t11.2.2.1 t11.2.2.2.1 t11.2.2.2.2.1 t11.2.2.2.2.2.1 t11.2.2.2.2.2.2.1 t11.2.2.2.2.2.2.2.1 t8.2.2.2.2.2.2.2.2.1 t8.2.2.2.2.2.2.2.2.2.1 t11.2.2.2.2.2.2.2.2.1 t11.2.2.2.2.2.2.2.2.2.1 t11.2.2.2.2.2.2.2.2.2.2.1 t8.2.2.2.2.2.2.2.2.2.2.2.1 t11.2.2.2.2.2.2.2.2.2.2.2.1 t11.2.2.2.2.2.2.2.2.2.2.2.2.1 t11.2.2.2.2.2.2.2.2.2.2.2.2.2 H locs ls ⟨hP, hD, hS⟩ (lv_sub hl [0] rfl) hf
            · have hf := di_t c13 hf
              have hq0 := lpk_x hf hk0
              have hf := ex_y (f := fun y => R_isPlan_a0 N f_length g_all g_text y) hq0 hfo0
              have hf : R_isPlan_58 N t11.2.1 f_length t11.2.2.1 t11.2.2.2.1 t11.2.2.2.2.1 t11.2.2.2.2.2.1 t11.2.2.2.2.2.2.1 t11.2.2.2.2.2.2.2.1 t8.2.2.2.2.2.2.2.2.1 t8.2.2.2.2.2.2.2.2.2.1 t11.2.2.2.2.2.2.2.2.1 t11.2.2.2.2.2.2.2.2.2.1 t11.2.2.2.2.2.2.2.2.2.2.1 t8.2.2.2.2.2.2.2.2.2.2.2.1 g_all t11.2.2.2.2.2.2.2.2.2.2.2.1 t11.2.2.2.2.2.2.2.2.2.2.2.2.1 g_text t11.2.2.2.2.2.2.2.2.2.2.2.2.2 = some res := hf
              exact hJ58 t11.2.1 t11.2.2.1 t11.2.2.2.1 t11.2.2.2.2.1 t11.2.2.2.2.2.1 t11.2.2.2.2.2.2.1 t11.2.2.2.2.2.2.2.1 t8.2.2.2.2.2.2.2.2.1 t8.2.2.2.2.2.2.2.2.2.1 t11.2.2.2.2.2.2.2.2.1 t11.2.2.2.2.2.2.2.2.2.1 t11.2.2.2.2.2.2.2.2.2.2.1 t8.2.2.2.2.2.2.2.2.2.2.2.1 t11.2.2.2.2.2.2.2.2.2.2.2.1 t11.2.2.2.2.2.2.2.2.2.2.2.2.1 t11.2.2.2.2.2.2.2.2.2.2.2.2.2 H locs ls ⟨hP, hD, hS⟩ (lv_sub hl [] rfl) hf
        refine lv_aload_n hx hb d_R_isPlan_0 rfl (lv_at hl 0 rfl) ?_
        refine va_get (D := G.1) (ci := 12) (v := .int f_sort) (C := n_R) (T := T_R) (N := 44) hx hb htl iw_R hown hK hP 0 rfl rfl 9 (by decide) (htl _ k_1205) (fun _ h9 => h9) rfl d_R_isPlan_1 ?_
        refine lv_iconst (v := (4 : Int32)) hx hb d_R_isPlan_4 (by decide) ?_
        refine lv_icmp_ne (tgt := 44) hx hb d_R_isPlan_5 (by decide) (fun c1 => ?_) (fun c1 => ?_)
        · have hf := di_f c1 hf
          exact hJ44 f_reached f_begin f_sort f_sign f_value f_word f_wrongAt f_badAt f_bad f_piled f_opened f_joins f_had g_open g_pile g_told H locs ls ⟨hP, hD, hS⟩ (lv_sub hl [0] rfl) hf
        · have hf := di_t c1 hf
          refine lv_aload_n hx hb d_R_isPlan_8 rfl (lv_at hl 0 rfl) ?_
          refine va_get (D := G.1) (ci := 12) (v := .int f_sign) (C := n_R) (T := T_R) (N := 44) hx hb htl iw_R hown hK hP 0 rfl rfl 10 (by decide) (htl _ k_1206) (fun _ h9 => h9) rfl d_R_isPlan_9 ?_
          refine lv_bipush (v := (40 : Int32)) hx hb d_R_isPlan_12 (by decide) ?_
          refine lv_icmp_ne (tgt := 44) hx hb d_R_isPlan_14 (by decide) (fun c2 => ?_) (fun c2 => ?_)
          · have hf := di_f c2 hf
            exact hJ44 f_reached f_begin f_sort f_sign f_value f_word f_wrongAt f_badAt f_bad f_piled f_opened f_joins f_had g_open g_pile g_told H locs ls ⟨hP, hD, hS⟩ (lv_sub hl [0] rfl) hf
          · have hf := di_t c2 hf
            refine lv_aload_n hx hb d_R_isPlan_17 rfl (lv_at hl 0 rfl) ?_
            obtain ⟨t3, hv4, hf⟩ := db_e hf
            refine call_v (isC := [0, 4]) (run_V (As := []) (rest := []) (ci := 12) (q0 := 0) hx hb hml hown htl (c_R_token l G Y  h0 a_all a_text a_saved a_undone a_told a_pile a_open a_size a_capped a_connected a_bestCost a_bestCrosses a_bestPart a_part a_trees a_nodes a_out a_kept f_raised f_undos f_reached f_length f_begin f_sort f_sign f_value f_word f_wrongAt f_badAt f_bad f_read f_side f_piled f_opened f_joins f_had f_treeMany f_nodeMany f_moveNode f_movePart f_moveFirst f_moveThen f_moveOther f_outMany g_text N t3 hv4) mv_R_token k_1346 (hRk (by decide) (by decide)) hK hsk hS hP hD (isC := [0, 4]) rfl (by decide) rfl rfl rfl hl.1 rfl (lv_room (Nat.le_of_ble_eq_true rfl)) d_R_isPlan_18) hP hD hS rfl rfl (fun H locs hP hD hS => ?_)
            have hP : va_P G.1 classes [(h0, O_R f_raised a_all a_text a_saved a_undone f_undos t3.1 f_length t3.2.1 t3.2.2.1 t3.2.2.2.1 t3.2.2.2.2.1 t3.2.2.2.2.2 f_wrongAt f_badAt f_bad a_told f_read f_side a_pile f_piled a_open f_opened f_joins f_had a_size a_capped a_connected a_bestCost a_bestCrosses a_bestPart a_part a_trees f_treeMany a_nodes f_nodeMany f_moveNode f_movePart f_moveFirst f_moveThen f_moveOther a_out f_outMany a_kept), (a_all, aI G 1276 g_all), (a_open, aI G 502 g_open), (a_pile, aI G 502 g_pile), (a_text, aB G 2000 g_text), (a_told, aI G 316 g_told)] H := hP
            have hD : va_D A [(h0, O_R f_raised a_all a_text a_saved a_undone f_undos t3.1 f_length t3.2.1 t3.2.2.1 t3.2.2.2.1 t3.2.2.2.2.1 t3.2.2.2.2.2 f_wrongAt f_badAt f_bad a_told f_read f_side a_pile f_piled a_open f_opened f_joins f_had a_size a_capped a_connected a_bestCost a_bestCrosses a_bestPart a_part a_trees f_treeMany a_nodes f_nodeMany f_moveNode f_movePart f_moveFirst f_moveThen f_moveOther a_out f_outMany a_kept), (a_all, aI G 1276 g_all), (a_open, aI G 502 g_open), (a_pile, aI G 502 g_pile), (a_text, aB G 2000 g_text), (a_told, aI G 316 g_told)] := hD
            refine lv_aload_n hx hb d_R_isPlan_21 rfl (lv_at hl 0 rfl) ?_
            refine va_get (D := G.1) (ci := 12) (v := .ref a_open) (C := n_R) (T := T_R) (N := 44) hx hb htl iw_R hown hK hP 0 rfl rfl 21 (by decide) (htl _ k_1217) (fun _ h9 => h9) rfl d_R_isPlan_22 ?_
            refine lv_aload_n hx hb d_R_isPlan_25 rfl (lv_at hl 0 rfl) ?_
            refine va_get (D := G.1) (ci := 12) (v := .int f_opened) (C := n_R) (T := T_R) (N := 44) hx hb htl iw_R hown hK hP 0 rfl rfl 22 (by decide) (htl _ k_1218) (fun _ h9 => h9) rfl d_R_isPlan_26 ?_
            refine lv_iconst (v := (0 : Int32)) hx hb d_R_isPlan_29 (by decide) ?_
            obtain ⟨c5, hf⟩ := dk_e hf
            refine nx_iast hx hb hK hP hD hS 2 1 rfl rfl c5 d_R_isPlan_30 (fun v6 ev6 H locs hP hD hS => ?_)
            have hf := dn_e ev6 hf
            have hP : va_P G.1 classes [(h0, O_R f_raised a_all a_text a_saved a_undone f_undos t3.1 f_length t3.2.1 t3.2.2.1 t3.2.2.2.1 t3.2.2.2.2.1 t3.2.2.2.2.2 f_wrongAt f_badAt f_bad a_told f_read f_side a_pile f_piled a_open f_opened f_joins f_had a_size a_capped a_connected a_bestCost a_bestCrosses a_bestPart a_part a_trees f_treeMany a_nodes f_nodeMany f_moveNode f_movePart f_moveFirst f_moveThen f_moveOther a_out f_outMany a_kept), (a_all, aI G 1276 g_all), (a_open, aI G 502 v6), (a_pile, aI G 502 g_pile), (a_text, aB G 2000 g_text), (a_told, aI G 316 g_told)] H := hP
            have hD : va_D A [(h0, O_R f_raised a_all a_text a_saved a_undone f_undos t3.1 f_length t3.2.1 t3.2.2.1 t3.2.2.2.1 t3.2.2.2.2.1 t3.2.2.2.2.2 f_wrongAt f_badAt f_bad a_told f_read f_side a_pile f_piled a_open f_opened f_joins f_had a_size a_capped a_connected a_bestCost a_bestCrosses a_bestPart a_part a_trees f_treeMany a_nodes f_nodeMany f_moveNode f_movePart f_moveFirst f_moveThen f_moveOther a_out f_outMany a_kept), (a_all, aI G 1276 g_all), (a_open, aI G 502 v6), (a_pile, aI G 502 g_pile), (a_text, aB G 2000 g_text), (a_told, aI G 316 g_told)] := hD
            refine lv_aload_n hx hb d_R_isPlan_31 rfl (lv_at hl 0 rfl) ?_
            refine lv_dup hx hb d_R_isPlan_32 rfl ?_
            refine va_get (D := G.1) (ci := 12) (v := .int f_opened) (C := n_R) (T := T_R) (N := 44) hx hb htl iw_R hown hK hP 0 rfl rfl 22 (by decide) (htl _ k_1218) (fun _ h9 => h9) rfl d_R_isPlan_33 ?_
            refine lv_iconst (v := (1 : Int32)) hx hb d_R_isPlan_36 (by decide) ?_
            refine lv_iadd hx hb d_R_isPlan_37 ?_
            refine lv_topi (fun v7 ev7 => ?_)
            have hf := dn_e ev7 hf
            refine va_put (D := G.1) (ci := 12) (v := .int v7) (ty := .int) (C := n_R) (T := T_R) (N := 44) hx hb htl iw_R ty_R ty_R_ok nm_R hown hK hP hD hS 0 rfl rfl 22 (by decide) (htl _ k_1218) (fun _ h9 => h9) rfl (by decide +kernel) rfl rfl (Nat.le_of_ble_eq_true rfl) d_R_isPlan_38 (fun H locs hP hD hS => ?_)
            have hP : va_P G.1 classes [(h0, O_R f_raised a_all a_text a_saved a_undone f_undos t3.1 f_length t3.2.1 t3.2.2.1 t3.2.2.2.1 t3.2.2.2.2.1 t3.2.2.2.2.2 f_wrongAt f_badAt f_bad a_told f_read f_side a_pile f_piled a_open v7 f_joins f_had a_size a_capped a_connected a_bestCost a_bestCrosses a_bestPart a_part a_trees f_treeMany a_nodes f_nodeMany f_moveNode f_movePart f_moveFirst f_moveThen f_moveOther a_out f_outMany a_kept), (a_all, aI G 1276 g_all), (a_open, aI G 502 v6), (a_pile, aI G 502 g_pile), (a_text, aB G 2000 g_text), (a_told, aI G 316 g_told)] H := hP
            have hD : va_D A [(h0, O_R f_raised a_all a_text a_saved a_undone f_undos t3.1 f_length t3.2.1 t3.2.2.1 t3.2.2.2.1 t3.2.2.2.2.1 t3.2.2.2.2.2 f_wrongAt f_badAt f_bad a_told f_read f_side a_pile f_piled a_open v7 f_joins f_had a_size a_capped a_connected a_bestCost a_bestCrosses a_bestPart a_part a_trees f_treeMany a_nodes f_nodeMany f_moveNode f_movePart f_moveFirst f_moveThen f_moveOther a_out f_outMany a_kept), (a_all, aI G 1276 g_all), (a_open, aI G 502 v6), (a_pile, aI G 502 g_pile), (a_text, aB G 2000 g_text), (a_told, aI G 316 g_told)] := hD
            refine lv_goto (tgt := 0) hx hb d_R_isPlan_41 (by decide) ?_
            exact ih0 t3.1 t3.2.1 t3.2.2.1 t3.2.2.2.1 t3.2.2.2.2.1 t3.2.2.2.2.2 f_wrongAt f_badAt f_bad f_piled v7 f_joins f_had v6 g_pile g_told H locs ls (lpk_i hf hk0) ⟨hP, hD, hS⟩ (lv_sub hl [0] rfl)
    exact hL0 N f_reached f_begin f_sort f_sign f_value f_word f_wrongAt f_badAt f_bad f_piled f_opened f_joins f_had g_open g_pile g_told H locs ls hy0 ⟨hP, hD, hS⟩ hl
  exact hJ0 f_reached f_begin f_sort f_sign f_value f_word f_wrongAt f_badAt f_bad f_piled f_opened f_joins f_had g_open g_pile g_told H locs ls ⟨hP, hD, hS⟩ (lv_sub hl [0] rfl) hf
set_option maxHeartbeats 4000000 in
set_option maxRecDepth 100000 in
theorem c_R_keeps (l : Launch) (G : va_G × (Nat → ClassId)) (Y : (Nat → Nat) × (Nat → Nat)) (h0 : Nat) (a_all : Nat) (a_text : Nat) (a_saved : Nat) (a_undone : Nat) (a_told : Nat) (a_pile : Nat) (a_open : Nat) (a_size : Nat) (a_capped : Nat) (a_connected : Nat) (a_bestCost : Nat) (a_bestCrosses : Nat) (a_bestPart : Nat) (a_part : Nat) (a_trees : Nat) (a_nodes : Nat) (a_out : Nat) (a_kept : Nat) (f_raised : Int32) (f_undos : Int32) (f_reached : Int32) (f_length : Int32) (f_begin : Int32) (f_sort : Int32) (f_sign : Int32) (f_value : Int32) (f_word : Int64) (f_wrongAt : Int32) (f_badAt : Int32) (f_bad : Int32) (f_read : Int32) (f_side : Int32) (f_piled : Int32) (f_opened : Int32) (f_joins : Int32) (f_had : Int32) (f_treeMany : Int32) (f_nodeMany : Int32) (f_moveNode : Int32) (f_movePart : Int32) (f_moveFirst : Int32) (f_moveThen : Int32) (f_moveOther : Int32) (f_outMany : Int32) (g_all : Nat → Int32) (g_undone : Nat → Int32) (N : Nat) (res : Int32 × (Nat → Int32)) (hf : R_keeps N f_undos g_all g_undone = some res) : Cv l classes y_R_keeps b_R_keeps 2 none (rmk 0) G.1 (tyL G) Y [.ref h0] [(h0, O_R f_raised a_all a_text a_saved a_undone f_undos f_reached f_length f_begin f_sort f_sign f_value f_word f_wrongAt f_badAt f_bad a_told f_read f_side a_pile f_piled a_open f_opened f_joins f_had a_size a_capped a_connected a_bestCost a_bestCrosses a_bestPart a_part a_trees f_treeMany a_nodes f_nodeMany f_moveNode f_movePart f_moveFirst f_moveThen f_moveOther a_out f_outMany a_kept), (a_all, aI G 1276 g_all), (a_undone, aI G 2528 g_undone)] [(h0, O_R f_raised a_all a_text a_saved a_undone res.1 f_reached f_length f_begin f_sort f_sign f_value f_word f_wrongAt f_badAt f_bad a_told f_read f_side a_pile f_piled a_open f_opened f_joins f_had a_size a_capped a_connected a_bestCost a_bestCrosses a_bestPart a_part a_trees f_treeMany a_nodes f_nodeMany f_moveNode f_movePart f_moveFirst f_moveThen f_moveOther a_out f_outMany a_kept), (a_all, aI G 1276 g_all), (a_undone, aI G 2528 res.2)] := by
  refine entV (by decide) (Nat.le_of_ble_eq_true rfl) ?_
  intro p e s m args below meth c ls A Q hx hb hml hown htl hK hsk wq hl hret
  obtain ⟨hP, hD, hS⟩ := wq
  have hl : lv_has ls 2 [(0, .ref h0)] := hl
  have hS : va_S A s.heap s.heap [] := hS
  obtain ⟨H, hH⟩ : ∃ H : Heap, H = s.heap := ⟨_, rfl⟩
  obtain ⟨locs, hlocs⟩ : ∃ z : List Loc, z = [] := ⟨_, rfl⟩
  rw [← hH] at hP
  replace hS : va_S A s.heap H locs := by rw [hH, hlocs]; exact hS
  suffices hgo : W p l e (rmk 0) s m args below meth c H locs 0 0 Q (F0 m 0 ls []) by rw [hH, hlocs] at hgo; exact hgo
  have hJ86 : ∀ (f_undos : Int32) (g_undone : Nat → Int32) (H : Heap) (locs : List Loc) (ls : Array Slot), PDS G.1 classes A s [(h0, O_R f_raised a_all a_text a_saved a_undone f_undos f_reached f_length f_begin f_sort f_sign f_value f_word f_wrongAt f_badAt f_bad a_told f_read f_side a_pile f_piled a_open f_opened f_joins f_had a_size a_capped a_connected a_bestCost a_bestCrosses a_bestPart a_part a_trees f_treeMany a_nodes f_nodeMany f_moveNode f_movePart f_moveFirst f_moveThen f_moveOther a_out f_outMany a_kept), (a_all, aI G 1276 g_all), (a_undone, aI G 2528 g_undone)] H locs → lv_has ls 2 [(0, .ref h0)] → R_keeps_86 N f_undos g_all g_undone = some res → W p l e (rmk 0) s m args below meth c H locs 0 0 Q (F0 m 86 ls []) := by
    intro f_undos g_undone H locs ls wq hl hf
    obtain ⟨hP, hD, hS⟩ := wq
    refine lv_aload_n hx hb d_R_keeps_86 rfl (lv_at hl 0 rfl) ?_
    refine lv_dup hx hb d_R_keeps_87 rfl ?_
    refine va_get (D := G.1) (ci := 12) (v := .int f_undos) (C := n_R) (T := T_R) (N := 44) hx hb htl iw_R hown hK hP 0 rfl rfl 5 (by decide) (htl _ k_1201) (fun _ h9 => h9) rfl d_R_keeps_88 ?_
    refine lv_iconst (v := (1 : Int32)) hx hb d_R_keeps_91 (by decide) ?_
    refine lv_iadd hx hb d_R_keeps_92 ?_
    refine lv_topi (fun v7 ev7 => ?_)
    have hf := dn_e ev7 hf
    refine va_put (D := G.1) (ci := 12) (v := .int v7) (ty := .int) (C := n_R) (T := T_R) (N := 44) hx hb htl iw_R ty_R ty_R_ok nm_R hown hK hP hD hS 0 rfl rfl 5 (by decide) (htl _ k_1201) (fun _ h9 => h9) rfl (by decide +kernel) rfl rfl (Nat.le_of_ble_eq_true rfl) d_R_keeps_93 (fun H locs hP hD hS => ?_)
    have hP : va_P G.1 classes [(h0, O_R f_raised a_all a_text a_saved a_undone v7 f_reached f_length f_begin f_sort f_sign f_value f_word f_wrongAt f_badAt f_bad a_told f_read f_side a_pile f_piled a_open f_opened f_joins f_had a_size a_capped a_connected a_bestCost a_bestCrosses a_bestPart a_part a_trees f_treeMany a_nodes f_nodeMany f_moveNode f_movePart f_moveFirst f_moveThen f_moveOther a_out f_outMany a_kept), (a_all, aI G 1276 g_all), (a_undone, aI G 2528 g_undone)] H := hP
    have hD : va_D A [(h0, O_R f_raised a_all a_text a_saved a_undone v7 f_reached f_length f_begin f_sort f_sign f_value f_word f_wrongAt f_badAt f_bad a_told f_read f_side a_pile f_piled a_open f_opened f_joins f_had a_size a_capped a_connected a_bestCost a_bestCrosses a_bestPart a_part a_trees f_treeMany a_nodes f_nodeMany f_moveNode f_movePart f_moveFirst f_moveThen f_moveOther a_out f_outMany a_kept), (a_all, aI G 1276 g_all), (a_undone, aI G 2528 g_undone)] := hD
    cases hf
    exact hret 96 ls H locs hP hS d_R_keeps_96
  have hJ52 : ∀ (f_undos : Int32) (g_undone : Nat → Int32) (x1 : Int32) (H : Heap) (locs : List Loc) (ls : Array Slot), PDS G.1 classes A s [(h0, O_R f_raised a_all a_text a_saved a_undone f_undos f_reached f_length f_begin f_sort f_sign f_value f_word f_wrongAt f_badAt f_bad a_told f_read f_side a_pile f_piled a_open f_opened f_joins f_had a_size a_capped a_connected a_bestCost a_bestCrosses a_bestPart a_part a_trees f_treeMany a_nodes f_nodeMany f_moveNode f_movePart f_moveFirst f_moveThen f_moveOther a_out f_outMany a_kept), (a_all, aI G 1276 g_all), (a_undone, aI G 2528 g_undone)] H locs → lv_has ls 2 [(0, .ref h0), (1, .int x1)] → R_keeps_52 N f_undos g_all g_undone x1 = some res → W p l e (rmk 0) s m args below meth c H locs 0 0 Q (F0 m 52 ls []) := by
    intro f_undos g_undone x1 H locs ls wq hl hf
    obtain ⟨hP, hD, hS⟩ := wq
    obtain ⟨y52, hy52, hfo52⟩ := db_e hf
    have hL52 : ∀ (n : Nat) (g_undone : Nat → Int32) (x1 : Int32) (H : Heap) (locs : List Loc) (ls : Array Slot), lp (fun x => R_keeps_b52 N f_undos g_all x.1 x.2) n (g_undone, x1) = some y52 → PDS G.1 classes A s [(h0, O_R f_raised a_all a_text a_saved a_undone f_undos f_reached f_length f_begin f_sort f_sign f_value f_word f_wrongAt f_badAt f_bad a_told f_read f_side a_pile f_piled a_open f_opened f_joins f_had a_size a_capped a_connected a_bestCost a_bestCrosses a_bestPart a_part a_trees f_treeMany a_nodes f_nodeMany f_moveNode f_movePart f_moveFirst f_moveThen f_moveOther a_out f_outMany a_kept), (a_all, aI G 1276 g_all), (a_undone, aI G 2528 g_undone)] H locs → lv_has ls 2 [(0, .ref h0), (1, .int x1)] → W p l e (rmk 0) s m args below meth c H locs 0 0 Q (F0 m 52 ls []) := by
      intro n
      induction n with
      | zero =>
        intro g_undone x1 H locs ls hf
        exact lp_0 hf
      | succ n ih52 =>
        intro g_undone x1 H locs ls hf wq hl
        obtain ⟨hP, hD, hS⟩ := wq
        obtain ⟨r52, hf, hk52⟩ := lp_s hf
        have hf : R_keeps_b52 N f_undos g_all g_undone x1 = some r52 := hf
        refine lv_iload_n hx hb d_R_keeps_52 rfl (lv_at hl 1 rfl) ?_
        refine lv_sipush (v := (316 : Int32)) hx hb d_R_keeps_53 (by decide) ?_
        refine lv_icmp_ge (tgt := 86) hx hb d_R_keeps_56 (by decide) (fun c2 => ?_) (fun c2 => ?_)
        · have hf := di_t c2 hf
          have hq52 := lpk_x hf hk52
          have hf := ex_y (f := fun y => R_keeps_a52 N f_undos g_all y) hq52 hfo52
          have hf : R_keeps_86 N f_undos g_all g_undone = some res := hf
          exact hJ86 f_undos g_undone H locs ls ⟨hP, hD, hS⟩ (lv_sub hl [0] rfl) hf
        · have hf := di_f c2 hf
          refine lv_aload_n hx hb d_R_keeps_59 rfl (lv_at hl 0 rfl) ?_
          refine va_get (D := G.1) (ci := 12) (v := .ref a_undone) (C := n_R) (T := T_R) (N := 44) hx hb htl iw_R hown hK hP 0 rfl rfl 4 (by decide) (htl _ k_1200) (fun _ h9 => h9) rfl d_R_keeps_60 ?_
          refine lv_sipush (v := (316 : Int32)) hx hb d_R_keeps_63 (by decide) ?_
          refine lv_aload_n hx hb d_R_keeps_66 rfl (lv_at hl 0 rfl) ?_
          refine va_get (D := G.1) (ci := 12) (v := .int f_undos) (C := n_R) (T := T_R) (N := 44) hx hb htl iw_R hown hK hP 0 rfl rfl 5 (by decide) (htl _ k_1201) (fun _ h9 => h9) rfl d_R_keeps_67 ?_
          refine lv_imul hx hb d_R_keeps_70 ?_
          refine lv_iload_n hx hb d_R_keeps_71 rfl (lv_at hl 1 rfl) ?_
          refine lv_iadd hx hb d_R_keeps_72 ?_
          refine lv_aload_n hx hb d_R_keeps_73 rfl (lv_at hl 0 rfl) ?_
          refine va_get (D := G.1) (ci := 12) (v := .ref a_all) (C := n_R) (T := T_R) (N := 44) hx hb htl iw_R hown hK hP 0 rfl rfl 1 (by decide) (htl _ k_1197) (fun _ h9 => h9) rfl d_R_keeps_74 ?_
          refine lv_iload_n hx hb d_R_keeps_77 rfl (lv_at hl 1 rfl) ?_
          obtain ⟨c3, hf⟩ := dk_e hf
          refine va_iald hx hb hK hP 1 1 rfl rfl c3 d_R_keeps_78 ?_
          obtain ⟨c4, hf⟩ := dk_e hf
          refine nx_iast hx hb hK hP hD hS 2 1 rfl rfl c4 d_R_keeps_79 (fun v5 ev5 H locs hP hD hS => ?_)
          have hf := dn_e ev5 hf
          have hP : va_P G.1 classes [(h0, O_R f_raised a_all a_text a_saved a_undone f_undos f_reached f_length f_begin f_sort f_sign f_value f_word f_wrongAt f_badAt f_bad a_told f_read f_side a_pile f_piled a_open f_opened f_joins f_had a_size a_capped a_connected a_bestCost a_bestCrosses a_bestPart a_part a_trees f_treeMany a_nodes f_nodeMany f_moveNode f_movePart f_moveFirst f_moveThen f_moveOther a_out f_outMany a_kept), (a_all, aI G 1276 g_all), (a_undone, aI G 2528 v5)] H := hP
          have hD : va_D A [(h0, O_R f_raised a_all a_text a_saved a_undone f_undos f_reached f_length f_begin f_sort f_sign f_value f_word f_wrongAt f_badAt f_bad a_told f_read f_side a_pile f_piled a_open f_opened f_joins f_had a_size a_capped a_connected a_bestCost a_bestCrosses a_bestPart a_part a_trees f_treeMany a_nodes f_nodeMany f_moveNode f_movePart f_moveFirst f_moveThen f_moveOther a_out f_outMany a_kept), (a_all, aI G 1276 g_all), (a_undone, aI G 2528 v5)] := hD
          obtain ⟨v6, ev6⟩ : ∃ z : Int32, z = x1 + (1 : Int32) := ⟨_, rfl⟩
          have hf := dn_e ev6 hf
          refine lv_iinc (v := v6) (lv' := [(1, .int v6), (0, .ref h0)]) hx hb d_R_keeps_80 hl (k := 1) rfl (by rw [ev6]; rfl) (by decide) rfl (fun ls hl => ?_)
          refine lv_goto (tgt := 52) hx hb d_R_keeps_83 (by decide) ?_
          exact ih52 v5 v6 H locs ls (lpk_i hf hk52) ⟨hP, hD, hS⟩ (lv_sub hl [1, 0] rfl)
    exact hL52 N g_undone x1 H locs ls hy52 ⟨hP, hD, hS⟩ hl
  have hJ50 : ∀ (f_undos : Int32) (g_undone : Nat → Int32) (H : Heap) (locs : List Loc) (ls : Array Slot), PDS G.1 classes A s [(h0, O_R f_raised a_all a_text a_saved a_undone f_undos f_reached f_length f_begin f_sort f_sign f_value f_word f_wrongAt f_badAt f_bad a_told f_read f_side a_pile f_piled a_open f_opened f_joins f_had a_size a_capped a_connected a_bestCost a_bestCrosses a_bestPart a_part a_trees f_treeMany a_nodes f_nodeMany f_moveNode f_movePart f_moveFirst f_moveThen f_moveOther a_out f_outMany a_kept), (a_all, aI G 1276 g_all), (a_undone, aI G 2528 g_undone)] H locs → lv_has ls 2 [(0, .ref h0)] → R_keeps_50 N f_undos g_all g_undone = some res → W p l e (rmk 0) s m args below meth c H locs 0 0 Q (F0 m 50 ls []) := by
    intro f_undos g_undone H locs ls wq hl hf
    obtain ⟨hP, hD, hS⟩ := wq
    refine lv_iconst (v := (0 : Int32)) hx hb d_R_keeps_50 (by decide) ?_
    refine lv_istore_n (lv' := [(1, .int (0 : Int32)), (0, .ref h0)]) hx hb d_R_keeps_51 rfl hl (by decide) rfl (fun ls hl => ?_)
    exact hJ52 f_undos g_undone (0 : Int32) H locs ls ⟨hP, hD, hS⟩ (lv_sub hl [1, 0] rfl) hf
  have hJ40 : ∀ (f_undos : Int32) (g_undone : Nat → Int32) (H : Heap) (locs : List Loc) (ls : Array Slot), PDS G.1 classes A s [(h0, O_R f_raised a_all a_text a_saved a_undone f_undos f_reached f_length f_begin f_sort f_sign f_value f_word f_wrongAt f_badAt f_bad a_told f_read f_side a_pile f_piled a_open f_opened f_joins f_had a_size a_capped a_connected a_bestCost a_bestCrosses a_bestPart a_part a_trees f_treeMany a_nodes f_nodeMany f_moveNode f_movePart f_moveFirst f_moveThen f_moveOther a_out f_outMany a_kept), (a_all, aI G 1276 g_all), (a_undone, aI G 2528 g_undone)] H locs → lv_has ls 2 [(0, .ref h0)] → R_keeps_40 N f_undos g_all g_undone = some res → W p l e (rmk 0) s m args below meth c H locs 0 0 Q (F0 m 40 ls []) := by
    intro f_undos g_undone H locs ls wq hl hf
    obtain ⟨hP, hD, hS⟩ := wq
    refine lv_aload_n hx hb d_R_keeps_40 rfl (lv_at hl 0 rfl) ?_
    refine lv_dup hx hb d_R_keeps_41 rfl ?_
    refine va_get (D := G.1) (ci := 12) (v := .int f_undos) (C := n_R) (T := T_R) (N := 44) hx hb htl iw_R hown hK hP 0 rfl rfl 5 (by decide) (htl _ k_1201) (fun _ h9 => h9) rfl d_R_keeps_42 ?_
    refine lv_iconst (v := (1 : Int32)) hx hb d_R_keeps_45 (by decide) ?_
    refine lv_isub hx hb d_R_keeps_46 ?_
    refine lv_topi (fun v13 ev13 => ?_)
    have hf := dn_e ev13 hf
    refine va_put (D := G.1) (ci := 12) (v := .int v13) (ty := .int) (C := n_R) (T := T_R) (N := 44) hx hb htl iw_R ty_R ty_R_ok nm_R hown hK hP hD hS 0 rfl rfl 5 (by decide) (htl _ k_1201) (fun _ h9 => h9) rfl (by decide +kernel) rfl rfl (Nat.le_of_ble_eq_true rfl) d_R_keeps_47 (fun H locs hP hD hS => ?_)
    have hP : va_P G.1 classes [(h0, O_R f_raised a_all a_text a_saved a_undone v13 f_reached f_length f_begin f_sort f_sign f_value f_word f_wrongAt f_badAt f_bad a_told f_read f_side a_pile f_piled a_open f_opened f_joins f_had a_size a_capped a_connected a_bestCost a_bestCrosses a_bestPart a_part a_trees f_treeMany a_nodes f_nodeMany f_moveNode f_movePart f_moveFirst f_moveThen f_moveOther a_out f_outMany a_kept), (a_all, aI G 1276 g_all), (a_undone, aI G 2528 g_undone)] H := hP
    have hD : va_D A [(h0, O_R f_raised a_all a_text a_saved a_undone v13 f_reached f_length f_begin f_sort f_sign f_value f_word f_wrongAt f_badAt f_bad a_told f_read f_side a_pile f_piled a_open f_opened f_joins f_had a_size a_capped a_connected a_bestCost a_bestCrosses a_bestPart a_part a_trees f_treeMany a_nodes f_nodeMany f_moveNode f_movePart f_moveFirst f_moveThen f_moveOther a_out f_outMany a_kept), (a_all, aI G 1276 g_all), (a_undone, aI G 2528 g_undone)] := hD
    exact hJ50 v13 g_undone H locs ls ⟨hP, hD, hS⟩ (lv_sub hl [0] rfl) hf
  have hJ11 : ∀ (f_undos : Int32) (g_undone : Nat → Int32) (x1 : Int32) (H : Heap) (locs : List Loc) (ls : Array Slot), PDS G.1 classes A s [(h0, O_R f_raised a_all a_text a_saved a_undone f_undos f_reached f_length f_begin f_sort f_sign f_value f_word f_wrongAt f_badAt f_bad a_told f_read f_side a_pile f_piled a_open f_opened f_joins f_had a_size a_capped a_connected a_bestCost a_bestCrosses a_bestPart a_part a_trees f_treeMany a_nodes f_nodeMany f_moveNode f_movePart f_moveFirst f_moveThen f_moveOther a_out f_outMany a_kept), (a_all, aI G 1276 g_all), (a_undone, aI G 2528 g_undone)] H locs → lv_has ls 2 [(0, .ref h0), (1, .int x1)] → R_keeps_11 N f_undos g_all g_undone x1 = some res → W p l e (rmk 0) s m args below meth c H locs 0 0 Q (F0 m 11 ls []) := by
    intro f_undos g_undone x1 H locs ls wq hl hf
    obtain ⟨hP, hD, hS⟩ := wq
    obtain ⟨y11, hy11, hfo11⟩ := db_e hf
    have hL11 : ∀ (n : Nat) (g_undone : Nat → Int32) (x1 : Int32) (H : Heap) (locs : List Loc) (ls : Array Slot), lp (fun x => R_keeps_b11 N f_undos g_all x.1 x.2) n (g_undone, x1) = some y11 → PDS G.1 classes A s [(h0, O_R f_raised a_all a_text a_saved a_undone f_undos f_reached f_length f_begin f_sort f_sign f_value f_word f_wrongAt f_badAt f_bad a_told f_read f_side a_pile f_piled a_open f_opened f_joins f_had a_size a_capped a_connected a_bestCost a_bestCrosses a_bestPart a_part a_trees f_treeMany a_nodes f_nodeMany f_moveNode f_movePart f_moveFirst f_moveThen f_moveOther a_out f_outMany a_kept), (a_all, aI G 1276 g_all), (a_undone, aI G 2528 g_undone)] H locs → lv_has ls 2 [(0, .ref h0), (1, .int x1)] → W p l e (rmk 0) s m args below meth c H locs 0 0 Q (F0 m 11 ls []) := by
      intro n
      induction n with
      | zero =>
        intro g_undone x1 H locs ls hf
        exact lp_0 hf
      | succ n ih11 =>
        intro g_undone x1 H locs ls hf wq hl
        obtain ⟨hP, hD, hS⟩ := wq
        obtain ⟨r11, hf, hk11⟩ := lp_s hf
        have hf : R_keeps_b11 N f_undos g_all g_undone x1 = some r11 := hf
        refine lv_iload_n hx hb d_R_keeps_11 rfl (lv_at hl 1 rfl) ?_
        refine lv_sipush (v := (2212 : Int32)) hx hb d_R_keeps_12 (by decide) ?_
        refine lv_icmp_ge (tgt := 40) hx hb d_R_keeps_15 (by decide) (fun c8 => ?_) (fun c8 => ?_)
        · have hf := di_t c8 hf
          have hq11 := lpk_x hf hk11
          have hf := ex_y (f := fun y => R_keeps_a11 N f_undos g_all y) hq11 hfo11
          have hf : R_keeps_40 N f_undos g_all g_undone = some res := hf
          exact hJ40 f_undos g_undone H locs ls ⟨hP, hD, hS⟩ (lv_sub hl [0] rfl) hf
        · have hf := di_f c8 hf
          refine lv_aload_n hx hb d_R_keeps_18 rfl (lv_at hl 0 rfl) ?_
          refine va_get (D := G.1) (ci := 12) (v := .ref a_undone) (C := n_R) (T := T_R) (N := 44) hx hb htl iw_R hown hK hP 0 rfl rfl 4 (by decide) (htl _ k_1200) (fun _ h9 => h9) rfl d_R_keeps_19 ?_
          refine lv_iload_n hx hb d_R_keeps_22 rfl (lv_at hl 1 rfl) ?_
          refine lv_aload_n hx hb d_R_keeps_23 rfl (lv_at hl 0 rfl) ?_
          refine va_get (D := G.1) (ci := 12) (v := .ref a_undone) (C := n_R) (T := T_R) (N := 44) hx hb htl iw_R hown hK hP 0 rfl rfl 4 (by decide) (htl _ k_1200) (fun _ h9 => h9) rfl d_R_keeps_24 ?_
          refine lv_iload_n hx hb d_R_keeps_27 rfl (lv_at hl 1 rfl) ?_
          refine lv_sipush (v := (316 : Int32)) hx hb d_R_keeps_28 (by decide) ?_
          refine lv_iadd hx hb d_R_keeps_31 ?_
          obtain ⟨c9, hf⟩ := dk_e hf
          refine va_iald hx hb hK hP 2 1 rfl rfl c9 d_R_keeps_32 ?_
          obtain ⟨c10, hf⟩ := dk_e hf
          refine nx_iast hx hb hK hP hD hS 2 1 rfl rfl c10 d_R_keeps_33 (fun v11 ev11 H locs hP hD hS => ?_)
          have hf := dn_e ev11 hf
          have hP : va_P G.1 classes [(h0, O_R f_raised a_all a_text a_saved a_undone f_undos f_reached f_length f_begin f_sort f_sign f_value f_word f_wrongAt f_badAt f_bad a_told f_read f_side a_pile f_piled a_open f_opened f_joins f_had a_size a_capped a_connected a_bestCost a_bestCrosses a_bestPart a_part a_trees f_treeMany a_nodes f_nodeMany f_moveNode f_movePart f_moveFirst f_moveThen f_moveOther a_out f_outMany a_kept), (a_all, aI G 1276 g_all), (a_undone, aI G 2528 v11)] H := hP
          have hD : va_D A [(h0, O_R f_raised a_all a_text a_saved a_undone f_undos f_reached f_length f_begin f_sort f_sign f_value f_word f_wrongAt f_badAt f_bad a_told f_read f_side a_pile f_piled a_open f_opened f_joins f_had a_size a_capped a_connected a_bestCost a_bestCrosses a_bestPart a_part a_trees f_treeMany a_nodes f_nodeMany f_moveNode f_movePart f_moveFirst f_moveThen f_moveOther a_out f_outMany a_kept), (a_all, aI G 1276 g_all), (a_undone, aI G 2528 v11)] := hD
          obtain ⟨v12, ev12⟩ : ∃ z : Int32, z = x1 + (1 : Int32) := ⟨_, rfl⟩
          have hf := dn_e ev12 hf
          refine lv_iinc (v := v12) (lv' := [(1, .int v12), (0, .ref h0)]) hx hb d_R_keeps_34 hl (k := 1) rfl (by rw [ev12]; rfl) (by decide) rfl (fun ls hl => ?_)
          refine lv_goto (tgt := 11) hx hb d_R_keeps_37 (by decide) ?_
          exact ih11 v11 v12 H locs ls (lpk_i hf hk11) ⟨hP, hD, hS⟩ (lv_sub hl [1, 0] rfl)
    exact hL11 N g_undone x1 H locs ls hy11 ⟨hP, hD, hS⟩ hl
  refine lv_aload_n hx hb d_R_keeps_0 rfl (lv_at hl 0 rfl) ?_
  refine va_get (D := G.1) (ci := 12) (v := .int f_undos) (C := n_R) (T := T_R) (N := 44) hx hb htl iw_R hown hK hP 0 rfl rfl 5 (by decide) (htl _ k_1201) (fun _ h9 => h9) rfl d_R_keeps_1 ?_
  refine lv_bipush (v := (8 : Int32)) hx hb d_R_keeps_4 (by decide) ?_
  refine lv_icmp_ne (tgt := 50) hx hb d_R_keeps_6 (by decide) (fun c1 => ?_) (fun c1 => ?_)
  · have hf := di_f c1 hf
    exact hJ50 f_undos g_undone H locs ls ⟨hP, hD, hS⟩ (lv_sub hl [0] rfl) hf
  · have hf := di_t c1 hf
    refine lv_iconst (v := (0 : Int32)) hx hb d_R_keeps_9 (by decide) ?_
    refine lv_istore_n (lv' := [(1, .int (0 : Int32)), (0, .ref h0)]) hx hb d_R_keeps_10 rfl hl (by decide) rfl (fun ls hl => ?_)
    exact hJ11 f_undos g_undone (0 : Int32) H locs ls ⟨hP, hD, hS⟩ (lv_sub hl [1, 0] rfl) hf
set_option maxHeartbeats 4000000 in
set_option maxRecDepth 100000 in
theorem c_R_plan (l : Launch) (G : va_G × (Nat → ClassId)) (Y : (Nat → Nat) × (Nat → Nat)) (h0 : Nat) (a_all : Nat) (a_text : Nat) (a_saved : Nat) (a_undone : Nat) (a_told : Nat) (a_pile : Nat) (a_open : Nat) (a_size : Nat) (a_capped : Nat) (a_connected : Nat) (a_bestCost : Nat) (a_bestCrosses : Nat) (a_bestPart : Nat) (a_part : Nat) (a_trees : Nat) (a_nodes : Nat) (a_out : Nat) (a_kept : Nat) (f_raised : Int32) (f_undos : Int32) (f_reached : Int32) (f_length : Int32) (f_begin : Int32) (f_sort : Int32) (f_sign : Int32) (f_value : Int32) (f_word : Int64) (f_wrongAt : Int32) (f_badAt : Int32) (f_bad : Int32) (f_read : Int32) (f_side : Int32) (f_piled : Int32) (f_opened : Int32) (f_joins : Int32) (f_had : Int32) (f_treeMany : Int32) (f_nodeMany : Int32) (f_moveNode : Int32) (f_movePart : Int32) (f_moveFirst : Int32) (f_moveThen : Int32) (f_moveOther : Int32) (f_outMany : Int32) (g_all : Nat → Int32) (g_open : Nat → Int32) (g_pile : Nat → Int32) (g_text : Nat → Int32) (g_told : Nat → Int32) (g_undone : Nat → Int32) (N : Nat) (res : Int32 × Int32 × Int32 × Int32 × Int32 × Int32 × Int32 × Int32 × Int32 × Int64 × Int32 × Int32 × Int32 × Int32 × Int32 × Int32 × Int32 × (Nat → Int32) × (Nat → Int32) × (Nat → Int32) × (Nat → Int32) × (Nat → Int32)) (hf : R_plan N f_raised f_undos f_reached f_length f_begin f_sort f_sign f_value f_word f_wrongAt f_badAt f_bad f_piled f_opened f_joins f_had g_all g_open g_pile g_text g_told g_undone = some res) : Ci l classes y_R_plan b_R_plan 2 (some .int) (rmk 5) G.1 (tyL G) Y [.ref h0] [(h0, O_R f_raised a_all a_text a_saved a_undone f_undos f_reached f_length f_begin f_sort f_sign f_value f_word f_wrongAt f_badAt f_bad a_told f_read f_side a_pile f_piled a_open f_opened f_joins f_had a_size a_capped a_connected a_bestCost a_bestCrosses a_bestPart a_part a_trees f_treeMany a_nodes f_nodeMany f_moveNode f_movePart f_moveFirst f_moveThen f_moveOther a_out f_outMany a_kept), (a_all, aI G 1276 g_all), (a_open, aI G 502 g_open), (a_pile, aI G 502 g_pile), (a_text, aB G 2000 g_text), (a_told, aI G 316 g_told), (a_undone, aI G 2528 g_undone)] [(h0, O_R res.2.1 a_all a_text a_saved a_undone res.2.2.1 res.2.2.2.1 res.2.2.2.2.1 res.2.2.2.2.2.1 res.2.2.2.2.2.2.1 res.2.2.2.2.2.2.2.1 res.2.2.2.2.2.2.2.2.1 res.2.2.2.2.2.2.2.2.2.1 res.2.2.2.2.2.2.2.2.2.2.1 res.2.2.2.2.2.2.2.2.2.2.2.1 res.2.2.2.2.2.2.2.2.2.2.2.2.1 a_told f_read f_side a_pile res.2.2.2.2.2.2.2.2.2.2.2.2.2.1 a_open res.2.2.2.2.2.2.2.2.2.2.2.2.2.2.1 res.2.2.2.2.2.2.2.2.2.2.2.2.2.2.2.1 res.2.2.2.2.2.2.2.2.2.2.2.2.2.2.2.2.1 a_size a_capped a_connected a_bestCost a_bestCrosses a_bestPart a_part a_trees f_treeMany a_nodes f_nodeMany f_moveNode f_movePart f_moveFirst f_moveThen f_moveOther a_out f_outMany a_kept), (a_all, aI G 1276 res.2.2.2.2.2.2.2.2.2.2.2.2.2.2.2.2.2.1), (a_open, aI G 502 res.2.2.2.2.2.2.2.2.2.2.2.2.2.2.2.2.2.2.1), (a_pile, aI G 502 res.2.2.2.2.2.2.2.2.2.2.2.2.2.2.2.2.2.2.2.1), (a_text, aB G 2000 g_text), (a_told, aI G 316 res.2.2.2.2.2.2.2.2.2.2.2.2.2.2.2.2.2.2.2.2.1), (a_undone, aI G 2528 res.2.2.2.2.2.2.2.2.2.2.2.2.2.2.2.2.2.2.2.2.2)] res.1 := by
  refine entI (by decide) (Nat.le_of_ble_eq_true rfl) ?_
  intro p e s m args below meth c ls A Q hx hb hml hown htl hK hsk wq hl hret
  obtain ⟨hP, hD, hS⟩ := wq
  have hl : lv_has ls 2 [(0, .ref h0)] := hl
  have hS : va_S A s.heap s.heap [] := hS
  obtain ⟨H, hH⟩ : ∃ H : Heap, H = s.heap := ⟨_, rfl⟩
  obtain ⟨locs, hlocs⟩ : ∃ z : List Loc, z = [] := ⟨_, rfl⟩
  rw [← hH] at hP
  replace hS : va_S A s.heap H locs := by rw [hH, hlocs]; exact hS
  suffices hgo : W p l e (rmk 5) s m args below meth c H locs 0 0 Q (F0 m 0 ls []) by rw [hH, hlocs] at hgo; exact hgo
  have hJ117 : ∀ (f_raised : Int32) (f_undos : Int32) (f_reached : Int32) (f_length : Int32) (f_begin : Int32) (f_sort : Int32) (f_sign : Int32) (f_value : Int32) (f_word : Int64) (f_wrongAt : Int32) (f_badAt : Int32) (f_bad : Int32) (f_piled : Int32) (f_opened : Int32) (f_joins : Int32) (f_had : Int32) (g_all : Nat → Int32) (g_open : Nat → Int32) (g_pile : Nat → Int32) (g_told : Nat → Int32) (g_undone : Nat → Int32) (H : Heap) (locs : List Loc) (ls : Array Slot), PDS G.1 classes A s [(h0, O_R f_raised a_all a_text a_saved a_undone f_undos f_reached f_length f_begin f_sort f_sign f_value f_word f_wrongAt f_badAt f_bad a_told f_read f_side a_pile f_piled a_open f_opened f_joins f_had a_size a_capped a_connected a_bestCost a_bestCrosses a_bestPart a_part a_trees f_treeMany a_nodes f_nodeMany f_moveNode f_movePart f_moveFirst f_moveThen f_moveOther a_out f_outMany a_kept), (a_all, aI G 1276 g_all), (a_open, aI G 502 g_open), (a_pile, aI G 502 g_pile), (a_text, aB G 2000 g_text), (a_told, aI G 316 g_told), (a_undone, aI G 2528 g_undone)] H locs → lv_has ls 2 [(0, .ref h0)] → R_plan_117 N f_raised f_undos f_reached f_length f_begin f_sort f_sign f_value f_word f_wrongAt f_badAt f_bad f_piled f_opened f_joins f_had g_all g_open g_pile g_text g_told g_undone = some res → W p l e (rmk 5) s m args below meth c H locs 0 0 Q (F0 m 117 ls []) := by
    intro f_raised f_undos f_reached f_length f_begin f_sort f_sign f_value f_word f_wrongAt f_badAt f_bad f_piled f_opened f_joins f_had g_all g_open g_pile g_told g_undone H locs ls wq hl hf
    obtain ⟨hP, hD, hS⟩ := wq
    refine lv_aload_n hx hb d_R_plan_117 rfl (lv_at hl 0 rfl) ?_
    refine va_get (D := G.1) (ci := 12) (v := .int f_joins) (C := n_R) (T := T_R) (N := 44) hx hb htl iw_R hown hK hP 0 rfl rfl 23 (by decide) (htl _ k_1219) (fun _ h9 => h9) rfl d_R_plan_118 ?_
    cases hf
    exact hret 121 ls H locs hP hS d_R_plan_121
  have hJ86 : ∀ (f_raised : Int32) (f_undos : Int32) (f_reached : Int32) (f_length : Int32) (f_begin : Int32) (f_sort : Int32) (f_sign : Int32) (f_value : Int32) (f_word : Int64) (f_wrongAt : Int32) (f_badAt : Int32) (f_bad : Int32) (f_piled : Int32) (f_opened : Int32) (f_joins : Int32) (f_had : Int32) (g_all : Nat → Int32) (g_open : Nat → Int32) (g_pile : Nat → Int32) (g_told : Nat → Int32) (g_undone : Nat → Int32) (x1 : Int32) (H : Heap) (locs : List Loc) (ls : Array Slot), PDS G.1 classes A s [(h0, O_R f_raised a_all a_text a_saved a_undone f_undos f_reached f_length f_begin f_sort f_sign f_value f_word f_wrongAt f_badAt f_bad a_told f_read f_side a_pile f_piled a_open f_opened f_joins f_had a_size a_capped a_connected a_bestCost a_bestCrosses a_bestPart a_part a_trees f_treeMany a_nodes f_nodeMany f_moveNode f_movePart f_moveFirst f_moveThen f_moveOther a_out f_outMany a_kept), (a_all, aI G 1276 g_all), (a_open, aI G 502 g_open), (a_pile, aI G 502 g_pile), (a_text, aB G 2000 g_text), (a_told, aI G 316 g_told), (a_undone, aI G 2528 g_undone)] H locs → lv_has ls 2 [(0, .ref h0), (1, .int x1)] → R_plan_86 N f_raised f_undos f_reached f_length f_begin f_sort f_sign f_value f_word f_wrongAt f_badAt f_bad f_piled f_opened f_joins f_had g_all g_open g_pile g_text g_told g_undone x1 = some res → W p l e (rmk 5) s m args below meth c H locs 0 0 Q (F0 m 86 ls []) := by
    intro f_raised f_undos f_reached f_length f_begin f_sort f_sign f_value f_word f_wrongAt f_badAt f_bad f_piled f_opened f_joins f_had g_all g_open g_pile g_told g_undone x1 H locs ls wq hl hf
    obtain ⟨hP, hD, hS⟩ := wq
    obtain ⟨y86, hy86, hfo86⟩ := db_e hf
    have hL86 : ∀ (n : Nat) (g_all : Nat → Int32) (x1 : Int32) (H : Heap) (locs : List Loc) (ls : Array Slot), lp (fun x => R_plan_b86 N f_raised f_undos f_reached f_length f_begin f_sort f_sign f_value f_word f_wrongAt f_badAt f_bad f_piled f_opened f_joins f_had x.1 g_open g_pile g_text g_told g_undone x.2) n (g_all, x1) = some y86 → PDS G.1 classes A s [(h0, O_R f_raised a_all a_text a_saved a_undone f_undos f_reached f_length f_begin f_sort f_sign f_value f_word f_wrongAt f_badAt f_bad a_told f_read f_side a_pile f_piled a_open f_opened f_joins f_had a_size a_capped a_connected a_bestCost a_bestCrosses a_bestPart a_part a_trees f_treeMany a_nodes f_nodeMany f_moveNode f_movePart f_moveFirst f_moveThen f_moveOther a_out f_outMany a_kept), (a_all, aI G 1276 g_all), (a_open, aI G 502 g_open), (a_pile, aI G 502 g_pile), (a_text, aB G 2000 g_text), (a_told, aI G 316 g_told), (a_undone, aI G 2528 g_undone)] H locs → lv_has ls 2 [(0, .ref h0), (1, .int x1)] → W p l e (rmk 5) s m args below meth c H locs 0 0 Q (F0 m 86 ls []) := by
      intro n
      induction n with
      | zero =>
        intro g_all x1 H locs ls hf
        exact lp_0 hf
      | succ n ih86 =>
        intro g_all x1 H locs ls hf wq hl
        obtain ⟨hP, hD, hS⟩ := wq
        obtain ⟨r86, hf, hk86⟩ := lp_s hf
        have hf : R_plan_b86 N f_raised f_undos f_reached f_length f_begin f_sort f_sign f_value f_word f_wrongAt f_badAt f_bad f_piled f_opened f_joins f_had g_all g_open g_pile g_text g_told g_undone x1 = some r86 := hf
        refine lv_iload_n hx hb d_R_plan_86 rfl (lv_at hl 1 rfl) ?_
        refine lv_sipush (v := (256 : Int32)) hx hb d_R_plan_87 (by decide) ?_
        refine lv_icmp_ge (tgt := 117) hx hb d_R_plan_90 (by decide) (fun c15 => ?_) (fun c15 => ?_)
        · have hf := di_t c15 hf
          have hq86 := lpk_x hf hk86
          have hf := ex_y (f := fun y => R_plan_a86 N f_raised f_undos f_reached f_length f_begin f_sort f_sign f_value f_word f_wrongAt f_badAt f_bad f_piled f_opened f_joins f_had g_open g_pile g_text g_told g_undone y) hq86 hfo86
          have hf : R_plan_117 N f_raised f_undos f_reached f_length f_begin f_sort f_sign f_value f_word f_wrongAt f_badAt f_bad f_piled f_opened f_joins f_had g_all g_open g_pile g_text g_told g_undone = some res := hf
          exact hJ117 f_raised f_undos f_reached f_length f_begin f_sort f_sign f_value f_word f_wrongAt f_badAt f_bad f_piled f_opened f_joins f_had g_all g_open g_pile g_told g_undone H locs ls ⟨hP, hD, hS⟩ (lv_sub hl [0] rfl) hf
        · have hf := di_f c15 hf
          refine lv_aload_n hx hb d_R_plan_93 rfl (lv_at hl 0 rfl) ?_
          refine va_get (D := G.1) (ci := 12) (v := .ref a_all) (C := n_R) (T := T_R) (N := 44) hx hb htl iw_R hown hK hP 0 rfl rfl 1 (by decide) (htl _ k_1197) (fun _ h9 => h9) rfl d_R_plan_94 ?_
          refine lv_bipush (v := (60 : Int32)) hx hb d_R_plan_97 (by decide) ?_
          refine lv_iload_n hx hb d_R_plan_99 rfl (lv_at hl 1 rfl) ?_
          refine lv_iadd hx hb d_R_plan_100 ?_
          refine lv_aload_n hx hb d_R_plan_101 rfl (lv_at hl 0 rfl) ?_
          refine va_get (D := G.1) (ci := 12) (v := .ref a_told) (C := n_R) (T := T_R) (N := 44) hx hb htl iw_R hown hK hP 0 rfl rfl 16 (by decide) (htl _ k_1212) (fun _ h9 => h9) rfl d_R_plan_102 ?_
          refine lv_bipush (v := (60 : Int32)) hx hb d_R_plan_105 (by decide) ?_
          refine lv_iload_n hx hb d_R_plan_107 rfl (lv_at hl 1 rfl) ?_
          refine lv_iadd hx hb d_R_plan_108 ?_
          obtain ⟨c16, hf⟩ := dk_e hf
          refine va_iald hx hb hK hP 5 1 rfl rfl c16 d_R_plan_109 ?_
          obtain ⟨c17, hf⟩ := dk_e hf
          refine nx_iast hx hb hK hP hD hS 1 1 rfl rfl c17 d_R_plan_110 (fun v18 ev18 H locs hP hD hS => ?_)
          have hf := dn_e ev18 hf
          have hP : va_P G.1 classes [(h0, O_R f_raised a_all a_text a_saved a_undone f_undos f_reached f_length f_begin f_sort f_sign f_value f_word f_wrongAt f_badAt f_bad a_told f_read f_side a_pile f_piled a_open f_opened f_joins f_had a_size a_capped a_connected a_bestCost a_bestCrosses a_bestPart a_part a_trees f_treeMany a_nodes f_nodeMany f_moveNode f_movePart f_moveFirst f_moveThen f_moveOther a_out f_outMany a_kept), (a_all, aI G 1276 v18), (a_open, aI G 502 g_open), (a_pile, aI G 502 g_pile), (a_text, aB G 2000 g_text), (a_told, aI G 316 g_told), (a_undone, aI G 2528 g_undone)] H := hP
          have hD : va_D A [(h0, O_R f_raised a_all a_text a_saved a_undone f_undos f_reached f_length f_begin f_sort f_sign f_value f_word f_wrongAt f_badAt f_bad a_told f_read f_side a_pile f_piled a_open f_opened f_joins f_had a_size a_capped a_connected a_bestCost a_bestCrosses a_bestPart a_part a_trees f_treeMany a_nodes f_nodeMany f_moveNode f_movePart f_moveFirst f_moveThen f_moveOther a_out f_outMany a_kept), (a_all, aI G 1276 v18), (a_open, aI G 502 g_open), (a_pile, aI G 502 g_pile), (a_text, aB G 2000 g_text), (a_told, aI G 316 g_told), (a_undone, aI G 2528 g_undone)] := hD
          obtain ⟨v19, ev19⟩ : ∃ z : Int32, z = x1 + (1 : Int32) := ⟨_, rfl⟩
          have hf := dn_e ev19 hf
          refine lv_iinc (v := v19) (lv' := [(1, .int v19), (0, .ref h0)]) hx hb d_R_plan_111 hl (k := 1) rfl (by rw [ev19]; rfl) (by decide) rfl (fun ls hl => ?_)
          refine lv_goto (tgt := 86) hx hb d_R_plan_114 (by decide) ?_
          exact ih86 v18 v19 H locs ls (lpk_i hf hk86) ⟨hP, hD, hS⟩ (lv_sub hl [1, 0] rfl)
    exact hL86 N g_all x1 H locs ls hy86 ⟨hP, hD, hS⟩ hl
  have hJ34 : ∀ (f_raised : Int32) (f_undos : Int32) (f_reached : Int32) (f_length : Int32) (f_begin : Int32) (f_sort : Int32) (f_sign : Int32) (f_value : Int32) (f_word : Int64) (f_wrongAt : Int32) (f_badAt : Int32) (f_bad : Int32) (f_piled : Int32) (f_opened : Int32) (f_joins : Int32) (f_had : Int32) (g_all : Nat → Int32) (g_open : Nat → Int32) (g_pile : Nat → Int32) (g_told : Nat → Int32) (g_undone : Nat → Int32) (H : Heap) (locs : List Loc) (ls : Array Slot), PDS G.1 classes A s [(h0, O_R f_raised a_all a_text a_saved a_undone f_undos f_reached f_length f_begin f_sort f_sign f_value f_word f_wrongAt f_badAt f_bad a_told f_read f_side a_pile f_piled a_open f_opened f_joins f_had a_size a_capped a_connected a_bestCost a_bestCrosses a_bestPart a_part a_trees f_treeMany a_nodes f_nodeMany f_moveNode f_movePart f_moveFirst f_moveThen f_moveOther a_out f_outMany a_kept), (a_all, aI G 1276 g_all), (a_open, aI G 502 g_open), (a_pile, aI G 502 g_pile), (a_text, aB G 2000 g_text), (a_told, aI G 316 g_told), (a_undone, aI G 2528 g_undone)] H locs → lv_has ls 2 [(0, .ref h0)] → R_plan_34 N f_raised f_undos f_reached f_length f_begin f_sort f_sign f_value f_word f_wrongAt f_badAt f_bad f_piled f_opened f_joins f_had g_all g_open g_pile g_text g_told g_undone = some res → W p l e (rmk 5) s m args below meth c H locs 0 0 Q (F0 m 34 ls []) := by
    intro f_raised f_undos f_reached f_length f_begin f_sort f_sign f_value f_word f_wrongAt f_badAt f_bad f_piled f_opened f_joins f_had g_all g_open g_pile g_told g_undone H locs ls wq hl hf
    obtain ⟨hP, hD, hS⟩ := wq
    refine lv_aload_n hx hb d_R_plan_34 rfl (lv_at hl 0 rfl) ?_
    refine lv_iconst (v := (0 : Int32)) hx hb d_R_plan_35 (by decide) ?_
    refine va_put (D := G.1) (ci := 12) (v := .int (0 : Int32)) (ty := .int) (C := n_R) (T := T_R) (N := 44) hx hb htl iw_R ty_R ty_R_ok nm_R hown hK hP hD hS 0 rfl rfl 20 (by decide) (htl _ k_1216) (fun _ h9 => h9) rfl (by decide +kernel) rfl rfl (Nat.le_of_ble_eq_true rfl) d_R_plan_36 (fun H locs hP hD hS => ?_)
    have hP : va_P G.1 classes [(h0, O_R f_raised a_all a_text a_saved a_undone f_undos f_reached f_length f_begin f_sort f_sign f_value f_word f_wrongAt f_badAt f_bad a_told f_read f_side a_pile (0 : Int32) a_open f_opened f_joins f_had a_size a_capped a_connected a_bestCost a_bestCrosses a_bestPart a_part a_trees f_treeMany a_nodes f_nodeMany f_moveNode f_movePart f_moveFirst f_moveThen f_moveOther a_out f_outMany a_kept), (a_all, aI G 1276 g_all), (a_open, aI G 502 g_open), (a_pile, aI G 502 g_pile), (a_text, aB G 2000 g_text), (a_told, aI G 316 g_told), (a_undone, aI G 2528 g_undone)] H := hP
    have hD : va_D A [(h0, O_R f_raised a_all a_text a_saved a_undone f_undos f_reached f_length f_begin f_sort f_sign f_value f_word f_wrongAt f_badAt f_bad a_told f_read f_side a_pile (0 : Int32) a_open f_opened f_joins f_had a_size a_capped a_connected a_bestCost a_bestCrosses a_bestPart a_part a_trees f_treeMany a_nodes f_nodeMany f_moveNode f_movePart f_moveFirst f_moveThen f_moveOther a_out f_outMany a_kept), (a_all, aI G 1276 g_all), (a_open, aI G 502 g_open), (a_pile, aI G 502 g_pile), (a_text, aB G 2000 g_text), (a_told, aI G 316 g_told), (a_undone, aI G 2528 g_undone)] := hD
    refine lv_aload_n hx hb d_R_plan_39 rfl (lv_at hl 0 rfl) ?_
    refine lv_iconst (v := (0 : Int32)) hx hb d_R_plan_40 (by decide) ?_
    refine va_put (D := G.1) (ci := 12) (v := .int (0 : Int32)) (ty := .int) (C := n_R) (T := T_R) (N := 44) hx hb htl iw_R ty_R ty_R_ok nm_R hown hK hP hD hS 0 rfl rfl 22 (by decide) (htl _ k_1218) (fun _ h9 => h9) rfl (by decide +kernel) rfl rfl (Nat.le_of_ble_eq_true rfl) d_R_plan_41 (fun H locs hP hD hS => ?_)
    have hP : va_P G.1 classes [(h0, O_R f_raised a_all a_text a_saved a_undone f_undos f_reached f_length f_begin f_sort f_sign f_value f_word f_wrongAt f_badAt f_bad a_told f_read f_side a_pile (0 : Int32) a_open (0 : Int32) f_joins f_had a_size a_capped a_connected a_bestCost a_bestCrosses a_bestPart a_part a_trees f_treeMany a_nodes f_nodeMany f_moveNode f_movePart f_moveFirst f_moveThen f_moveOther a_out f_outMany a_kept), (a_all, aI G 1276 g_all), (a_open, aI G 502 g_open), (a_pile, aI G 502 g_pile), (a_text, aB G 2000 g_text), (a_told, aI G 316 g_told), (a_undone, aI G 2528 g_undone)] H := hP
    have hD : va_D A [(h0, O_R f_raised a_all a_text a_saved a_undone f_undos f_reached f_length f_begin f_sort f_sign f_value f_word f_wrongAt f_badAt f_bad a_told f_read f_side a_pile (0 : Int32) a_open (0 : Int32) f_joins f_had a_size a_capped a_connected a_bestCost a_bestCrosses a_bestPart a_part a_trees f_treeMany a_nodes f_nodeMany f_moveNode f_movePart f_moveFirst f_moveThen f_moveOther a_out f_outMany a_kept), (a_all, aI G 1276 g_all), (a_open, aI G 502 g_open), (a_pile, aI G 502 g_pile), (a_text, aB G 2000 g_text), (a_told, aI G 316 g_told), (a_undone, aI G 2528 g_undone)] := hD
    refine lv_aload_n hx hb d_R_plan_44 rfl (lv_at hl 0 rfl) ?_
    refine lv_iconst (v := (0 : Int32)) hx hb d_R_plan_45 (by decide) ?_
    refine va_put (D := G.1) (ci := 12) (v := .int (0 : Int32)) (ty := .int) (C := n_R) (T := T_R) (N := 44) hx hb htl iw_R ty_R ty_R_ok nm_R hown hK hP hD hS 0 rfl rfl 23 (by decide) (htl _ k_1219) (fun _ h9 => h9) rfl (by decide +kernel) rfl rfl (Nat.le_of_ble_eq_true rfl) d_R_plan_46 (fun H locs hP hD hS => ?_)
    have hP : va_P G.1 classes [(h0, O_R f_raised a_all a_text a_saved a_undone f_undos f_reached f_length f_begin f_sort f_sign f_value f_word f_wrongAt f_badAt f_bad a_told f_read f_side a_pile (0 : Int32) a_open (0 : Int32) (0 : Int32) f_had a_size a_capped a_connected a_bestCost a_bestCrosses a_bestPart a_part a_trees f_treeMany a_nodes f_nodeMany f_moveNode f_movePart f_moveFirst f_moveThen f_moveOther a_out f_outMany a_kept), (a_all, aI G 1276 g_all), (a_open, aI G 502 g_open), (a_pile, aI G 502 g_pile), (a_text, aB G 2000 g_text), (a_told, aI G 316 g_told), (a_undone, aI G 2528 g_undone)] H := hP
    have hD : va_D A [(h0, O_R f_raised a_all a_text a_saved a_undone f_undos f_reached f_length f_begin f_sort f_sign f_value f_word f_wrongAt f_badAt f_bad a_told f_read f_side a_pile (0 : Int32) a_open (0 : Int32) (0 : Int32) f_had a_size a_capped a_connected a_bestCost a_bestCrosses a_bestPart a_part a_trees f_treeMany a_nodes f_nodeMany f_moveNode f_movePart f_moveFirst f_moveThen f_moveOther a_out f_outMany a_kept), (a_all, aI G 1276 g_all), (a_open, aI G 502 g_open), (a_pile, aI G 502 g_pile), (a_text, aB G 2000 g_text), (a_told, aI G 316 g_told), (a_undone, aI G 2528 g_undone)] := hD
    refine lv_aload_n hx hb d_R_plan_49 rfl (lv_at hl 0 rfl) ?_
    refine lv_iconst (v := (0 : Int32)) hx hb d_R_plan_50 (by decide) ?_
    refine va_put (D := G.1) (ci := 12) (v := .int (0 : Int32)) (ty := .int) (C := n_R) (T := T_R) (N := 44) hx hb htl iw_R ty_R ty_R_ok nm_R hown hK hP hD hS 0 rfl rfl 24 (by decide) (htl _ k_1220) (fun _ h9 => h9) rfl (by decide +kernel) rfl rfl (Nat.le_of_ble_eq_true rfl) d_R_plan_51 (fun H locs hP hD hS => ?_)
    have hP : va_P G.1 classes [(h0, O_R f_raised a_all a_text a_saved a_undone f_undos f_reached f_length f_begin f_sort f_sign f_value f_word f_wrongAt f_badAt f_bad a_told f_read f_side a_pile (0 : Int32) a_open (0 : Int32) (0 : Int32) (0 : Int32) a_size a_capped a_connected a_bestCost a_bestCrosses a_bestPart a_part a_trees f_treeMany a_nodes f_nodeMany f_moveNode f_movePart f_moveFirst f_moveThen f_moveOther a_out f_outMany a_kept), (a_all, aI G 1276 g_all), (a_open, aI G 502 g_open), (a_pile, aI G 502 g_pile), (a_text, aB G 2000 g_text), (a_told, aI G 316 g_told), (a_undone, aI G 2528 g_undone)] H := hP
    have hD : va_D A [(h0, O_R f_raised a_all a_text a_saved a_undone f_undos f_reached f_length f_begin f_sort f_sign f_value f_word f_wrongAt f_badAt f_bad a_told f_read f_side a_pile (0 : Int32) a_open (0 : Int32) (0 : Int32) (0 : Int32) a_size a_capped a_connected a_bestCost a_bestCrosses a_bestPart a_part a_trees f_treeMany a_nodes f_nodeMany f_moveNode f_movePart f_moveFirst f_moveThen f_moveOther a_out f_outMany a_kept), (a_all, aI G 1276 g_all), (a_open, aI G 502 g_open), (a_pile, aI G 502 g_pile), (a_text, aB G 2000 g_text), (a_told, aI G 316 g_told), (a_undone, aI G 2528 g_undone)] := hD
    refine lv_aload_n hx hb d_R_plan_54 rfl (lv_at hl 0 rfl) ?_
    refine lv_aload_n hx hb d_R_plan_55 rfl (lv_at hl 0 rfl) ?_
    obtain ⟨t7, hv8, hf⟩ := db_e hf
    refine call_i (isC := [0, 1, 2, 3, 4, 5]) (run_V (As := []) (rest := [.ref h0]) (ci := 12) (q0 := 0) hx hb hml hown htl (c_R_isPlan l G Y  h0 a_all a_text a_saved a_undone a_told a_pile a_open a_size a_capped a_connected a_bestCost a_bestCrosses a_bestPart a_part a_trees a_nodes a_out a_kept f_raised f_undos f_reached f_length f_begin f_sort f_sign f_value f_word f_wrongAt f_badAt f_bad f_read f_side (0 : Int32) (0 : Int32) (0 : Int32) (0 : Int32) f_treeMany f_nodeMany f_moveNode f_movePart f_moveFirst f_moveThen f_moveOther f_outMany g_all g_open g_pile g_text g_told N t7 hv8) mv_R_isPlan k_1411 (hRk (by decide) (by decide)) hK hsk hS hP hD (isC := [0, 1, 2, 3, 4, 5]) rfl (by decide) rfl rfl rfl hl.1 rfl (lv_room (Nat.le_of_ble_eq_true rfl)) d_R_plan_56) hP hD hS rfl rfl (fun H locs hP hD hS => ?_)
    have hP : va_P G.1 classes [(h0, O_R f_raised a_all a_text a_saved a_undone f_undos t7.2.1 f_length t7.2.2.1 t7.2.2.2.1 t7.2.2.2.2.1 t7.2.2.2.2.2.1 t7.2.2.2.2.2.2.1 t7.2.2.2.2.2.2.2.1 t7.2.2.2.2.2.2.2.2.1 t7.2.2.2.2.2.2.2.2.2.1 a_told f_read f_side a_pile t7.2.2.2.2.2.2.2.2.2.2.1 a_open t7.2.2.2.2.2.2.2.2.2.2.2.1 t7.2.2.2.2.2.2.2.2.2.2.2.2.1 t7.2.2.2.2.2.2.2.2.2.2.2.2.2.1 a_size a_capped a_connected a_bestCost a_bestCrosses a_bestPart a_part a_trees f_treeMany a_nodes f_nodeMany f_moveNode f_movePart f_moveFirst f_moveThen f_moveOther a_out f_outMany a_kept), (a_all, aI G 1276 g_all), (a_open, aI G 502 t7.2.2.2.2.2.2.2.2.2.2.2.2.2.2.1), (a_pile, aI G 502 t7.2.2.2.2.2.2.2.2.2.2.2.2.2.2.2.1), (a_text, aB G 2000 g_text), (a_told, aI G 316 t7.2.2.2.2.2.2.2.2.2.2.2.2.2.2.2.2), (a_undone, aI G 2528 g_undone)] H := hP
    have hD : va_D A [(h0, O_R f_raised a_all a_text a_saved a_undone f_undos t7.2.1 f_length t7.2.2.1 t7.2.2.2.1 t7.2.2.2.2.1 t7.2.2.2.2.2.1 t7.2.2.2.2.2.2.1 t7.2.2.2.2.2.2.2.1 t7.2.2.2.2.2.2.2.2.1 t7.2.2.2.2.2.2.2.2.2.1 a_told f_read f_side a_pile t7.2.2.2.2.2.2.2.2.2.2.1 a_open t7.2.2.2.2.2.2.2.2.2.2.2.1 t7.2.2.2.2.2.2.2.2.2.2.2.2.1 t7.2.2.2.2.2.2.2.2.2.2.2.2.2.1 a_size a_capped a_connected a_bestCost a_bestCrosses a_bestPart a_part a_trees f_treeMany a_nodes f_nodeMany f_moveNode f_movePart f_moveFirst f_moveThen f_moveOther a_out f_outMany a_kept), (a_all, aI G 1276 g_all), (a_open, aI G 502 t7.2.2.2.2.2.2.2.2.2.2.2.2.2.2.1), (a_pile, aI G 502 t7.2.2.2.2.2.2.2.2.2.2.2.2.2.2.2.1), (a_text, aB G 2000 g_text), (a_told, aI G 316 t7.2.2.2.2.2.2.2.2.2.2.2.2.2.2.2.2), (a_undone, aI G 2528 g_undone)] := hD
    obtain ⟨t9, hv10, hf⟩ := db_e hf
    refine call_i (isC := [0, 1]) (run_V (As := [.int t7.1]) (rest := []) (ci := 12) (q0 := 0) hx hb hml hown htl (c_R_isFine l G Y  h0 a_all a_text a_saved a_undone a_told a_pile a_open a_size a_capped a_connected a_bestCost a_bestCrosses a_bestPart a_part a_trees a_nodes a_out a_kept f_raised f_undos t7.2.1 f_length t7.2.2.1 t7.2.2.2.1 t7.2.2.2.2.1 t7.2.2.2.2.2.1 t7.2.2.2.2.2.2.1 t7.2.2.2.2.2.2.2.1 t7.2.2.2.2.2.2.2.2.1 t7.2.2.2.2.2.2.2.2.2.1 f_read f_side t7.2.2.2.2.2.2.2.2.2.2.1 t7.2.2.2.2.2.2.2.2.2.2.2.1 t7.2.2.2.2.2.2.2.2.2.2.2.2.1 t7.2.2.2.2.2.2.2.2.2.2.2.2.2.1 f_treeMany f_nodeMany f_moveNode f_movePart f_moveFirst f_moveThen f_moveOther f_outMany g_all t7.1 t9 hv10) mv_R_isFine k_1399 (hRk (by decide) (by decide)) hK hsk hS hP hD (isC := [0, 1]) rfl (by decide) rfl rfl rfl hl.1 rfl (lv_room (Nat.le_of_ble_eq_true rfl)) d_R_plan_59) hP hD hS rfl rfl (fun H locs hP hD hS => ?_)
    have hP : va_P G.1 classes [(h0, O_R f_raised a_all a_text a_saved a_undone f_undos t7.2.1 f_length t7.2.2.1 t7.2.2.2.1 t7.2.2.2.2.1 t7.2.2.2.2.2.1 t7.2.2.2.2.2.2.1 t7.2.2.2.2.2.2.2.1 t7.2.2.2.2.2.2.2.2.1 t7.2.2.2.2.2.2.2.2.2.1 a_told f_read f_side a_pile t7.2.2.2.2.2.2.2.2.2.2.1 a_open t7.2.2.2.2.2.2.2.2.2.2.2.1 t7.2.2.2.2.2.2.2.2.2.2.2.2.1 t7.2.2.2.2.2.2.2.2.2.2.2.2.2.1 a_size a_capped a_connected a_bestCost a_bestCrosses a_bestPart a_part a_trees f_treeMany a_nodes f_nodeMany f_moveNode f_movePart f_moveFirst f_moveThen f_moveOther a_out f_outMany a_kept), (a_all, aI G 1276 t9.2), (a_open, aI G 502 t7.2.2.2.2.2.2.2.2.2.2.2.2.2.2.1), (a_pile, aI G 502 t7.2.2.2.2.2.2.2.2.2.2.2.2.2.2.2.1), (a_text, aB G 2000 g_text), (a_told, aI G 316 t7.2.2.2.2.2.2.2.2.2.2.2.2.2.2.2.2), (a_undone, aI G 2528 g_undone)] H := hP
    have hD : va_D A [(h0, O_R f_raised a_all a_text a_saved a_undone f_undos t7.2.1 f_length t7.2.2.1 t7.2.2.2.1 t7.2.2.2.2.1 t7.2.2.2.2.2.1 t7.2.2.2.2.2.2.1 t7.2.2.2.2.2.2.2.1 t7.2.2.2.2.2.2.2.2.1 t7.2.2.2.2.2.2.2.2.2.1 a_told f_read f_side a_pile t7.2.2.2.2.2.2.2.2.2.2.1 a_open t7.2.2.2.2.2.2.2.2.2.2.2.1 t7.2.2.2.2.2.2.2.2.2.2.2.2.1 t7.2.2.2.2.2.2.2.2.2.2.2.2.2.1 a_size a_capped a_connected a_bestCost a_bestCrosses a_bestPart a_part a_trees f_treeMany a_nodes f_nodeMany f_moveNode f_movePart f_moveFirst f_moveThen f_moveOther a_out f_outMany a_kept), (a_all, aI G 1276 t9.2), (a_open, aI G 502 t7.2.2.2.2.2.2.2.2.2.2.2.2.2.2.1), (a_pile, aI G 502 t7.2.2.2.2.2.2.2.2.2.2.2.2.2.2.2.1), (a_text, aB G 2000 g_text), (a_told, aI G 316 t7.2.2.2.2.2.2.2.2.2.2.2.2.2.2.2.2), (a_undone, aI G 2528 g_undone)] := hD
    refine lv_if_ne (tgt := 67) hx hb d_R_plan_62 (by decide) (fun c11 => ?_) (fun c11 => ?_)
    · have hf := di_f c11 hf
      refine lv_aload_n hx hb d_R_plan_67 rfl (lv_at hl 0 rfl) ?_
      obtain ⟨t12, hv13, hf⟩ := db_e hf
      refine call_v (isC := [0, 1, 6]) (run_V (As := []) (rest := []) (ci := 12) (q0 := 0) hx hb hml hown htl (c_R_keeps l G Y  h0 a_all a_text a_saved a_undone a_told a_pile a_open a_size a_capped a_connected a_bestCost a_bestCrosses a_bestPart a_part a_trees a_nodes a_out a_kept f_raised f_undos t7.2.1 f_length t7.2.2.1 t7.2.2.2.1 t7.2.2.2.2.1 t7.2.2.2.2.2.1 t7.2.2.2.2.2.2.1 t7.2.2.2.2.2.2.2.1 t7.2.2.2.2.2.2.2.2.1 t7.2.2.2.2.2.2.2.2.2.1 f_read f_side t7.2.2.2.2.2.2.2.2.2.2.1 t7.2.2.2.2.2.2.2.2.2.2.2.1 t7.2.2.2.2.2.2.2.2.2.2.2.2.1 t7.2.2.2.2.2.2.2.2.2.2.2.2.2.1 f_treeMany f_nodeMany f_moveNode f_movePart f_moveFirst f_moveThen f_moveOther f_outMany t9.2 g_undone N t12 hv13) mv_R_keeps k_1437 (hRk (by decide) (by decide)) hK hsk hS hP hD (isC := [0, 1, 6]) rfl (by decide) rfl rfl rfl hl.1 rfl (lv_room (Nat.le_of_ble_eq_true rfl)) d_R_plan_68) hP hD hS rfl rfl (fun H locs hP hD hS => ?_)
      have hP : va_P G.1 classes [(h0, O_R f_raised a_all a_text a_saved a_undone t12.1 t7.2.1 f_length t7.2.2.1 t7.2.2.2.1 t7.2.2.2.2.1 t7.2.2.2.2.2.1 t7.2.2.2.2.2.2.1 t7.2.2.2.2.2.2.2.1 t7.2.2.2.2.2.2.2.2.1 t7.2.2.2.2.2.2.2.2.2.1 a_told f_read f_side a_pile t7.2.2.2.2.2.2.2.2.2.2.1 a_open t7.2.2.2.2.2.2.2.2.2.2.2.1 t7.2.2.2.2.2.2.2.2.2.2.2.2.1 t7.2.2.2.2.2.2.2.2.2.2.2.2.2.1 a_size a_capped a_connected a_bestCost a_bestCrosses a_bestPart a_part a_trees f_treeMany a_nodes f_nodeMany f_moveNode f_movePart f_moveFirst f_moveThen f_moveOther a_out f_outMany a_kept), (a_all, aI G 1276 t9.2), (a_open, aI G 502 t7.2.2.2.2.2.2.2.2.2.2.2.2.2.2.1), (a_pile, aI G 502 t7.2.2.2.2.2.2.2.2.2.2.2.2.2.2.2.1), (a_text, aB G 2000 g_text), (a_told, aI G 316 t7.2.2.2.2.2.2.2.2.2.2.2.2.2.2.2.2), (a_undone, aI G 2528 t12.2)] H := hP
      have hD : va_D A [(h0, O_R f_raised a_all a_text a_saved a_undone t12.1 t7.2.1 f_length t7.2.2.1 t7.2.2.2.1 t7.2.2.2.2.1 t7.2.2.2.2.2.1 t7.2.2.2.2.2.2.1 t7.2.2.2.2.2.2.2.1 t7.2.2.2.2.2.2.2.2.1 t7.2.2.2.2.2.2.2.2.2.1 a_told f_read f_side a_pile t7.2.2.2.2.2.2.2.2.2.2.1 a_open t7.2.2.2.2.2.2.2.2.2.2.2.1 t7.2.2.2.2.2.2.2.2.2.2.2.2.1 t7.2.2.2.2.2.2.2.2.2.2.2.2.2.1 a_size a_capped a_connected a_bestCost a_bestCrosses a_bestPart a_part a_trees f_treeMany a_nodes f_nodeMany f_moveNode f_movePart f_moveFirst f_moveThen f_moveOther a_out f_outMany a_kept), (a_all, aI G 1276 t9.2), (a_open, aI G 502 t7.2.2.2.2.2.2.2.2.2.2.2.2.2.2.1), (a_pile, aI G 502 t7.2.2.2.2.2.2.2.2.2.2.2.2.2.2.2.1), (a_text, aB G 2000 g_text), (a_told, aI G 316 t7.2.2.2.2.2.2.2.2.2.2.2.2.2.2.2.2), (a_undone, aI G 2528 t12.2)] := hD
      refine lv_aload_n hx hb d_R_plan_71 rfl (lv_at hl 0 rfl) ?_
      refine va_get (D := G.1) (ci := 12) (v := .ref a_all) (C := n_R) (T := T_R) (N := 44) hx hb htl iw_R hown hK hP 0 rfl rfl 1 (by decide) (htl _ k_1197) (fun _ h9 => h9) rfl d_R_plan_72 ?_
      refine lv_bipush (v := (59 : Int32)) hx hb d_R_plan_75 (by decide) ?_
      refine lv_aload_n hx hb d_R_plan_77 rfl (lv_at hl 0 rfl) ?_
      refine va_get (D := G.1) (ci := 12) (v := .ref a_pile) (C := n_R) (T := T_R) (N := 44) hx hb htl iw_R hown hK hP 0 rfl rfl 19 (by decide) (htl _ k_1215) (fun _ h9 => h9) rfl d_R_plan_78 ?_
      refine lv_iconst (v := (0 : Int32)) hx hb d_R_plan_81 (by decide) ?_
      refine va_iald hx hb hK hP 3 1 rfl rfl (vp_lit (by decide)) d_R_plan_82 ?_
      refine nx_iast hx hb hK hP hD hS 1 1 rfl rfl (vp_lit (by decide)) d_R_plan_83 (fun v14 ev14 H locs hP hD hS => ?_)
      have hf := dn_e ev14 hf
      have hP : va_P G.1 classes [(h0, O_R f_raised a_all a_text a_saved a_undone t12.1 t7.2.1 f_length t7.2.2.1 t7.2.2.2.1 t7.2.2.2.2.1 t7.2.2.2.2.2.1 t7.2.2.2.2.2.2.1 t7.2.2.2.2.2.2.2.1 t7.2.2.2.2.2.2.2.2.1 t7.2.2.2.2.2.2.2.2.2.1 a_told f_read f_side a_pile t7.2.2.2.2.2.2.2.2.2.2.1 a_open t7.2.2.2.2.2.2.2.2.2.2.2.1 t7.2.2.2.2.2.2.2.2.2.2.2.2.1 t7.2.2.2.2.2.2.2.2.2.2.2.2.2.1 a_size a_capped a_connected a_bestCost a_bestCrosses a_bestPart a_part a_trees f_treeMany a_nodes f_nodeMany f_moveNode f_movePart f_moveFirst f_moveThen f_moveOther a_out f_outMany a_kept), (a_all, aI G 1276 v14), (a_open, aI G 502 t7.2.2.2.2.2.2.2.2.2.2.2.2.2.2.1), (a_pile, aI G 502 t7.2.2.2.2.2.2.2.2.2.2.2.2.2.2.2.1), (a_text, aB G 2000 g_text), (a_told, aI G 316 t7.2.2.2.2.2.2.2.2.2.2.2.2.2.2.2.2), (a_undone, aI G 2528 t12.2)] H := hP
      have hD : va_D A [(h0, O_R f_raised a_all a_text a_saved a_undone t12.1 t7.2.1 f_length t7.2.2.1 t7.2.2.2.1 t7.2.2.2.2.1 t7.2.2.2.2.2.1 t7.2.2.2.2.2.2.1 t7.2.2.2.2.2.2.2.1 t7.2.2.2.2.2.2.2.2.1 t7.2.2.2.2.2.2.2.2.2.1 a_told f_read f_side a_pile t7.2.2.2.2.2.2.2.2.2.2.1 a_open t7.2.2.2.2.2.2.2.2.2.2.2.1 t7.2.2.2.2.2.2.2.2.2.2.2.2.1 t7.2.2.2.2.2.2.2.2.2.2.2.2.2.1 a_size a_capped a_connected a_bestCost a_bestCrosses a_bestPart a_part a_trees f_treeMany a_nodes f_nodeMany f_moveNode f_movePart f_moveFirst f_moveThen f_moveOther a_out f_outMany a_kept), (a_all, aI G 1276 v14), (a_open, aI G 502 t7.2.2.2.2.2.2.2.2.2.2.2.2.2.2.1), (a_pile, aI G 502 t7.2.2.2.2.2.2.2.2.2.2.2.2.2.2.2.1), (a_text, aB G 2000 g_text), (a_told, aI G 316 t7.2.2.2.2.2.2.2.2.2.2.2.2.2.2.2.2), (a_undone, aI G 2528 t12.2)] := hD
      refine lv_iconst (v := (0 : Int32)) hx hb d_R_plan_84 (by decide) ?_
      refine lv_istore_n (lv' := [(1, .int (0 : Int32)), (0, .ref h0)]) hx hb d_R_plan_85 rfl hl (by decide) rfl (fun ls hl => ?_)
      exact hJ86 f_raised t12.1 t7.2.1 f_length t7.2.2.1 t7.2.2.2.1 t7.2.2.2.2.1 t7.2.2.2.2.2.1 t7.2.2.2.2.2.2.1 t7.2.2.2.2.2.2.2.1 t7.2.2.2.2.2.2.2.2.1 t7.2.2.2.2.2.2.2.2.2.1 t7.2.2.2.2.2.2.2.2.2.2.1 t7.2.2.2.2.2.2.2.2.2.2.2.1 t7.2.2.2.2.2.2.2.2.2.2.2.2.1 t7.2.2.2.2.2.2.2.2.2.2.2.2.2.1 v14 t7.2.2.2.2.2.2.2.2.2.2.2.2.2.2.1 t7.2.2.2.2.2.2.2.2.2.2.2.2.2.2.2.1 t7.2.2.2.2.2.2.2.2.2.2.2.2.2.2.2.2 t12.2 (0 : Int32) H locs ls ⟨hP, hD, hS⟩ (lv_sub hl [1, 0] rfl) hf
    · have hf := di_t c11 hf
      refine lv_iconst (v := (-1 : Int32)) hx hb d_R_plan_65 (by decide) ?_
      cases hf
      exact hret 66 ls H locs hP hS d_R_plan_66
  have hJ11 : ∀ (f_raised : Int32) (f_undos : Int32) (f_reached : Int32) (f_length : Int32) (f_begin : Int32) (f_sort : Int32) (f_sign : Int32) (f_value : Int32) (f_word : Int64) (f_wrongAt : Int32) (f_badAt : Int32) (f_bad : Int32) (f_piled : Int32) (f_opened : Int32) (f_joins : Int32) (f_had : Int32) (g_all : Nat → Int32) (g_open : Nat → Int32) (g_pile : Nat → Int32) (g_told : Nat → Int32) (g_undone : Nat → Int32) (x1 : Int32) (H : Heap) (locs : List Loc) (ls : Array Slot), PDS G.1 classes A s [(h0, O_R f_raised a_all a_text a_saved a_undone f_undos f_reached f_length f_begin f_sort f_sign f_value f_word f_wrongAt f_badAt f_bad a_told f_read f_side a_pile f_piled a_open f_opened f_joins f_had a_size a_capped a_connected a_bestCost a_bestCrosses a_bestPart a_part a_trees f_treeMany a_nodes f_nodeMany f_moveNode f_movePart f_moveFirst f_moveThen f_moveOther a_out f_outMany a_kept), (a_all, aI G 1276 g_all), (a_open, aI G 502 g_open), (a_pile, aI G 502 g_pile), (a_text, aB G 2000 g_text), (a_told, aI G 316 g_told), (a_undone, aI G 2528 g_undone)] H locs → lv_has ls 2 [(0, .ref h0), (1, .int x1)] → R_plan_11 N f_raised f_undos f_reached f_length f_begin f_sort f_sign f_value f_word f_wrongAt f_badAt f_bad f_piled f_opened f_joins f_had g_all g_open g_pile g_text g_told g_undone x1 = some res → W p l e (rmk 5) s m args below meth c H locs 0 0 Q (F0 m 11 ls []) := by
    intro f_raised f_undos f_reached f_length f_begin f_sort f_sign f_value f_word f_wrongAt f_badAt f_bad f_piled f_opened f_joins f_had g_all g_open g_pile g_told g_undone x1 H locs ls wq hl hf
    obtain ⟨hP, hD, hS⟩ := wq
    obtain ⟨y11, hy11, hfo11⟩ := db_e hf
    have hL11 : ∀ (n : Nat) (g_told : Nat → Int32) (x1 : Int32) (H : Heap) (locs : List Loc) (ls : Array Slot), lp (fun x => R_plan_b11 N f_raised f_undos f_reached f_length f_begin f_sort f_sign f_value f_word f_wrongAt f_badAt f_bad f_piled f_opened f_joins f_had g_all g_open g_pile g_text x.1 g_undone x.2) n (g_told, x1) = some y11 → PDS G.1 classes A s [(h0, O_R f_raised a_all a_text a_saved a_undone f_undos f_reached f_length f_begin f_sort f_sign f_value f_word f_wrongAt f_badAt f_bad a_told f_read f_side a_pile f_piled a_open f_opened f_joins f_had a_size a_capped a_connected a_bestCost a_bestCrosses a_bestPart a_part a_trees f_treeMany a_nodes f_nodeMany f_moveNode f_movePart f_moveFirst f_moveThen f_moveOther a_out f_outMany a_kept), (a_all, aI G 1276 g_all), (a_open, aI G 502 g_open), (a_pile, aI G 502 g_pile), (a_text, aB G 2000 g_text), (a_told, aI G 316 g_told), (a_undone, aI G 2528 g_undone)] H locs → lv_has ls 2 [(0, .ref h0), (1, .int x1)] → W p l e (rmk 5) s m args below meth c H locs 0 0 Q (F0 m 11 ls []) := by
      intro n
      induction n with
      | zero =>
        intro g_told x1 H locs ls hf
        exact lp_0 hf
      | succ n ih11 =>
        intro g_told x1 H locs ls hf wq hl
        obtain ⟨hP, hD, hS⟩ := wq
        obtain ⟨r11, hf, hk11⟩ := lp_s hf
        have hf : R_plan_b11 N f_raised f_undos f_reached f_length f_begin f_sort f_sign f_value f_word f_wrongAt f_badAt f_bad f_piled f_opened f_joins f_had g_all g_open g_pile g_text g_told g_undone x1 = some r11 := hf
        refine lv_iload_n hx hb d_R_plan_11 rfl (lv_at hl 1 rfl) ?_
        refine lv_sipush (v := (256 : Int32)) hx hb d_R_plan_12 (by decide) ?_
        refine lv_icmp_ge (tgt := 34) hx hb d_R_plan_15 (by decide) (fun c3 => ?_) (fun c3 => ?_)
        · have hf := di_t c3 hf
          have hq11 := lpk_x hf hk11
          have hf := ex_y (f := fun y => R_plan_a11 N f_raised f_undos f_reached f_length f_begin f_sort f_sign f_value f_word f_wrongAt f_badAt f_bad f_piled f_opened f_joins f_had g_all g_open g_pile g_text g_undone y) hq11 hfo11
          have hf : R_plan_34 N f_raised f_undos f_reached f_length f_begin f_sort f_sign f_value f_word f_wrongAt f_badAt f_bad f_piled f_opened f_joins f_had g_all g_open g_pile g_text g_told g_undone = some res := hf
          exact hJ34 f_raised f_undos f_reached f_length f_begin f_sort f_sign f_value f_word f_wrongAt f_badAt f_bad f_piled f_opened f_joins f_had g_all g_open g_pile g_told g_undone H locs ls ⟨hP, hD, hS⟩ (lv_sub hl [0] rfl) hf
        · have hf := di_f c3 hf
          refine lv_aload_n hx hb d_R_plan_18 rfl (lv_at hl 0 rfl) ?_
          refine va_get (D := G.1) (ci := 12) (v := .ref a_told) (C := n_R) (T := T_R) (N := 44) hx hb htl iw_R hown hK hP 0 rfl rfl 16 (by decide) (htl _ k_1212) (fun _ h9 => h9) rfl d_R_plan_19 ?_
          refine lv_bipush (v := (60 : Int32)) hx hb d_R_plan_22 (by decide) ?_
          refine lv_iload_n hx hb d_R_plan_24 rfl (lv_at hl 1 rfl) ?_
          refine lv_iadd hx hb d_R_plan_25 ?_
          refine lv_iconst (v := (0 : Int32)) hx hb d_R_plan_26 (by decide) ?_
          obtain ⟨c4, hf⟩ := dk_e hf
          refine nx_iast hx hb hK hP hD hS 5 1 rfl rfl c4 d_R_plan_27 (fun v5 ev5 H locs hP hD hS => ?_)
          have hf := dn_e ev5 hf
          have hP : va_P G.1 classes [(h0, O_R f_raised a_all a_text a_saved a_undone f_undos f_reached f_length f_begin f_sort f_sign f_value f_word f_wrongAt f_badAt f_bad a_told f_read f_side a_pile f_piled a_open f_opened f_joins f_had a_size a_capped a_connected a_bestCost a_bestCrosses a_bestPart a_part a_trees f_treeMany a_nodes f_nodeMany f_moveNode f_movePart f_moveFirst f_moveThen f_moveOther a_out f_outMany a_kept), (a_all, aI G 1276 g_all), (a_open, aI G 502 g_open), (a_pile, aI G 502 g_pile), (a_text, aB G 2000 g_text), (a_told, aI G 316 v5), (a_undone, aI G 2528 g_undone)] H := hP
          have hD : va_D A [(h0, O_R f_raised a_all a_text a_saved a_undone f_undos f_reached f_length f_begin f_sort f_sign f_value f_word f_wrongAt f_badAt f_bad a_told f_read f_side a_pile f_piled a_open f_opened f_joins f_had a_size a_capped a_connected a_bestCost a_bestCrosses a_bestPart a_part a_trees f_treeMany a_nodes f_nodeMany f_moveNode f_movePart f_moveFirst f_moveThen f_moveOther a_out f_outMany a_kept), (a_all, aI G 1276 g_all), (a_open, aI G 502 g_open), (a_pile, aI G 502 g_pile), (a_text, aB G 2000 g_text), (a_told, aI G 316 v5), (a_undone, aI G 2528 g_undone)] := hD
          obtain ⟨v6, ev6⟩ : ∃ z : Int32, z = x1 + (1 : Int32) := ⟨_, rfl⟩
          have hf := dn_e ev6 hf
          refine lv_iinc (v := v6) (lv' := [(1, .int v6), (0, .ref h0)]) hx hb d_R_plan_28 hl (k := 1) rfl (by rw [ev6]; rfl) (by decide) rfl (fun ls hl => ?_)
          refine lv_goto (tgt := 11) hx hb d_R_plan_31 (by decide) ?_
          exact ih11 v5 v6 H locs ls (lpk_i hf hk11) ⟨hP, hD, hS⟩ (lv_sub hl [1, 0] rfl)
    exact hL11 N g_told x1 H locs ls hy11 ⟨hP, hD, hS⟩ hl
  refine lv_aload_n hx hb d_R_plan_0 rfl (lv_at hl 0 rfl) ?_
  refine lv_iconst (v := (0 : Int32)) hx hb d_R_plan_1 (by decide) ?_
  refine va_put (D := G.1) (ci := 12) (v := .int (0 : Int32)) (ty := .int) (C := n_R) (T := T_R) (N := 44) hx hb htl iw_R ty_R ty_R_ok nm_R hown hK hP hD hS 0 rfl rfl 0 (by decide) (htl _ k_1196) (fun _ h9 => h9) rfl (by decide +kernel) rfl rfl (Nat.le_of_ble_eq_true rfl) d_R_plan_2 (fun H locs hP hD hS => ?_)
  have hP : va_P G.1 classes [(h0, O_R (0 : Int32) a_all a_text a_saved a_undone f_undos f_reached f_length f_begin f_sort f_sign f_value f_word f_wrongAt f_badAt f_bad a_told f_read f_side a_pile f_piled a_open f_opened f_joins f_had a_size a_capped a_connected a_bestCost a_bestCrosses a_bestPart a_part a_trees f_treeMany a_nodes f_nodeMany f_moveNode f_movePart f_moveFirst f_moveThen f_moveOther a_out f_outMany a_kept), (a_all, aI G 1276 g_all), (a_open, aI G 502 g_open), (a_pile, aI G 502 g_pile), (a_text, aB G 2000 g_text), (a_told, aI G 316 g_told), (a_undone, aI G 2528 g_undone)] H := hP
  have hD : va_D A [(h0, O_R (0 : Int32) a_all a_text a_saved a_undone f_undos f_reached f_length f_begin f_sort f_sign f_value f_word f_wrongAt f_badAt f_bad a_told f_read f_side a_pile f_piled a_open f_opened f_joins f_had a_size a_capped a_connected a_bestCost a_bestCrosses a_bestPart a_part a_trees f_treeMany a_nodes f_nodeMany f_moveNode f_movePart f_moveFirst f_moveThen f_moveOther a_out f_outMany a_kept), (a_all, aI G 1276 g_all), (a_open, aI G 502 g_open), (a_pile, aI G 502 g_pile), (a_text, aB G 2000 g_text), (a_told, aI G 316 g_told), (a_undone, aI G 2528 g_undone)] := hD
  refine lv_aload_n hx hb d_R_plan_5 rfl (lv_at hl 0 rfl) ?_
  obtain ⟨t1, hv2, hf⟩ := db_e hf
  refine call_v (isC := [0, 1, 4]) (run_V (As := []) (rest := []) (ci := 12) (q0 := 0) hx hb hml hown htl (c_R_starts l G Y  h0 a_all a_text a_saved a_undone a_told a_pile a_open a_size a_capped a_connected a_bestCost a_bestCrosses a_bestPart a_part a_trees a_nodes a_out a_kept (0 : Int32) f_undos f_reached f_length f_begin f_sort f_sign f_value f_word f_wrongAt f_badAt f_bad f_read f_side f_piled f_opened f_joins f_had f_treeMany f_nodeMany f_moveNode f_movePart f_moveFirst f_moveThen f_moveOther f_outMany g_all g_text N t1 hv2) mv_R_starts k_1342 (hRk (by decide) (by decide)) hK hsk hS hP hD (isC := [0, 1, 4]) rfl (by decide) rfl rfl rfl hl.1 rfl (lv_room (Nat.le_of_ble_eq_true rfl)) d_R_plan_6) hP hD hS rfl rfl (fun H locs hP hD hS => ?_)
  have hP : va_P G.1 classes [(h0, O_R (0 : Int32) a_all a_text a_saved a_undone f_undos t1.1 t1.2.1 t1.2.2.1 t1.2.2.2.1 t1.2.2.2.2.1 t1.2.2.2.2.2.1 t1.2.2.2.2.2.2.1 f_wrongAt t1.2.2.2.2.2.2.2.1 t1.2.2.2.2.2.2.2.2.1 a_told f_read f_side a_pile f_piled a_open f_opened f_joins f_had a_size a_capped a_connected a_bestCost a_bestCrosses a_bestPart a_part a_trees f_treeMany a_nodes f_nodeMany f_moveNode f_movePart f_moveFirst f_moveThen f_moveOther a_out f_outMany a_kept), (a_all, aI G 1276 t1.2.2.2.2.2.2.2.2.2), (a_open, aI G 502 g_open), (a_pile, aI G 502 g_pile), (a_text, aB G 2000 g_text), (a_told, aI G 316 g_told), (a_undone, aI G 2528 g_undone)] H := hP
  have hD : va_D A [(h0, O_R (0 : Int32) a_all a_text a_saved a_undone f_undos t1.1 t1.2.1 t1.2.2.1 t1.2.2.2.1 t1.2.2.2.2.1 t1.2.2.2.2.2.1 t1.2.2.2.2.2.2.1 f_wrongAt t1.2.2.2.2.2.2.2.1 t1.2.2.2.2.2.2.2.2.1 a_told f_read f_side a_pile f_piled a_open f_opened f_joins f_had a_size a_capped a_connected a_bestCost a_bestCrosses a_bestPart a_part a_trees f_treeMany a_nodes f_nodeMany f_moveNode f_movePart f_moveFirst f_moveThen f_moveOther a_out f_outMany a_kept), (a_all, aI G 1276 t1.2.2.2.2.2.2.2.2.2), (a_open, aI G 502 g_open), (a_pile, aI G 502 g_pile), (a_text, aB G 2000 g_text), (a_told, aI G 316 g_told), (a_undone, aI G 2528 g_undone)] := hD
  refine lv_iconst (v := (0 : Int32)) hx hb d_R_plan_9 (by decide) ?_
  refine lv_istore_n (lv' := [(1, .int (0 : Int32)), (0, .ref h0)]) hx hb d_R_plan_10 rfl hl (by decide) rfl (fun ls hl => ?_)
  exact hJ11 (0 : Int32) f_undos t1.1 t1.2.1 t1.2.2.1 t1.2.2.2.1 t1.2.2.2.2.1 t1.2.2.2.2.2.1 t1.2.2.2.2.2.2.1 f_wrongAt t1.2.2.2.2.2.2.2.1 t1.2.2.2.2.2.2.2.2.1 f_piled f_opened f_joins f_had t1.2.2.2.2.2.2.2.2.2 g_open g_pile g_told g_undone (0 : Int32) H locs ls ⟨hP, hD, hS⟩ (lv_sub hl [1, 0] rfl) hf
set_option maxHeartbeats 4000000 in
set_option maxRecDepth 100000 in
theorem c_R_isJoined (l : Launch) (G : va_G × (Nat → ClassId)) (Y : (Nat → Nat) × (Nat → Nat)) (h0 : Nat) (a_all : Nat) (a_text : Nat) (a_saved : Nat) (a_undone : Nat) (a_told : Nat) (a_pile : Nat) (a_open : Nat) (a_size : Nat) (a_capped : Nat) (a_connected : Nat) (a_bestCost : Nat) (a_bestCrosses : Nat) (a_bestPart : Nat) (a_part : Nat) (a_trees : Nat) (a_nodes : Nat) (a_out : Nat) (a_kept : Nat) (f_raised : Int32) (f_undos : Int32) (f_reached : Int32) (f_length : Int32) (f_begin : Int32) (f_sort : Int32) (f_sign : Int32) (f_value : Int32) (f_word : Int64) (f_wrongAt : Int32) (f_badAt : Int32) (f_bad : Int32) (f_read : Int32) (f_side : Int32) (f_piled : Int32) (f_opened : Int32) (f_joins : Int32) (f_had : Int32) (f_treeMany : Int32) (f_nodeMany : Int32) (f_moveNode : Int32) (f_movePart : Int32) (f_moveFirst : Int32) (f_moveThen : Int32) (f_moveOther : Int32) (f_outMany : Int32) (g_all : Nat → Int32) (x1 : Int32) (x2 : Int32) (N : Nat) (res : Int32) (hf : R_isJoined N g_all x1 x2 = some res) : Ci l classes y_R_isJoined b_R_isJoined 4 (some .boolean) (rmk 1) G.1 (tyL G) Y [.ref h0, .int x1, .int x2] [(h0, O_R f_raised a_all a_text a_saved a_undone f_undos f_reached f_length f_begin f_sort f_sign f_value f_word f_wrongAt f_badAt f_bad a_told f_read f_side a_pile f_piled a_open f_opened f_joins f_had a_size a_capped a_connected a_bestCost a_bestCrosses a_bestPart a_part a_trees f_treeMany a_nodes f_nodeMany f_moveNode f_movePart f_moveFirst f_moveThen f_moveOther a_out f_outMany a_kept), (a_all, aI G 1276 g_all)] [(h0, O_R f_raised a_all a_text a_saved a_undone f_undos f_reached f_length f_begin f_sort f_sign f_value f_word f_wrongAt f_badAt f_bad a_told f_read f_side a_pile f_piled a_open f_opened f_joins f_had a_size a_capped a_connected a_bestCost a_bestCrosses a_bestPart a_part a_trees f_treeMany a_nodes f_nodeMany f_moveNode f_movePart f_moveFirst f_moveThen f_moveOther a_out f_outMany a_kept), (a_all, aI G 1276 g_all)] res := by
  refine entZ (by decide) (Nat.le_of_ble_eq_true rfl) ?_
  intro p e s m args below meth c ls A Q hx hb hml hown htl hK hsk wq hl hret
  obtain ⟨hP, hD, hS⟩ := wq
  have hl : lv_has ls 4 [(0, .ref h0), (1, .int x1), (2, .int x2)] := hl
  have hS : va_S A s.heap s.heap [] := hS
  obtain ⟨H, hH⟩ : ∃ H : Heap, H = s.heap := ⟨_, rfl⟩
  obtain ⟨locs, hlocs⟩ : ∃ z : List Loc, z = [] := ⟨_, rfl⟩
  rw [← hH] at hP
  replace hS : va_S A s.heap H locs := by rw [hH, hlocs]; exact hS
  suffices hgo : W p l e (rmk 1) s m args below meth c H locs 0 0 Q (F0 m 0 ls []) by rw [hH, hlocs] at hgo; exact hgo
  have hJ69 : ∀ (H : Heap) (locs : List Loc) (ls : Array Slot), PDS G.1 classes A s [(h0, O_R f_raised a_all a_text a_saved a_undone f_undos f_reached f_length f_begin f_sort f_sign f_value f_word f_wrongAt f_badAt f_bad a_told f_read f_side a_pile f_piled a_open f_opened f_joins f_had a_size a_capped a_connected a_bestCost a_bestCrosses a_bestPart a_part a_trees f_treeMany a_nodes f_nodeMany f_moveNode f_movePart f_moveFirst f_moveThen f_moveOther a_out f_outMany a_kept), (a_all, aI G 1276 g_all)] H locs → lv_has ls 4 [] → R_isJoined_69 N g_all = some res → W p l e (rmk 1) s m args below meth c H locs 0 0 Q (F0 m 69 ls []) := by
    intro H locs ls wq hl hf
    obtain ⟨hP, hD, hS⟩ := wq
    refine lv_iconst (v := (0 : Int32)) hx hb d_R_isJoined_69 (by decide) ?_
    cases hf
    exact hret 70 ls H locs z_0 hP hS d_R_isJoined_70
  have hJ61 : ∀ (H : Heap) (locs : List Loc) (ls : Array Slot), PDS G.1 classes A s [(h0, O_R f_raised a_all a_text a_saved a_undone f_undos f_reached f_length f_begin f_sort f_sign f_value f_word f_wrongAt f_badAt f_bad a_told f_read f_side a_pile f_piled a_open f_opened f_joins f_had a_size a_capped a_connected a_bestCost a_bestCrosses a_bestPart a_part a_trees f_treeMany a_nodes f_nodeMany f_moveNode f_movePart f_moveFirst f_moveThen f_moveOther a_out f_outMany a_kept), (a_all, aI G 1276 g_all)] H locs → lv_has ls 4 [] → R_isJoined_61 N g_all = some res → W p l e (rmk 1) s m args below meth c H locs 0 0 Q (F0 m 61 ls []) := by
    intro H locs ls wq hl hf
    obtain ⟨hP, hD, hS⟩ := wq
    refine lv_iconst (v := (1 : Int32)) hx hb d_R_isJoined_61 (by decide) ?_
    cases hf
    exact hret 62 ls H locs z_1 hP hS d_R_isJoined_62
  have hJ2 : ∀ (x3 : Int32) (H : Heap) (locs : List Loc) (ls : Array Slot), PDS G.1 classes A s [(h0, O_R f_raised a_all a_text a_saved a_undone f_undos f_reached f_length f_begin f_sort f_sign f_value f_word f_wrongAt f_badAt f_bad a_told f_read f_side a_pile f_piled a_open f_opened f_joins f_had a_size a_capped a_connected a_bestCost a_bestCrosses a_bestPart a_part a_trees f_treeMany a_nodes f_nodeMany f_moveNode f_movePart f_moveFirst f_moveThen f_moveOther a_out f_outMany a_kept), (a_all, aI G 1276 g_all)] H locs → lv_has ls 4 [(0, .ref h0), (1, .int x1), (2, .int x2), (3, .int x3)] → R_isJoined_2 N g_all x1 x2 x3 = some res → W p l e (rmk 1) s m args below meth c H locs 0 0 Q (F0 m 2 ls []) := by
    intro x3 H locs ls wq hl hf
    obtain ⟨hP, hD, hS⟩ := wq
    obtain ⟨y2, hy2, hfo2⟩ := db_e hf
    have hL2 : ∀ (n : Nat) (x3 : Int32) (H : Heap) (locs : List Loc) (ls : Array Slot), lp (fun x => R_isJoined_b2 N g_all x1 x2 x) n x3 = some y2 → PDS G.1 classes A s [(h0, O_R f_raised a_all a_text a_saved a_undone f_undos f_reached f_length f_begin f_sort f_sign f_value f_word f_wrongAt f_badAt f_bad a_told f_read f_side a_pile f_piled a_open f_opened f_joins f_had a_size a_capped a_connected a_bestCost a_bestCrosses a_bestPart a_part a_trees f_treeMany a_nodes f_nodeMany f_moveNode f_movePart f_moveFirst f_moveThen f_moveOther a_out f_outMany a_kept), (a_all, aI G 1276 g_all)] H locs → lv_has ls 4 [(0, .ref h0), (1, .int x1), (2, .int x2), (3, .int x3)] → W p l e (rmk 1) s m args below meth c H locs 0 0 Q (F0 m 2 ls []) := by
      intro n
      induction n with
      | zero =>
        intro x3 H locs ls hf
        exact lp_0 hf
      | succ n ih2 =>
        intro x3 H locs ls hf wq hl
        obtain ⟨hP, hD, hS⟩ := wq
        obtain ⟨r2, hf, hk2⟩ := lp_s hf
        have hf : R_isJoined_b2 N g_all x1 x2 x3 = some r2 := hf
        have hJ37 : ∀ (x3 : Int32) (H : Heap) (locs : List Loc) (ls : Array Slot), PDS G.1 classes A s [(h0, O_R f_raised a_all a_text a_saved a_undone f_undos f_reached f_length f_begin f_sort f_sign f_value f_word f_wrongAt f_badAt f_bad a_told f_read f_side a_pile f_piled a_open f_opened f_joins f_had a_size a_capped a_connected a_bestCost a_bestCrosses a_bestPart a_part a_trees f_treeMany a_nodes f_nodeMany f_moveNode f_movePart f_moveFirst f_moveThen f_moveOther a_out f_outMany a_kept), (a_all, aI G 1276 g_all)] H locs → lv_has ls 4 [(0, .ref h0), (1, .int x1), (2, .int x2), (3, .int x3)] → R_isJoined_37 N g_all x1 x2 x3 = some r2 → W p l e (rmk 1) s m args below meth c H locs 0 0 Q (F0 m 37 ls []) := by
          intro x3 H locs ls wq hl hf
          obtain ⟨hP, hD, hS⟩ := wq
          refine lv_aload_n hx hb d_R_isJoined_37 rfl (lv_at hl 0 rfl) ?_
          refine lv_iload_n hx hb d_R_isJoined_38 rfl (lv_at hl 3 rfl) ?_
          obtain ⟨t8, hv9, hf⟩ := db_e hf
          refine call_i (isC := [0, 1]) (run_V (As := [.int x3]) (rest := []) (ci := 12) (q0 := 0) hx hb hml hown htl (c_R_leftOf l G Y  h0 a_all a_text a_saved a_undone a_told a_pile a_open a_size a_capped a_connected a_bestCost a_bestCrosses a_bestPart a_part a_trees a_nodes a_out a_kept f_raised f_undos f_reached f_length f_begin f_sort f_sign f_value f_word f_wrongAt f_badAt f_bad f_read f_side f_piled f_opened f_joins f_had f_treeMany f_nodeMany f_moveNode f_movePart f_moveFirst f_moveThen f_moveOther f_outMany g_all x3 t8 hv9) mv_R_leftOf k_1512 (hRk (by decide) (by decide)) hK hsk hS hP hD (isC := [0, 1]) rfl (by decide) rfl rfl rfl hl.1 rfl (lv_room (Nat.le_of_ble_eq_true rfl)) d_R_isJoined_39) hP hD hS rfl rfl (fun H locs hP hD hS => ?_)
          have hP : va_P G.1 classes [(h0, O_R f_raised a_all a_text a_saved a_undone f_undos f_reached f_length f_begin f_sort f_sign f_value f_word f_wrongAt f_badAt f_bad a_told f_read f_side a_pile f_piled a_open f_opened f_joins f_had a_size a_capped a_connected a_bestCost a_bestCrosses a_bestPart a_part a_trees f_treeMany a_nodes f_nodeMany f_moveNode f_movePart f_moveFirst f_moveThen f_moveOther a_out f_outMany a_kept), (a_all, aI G 1276 g_all)] H := hP
          have hD : va_D A [(h0, O_R f_raised a_all a_text a_saved a_undone f_undos f_reached f_length f_begin f_sort f_sign f_value f_word f_wrongAt f_badAt f_bad a_told f_read f_side a_pile f_piled a_open f_opened f_joins f_had a_size a_capped a_connected a_bestCost a_bestCrosses a_bestPart a_part a_trees f_treeMany a_nodes f_nodeMany f_moveNode f_movePart f_moveFirst f_moveThen f_moveOther a_out f_outMany a_kept), (a_all, aI G 1276 g_all)] := hD
          refine lv_iload_n hx hb d_R_isJoined_42 rfl (lv_at hl 2 rfl) ?_
          refine call_i (isC := []) (run_S (As := [.int t8, .int x2]) (rest := []) hx hb hml hown htl (c_R_isIn l G Y  t8 x2 _ rfl) ms_R_isIn k_1470 (hRk (by decide) (by decide)) hK hsk hS hP hD (isC := []) rfl (by decide) rfl hl.1 rfl (lv_room (Nat.le_of_ble_eq_true rfl)) d_R_isJoined_43) hP hD hS rfl rfl (fun H locs hP hD hS => ?_)
          have hP : va_P G.1 classes [(h0, O_R f_raised a_all a_text a_saved a_undone f_undos f_reached f_length f_begin f_sort f_sign f_value f_word f_wrongAt f_badAt f_bad a_told f_read f_side a_pile f_piled a_open f_opened f_joins f_had a_size a_capped a_connected a_bestCost a_bestCrosses a_bestPart a_part a_trees f_treeMany a_nodes f_nodeMany f_moveNode f_movePart f_moveFirst f_moveThen f_moveOther a_out f_outMany a_kept), (a_all, aI G 1276 g_all)] H := hP
          have hD : va_D A [(h0, O_R f_raised a_all a_text a_saved a_undone f_undos f_reached f_length f_begin f_sort f_sign f_value f_word f_wrongAt f_badAt f_bad a_told f_read f_side a_pile f_piled a_open f_opened f_joins f_had a_size a_capped a_connected a_bestCost a_bestCrosses a_bestPart a_part a_trees f_treeMany a_nodes f_nodeMany f_moveNode f_movePart f_moveFirst f_moveThen f_moveOther a_out f_outMany a_kept), (a_all, aI G 1276 g_all)] := hD
          refine lv_if_eq (tgt := 63) hx hb d_R_isJoined_46 (by decide) (fun c10 => ?_) (fun c10 => ?_)
          · have hf := di_t c10 hf
            obtain ⟨v11, ev11⟩ : ∃ z : Int32, z = x3 + (1 : Int32) := ⟨_, rfl⟩
            have hf := dn_e ev11 hf
            refine lv_iinc (v := v11) (lv' := [(3, .int v11), (0, .ref h0), (1, .int x1), (2, .int x2)]) hx hb d_R_isJoined_63 hl (k := 3) rfl (by rw [ev11]; rfl) (by decide) rfl (fun ls hl => ?_)
            refine lv_goto (tgt := 2) hx hb d_R_isJoined_66 (by decide) ?_
            exact ih2 v11 H locs ls (lpk_i hf hk2) ⟨hP, hD, hS⟩ (lv_sub hl [1, 2, 3, 0] rfl)
          · have hf := di_f c10 hf
            refine lv_aload_n hx hb d_R_isJoined_49 rfl (lv_at hl 0 rfl) ?_
            refine lv_iload_n hx hb d_R_isJoined_50 rfl (lv_at hl 3 rfl) ?_
            obtain ⟨t12, hv13, hf⟩ := db_e hf
            refine call_i (isC := [0, 1]) (run_V (As := [.int x3]) (rest := []) (ci := 12) (q0 := 0) hx hb hml hown htl (c_R_rightOf l G Y  h0 a_all a_text a_saved a_undone a_told a_pile a_open a_size a_capped a_connected a_bestCost a_bestCrosses a_bestPart a_part a_trees a_nodes a_out a_kept f_raised f_undos f_reached f_length f_begin f_sort f_sign f_value f_word f_wrongAt f_badAt f_bad f_read f_side f_piled f_opened f_joins f_had f_treeMany f_nodeMany f_moveNode f_movePart f_moveFirst f_moveThen f_moveOther f_outMany g_all x3 t12 hv13) mv_R_rightOf k_1516 (hRk (by decide) (by decide)) hK hsk hS hP hD (isC := [0, 1]) rfl (by decide) rfl rfl rfl hl.1 rfl (lv_room (Nat.le_of_ble_eq_true rfl)) d_R_isJoined_51) hP hD hS rfl rfl (fun H locs hP hD hS => ?_)
            have hP : va_P G.1 classes [(h0, O_R f_raised a_all a_text a_saved a_undone f_undos f_reached f_length f_begin f_sort f_sign f_value f_word f_wrongAt f_badAt f_bad a_told f_read f_side a_pile f_piled a_open f_opened f_joins f_had a_size a_capped a_connected a_bestCost a_bestCrosses a_bestPart a_part a_trees f_treeMany a_nodes f_nodeMany f_moveNode f_movePart f_moveFirst f_moveThen f_moveOther a_out f_outMany a_kept), (a_all, aI G 1276 g_all)] H := hP
            have hD : va_D A [(h0, O_R f_raised a_all a_text a_saved a_undone f_undos f_reached f_length f_begin f_sort f_sign f_value f_word f_wrongAt f_badAt f_bad a_told f_read f_side a_pile f_piled a_open f_opened f_joins f_had a_size a_capped a_connected a_bestCost a_bestCrosses a_bestPart a_part a_trees f_treeMany a_nodes f_nodeMany f_moveNode f_movePart f_moveFirst f_moveThen f_moveOther a_out f_outMany a_kept), (a_all, aI G 1276 g_all)] := hD
            refine lv_iload_n hx hb d_R_isJoined_54 rfl (lv_at hl 1 rfl) ?_
            refine call_i (isC := []) (run_S (As := [.int t12, .int x1]) (rest := []) hx hb hml hown htl (c_R_isIn l G Y  t12 x1 _ rfl) ms_R_isIn k_1470 (hRk (by decide) (by decide)) hK hsk hS hP hD (isC := []) rfl (by decide) rfl hl.1 rfl (lv_room (Nat.le_of_ble_eq_true rfl)) d_R_isJoined_55) hP hD hS rfl rfl (fun H locs hP hD hS => ?_)
            have hP : va_P G.1 classes [(h0, O_R f_raised a_all a_text a_saved a_undone f_undos f_reached f_length f_begin f_sort f_sign f_value f_word f_wrongAt f_badAt f_bad a_told f_read f_side a_pile f_piled a_open f_opened f_joins f_had a_size a_capped a_connected a_bestCost a_bestCrosses a_bestPart a_part a_trees f_treeMany a_nodes f_nodeMany f_moveNode f_movePart f_moveFirst f_moveThen f_moveOther a_out f_outMany a_kept), (a_all, aI G 1276 g_all)] H := hP
            have hD : va_D A [(h0, O_R f_raised a_all a_text a_saved a_undone f_undos f_reached f_length f_begin f_sort f_sign f_value f_word f_wrongAt f_badAt f_bad a_told f_read f_side a_pile f_piled a_open f_opened f_joins f_had a_size a_capped a_connected a_bestCost a_bestCrosses a_bestPart a_part a_trees f_treeMany a_nodes f_nodeMany f_moveNode f_movePart f_moveFirst f_moveThen f_moveOther a_out f_outMany a_kept), (a_all, aI G 1276 g_all)] := hD
            refine lv_if_eq (tgt := 63) hx hb d_R_isJoined_58 (by decide) (fun c14 => ?_) (fun c14 => ?_)
            · have hf := di_t c14 hf
              obtain ⟨v15, ev15⟩ : ∃ z : Int32, z = x3 + (1 : Int32) := ⟨_, rfl⟩
              have hf := dn_e ev15 hf
              refine lv_iinc (v := v15) (lv' := [(3, .int v15), (0, .ref h0), (1, .int x1), (2, .int x2)]) hx hb d_R_isJoined_63 hl (k := 3) rfl (by rw [ev15]; rfl) (by decide) rfl (fun ls hl => ?_)
              refine lv_goto (tgt := 2) hx hb d_R_isJoined_66 (by decide) ?_
              exact ih2 v15 H locs ls (lpk_i hf hk2) ⟨hP, hD, hS⟩ (lv_sub hl [1, 2, 3, 0] rfl)
            · have hf := di_f c14 hf
              have hq2 := lpk_x hf hk2
              have hf := ex_y (f := fun y => R_isJoined_a2 N g_all x1 x2 y) hq2 hfo2
              have hf : R_isJoined_61 N g_all = some res := hf
              exact hJ61  H locs ls ⟨hP, hD, hS⟩ (lv_sub hl [] rfl) hf
        refine lv_iload_n hx hb d_R_isJoined_2 rfl (lv_at hl 3 rfl) ?_
        refine lv_aload_n hx hb d_R_isJoined_3 rfl (lv_at hl 0 rfl) ?_
        refine va_get (D := G.1) (ci := 12) (v := .ref a_all) (C := n_R) (T := T_R) (N := 44) hx hb htl iw_R hown hK hP 0 rfl rfl 1 (by decide) (htl _ k_1197) (fun _ h9 => h9) rfl d_R_isJoined_4 ?_
        refine lv_bipush (v := (9 : Int32)) hx hb d_R_isJoined_7 (by decide) ?_
        refine va_iald hx hb hK hP 1 1 rfl rfl (vp_lit (by decide)) d_R_isJoined_9 ?_
        refine lv_icmp_ge (tgt := 69) hx hb d_R_isJoined_10 (by decide) (fun c1 => ?_) (fun c1 => ?_)
        · have hf := di_t c1 hf
          have hq2 := lpk_x hf hk2
          have hf := ex_y (f := fun y => R_isJoined_a2 N g_all x1 x2 y) hq2 hfo2
          have hf : R_isJoined_69 N g_all = some res := hf
          exact hJ69  H locs ls ⟨hP, hD, hS⟩ (lv_sub hl [] rfl) hf
        · have hf := di_f c1 hf
          refine lv_aload_n hx hb d_R_isJoined_13 rfl (lv_at hl 0 rfl) ?_
          refine lv_iload_n hx hb d_R_isJoined_14 rfl (lv_at hl 3 rfl) ?_
          obtain ⟨t2, hv3, hf⟩ := db_e hf
          refine call_i (isC := [0, 1]) (run_V (As := [.int x3]) (rest := []) (ci := 12) (q0 := 0) hx hb hml hown htl (c_R_leftOf l G Y  h0 a_all a_text a_saved a_undone a_told a_pile a_open a_size a_capped a_connected a_bestCost a_bestCrosses a_bestPart a_part a_trees a_nodes a_out a_kept f_raised f_undos f_reached f_length f_begin f_sort f_sign f_value f_word f_wrongAt f_badAt f_bad f_read f_side f_piled f_opened f_joins f_had f_treeMany f_nodeMany f_moveNode f_movePart f_moveFirst f_moveThen f_moveOther f_outMany g_all x3 t2 hv3) mv_R_leftOf k_1512 (hRk (by decide) (by decide)) hK hsk hS hP hD (isC := [0, 1]) rfl (by decide) rfl rfl rfl hl.1 rfl (lv_room (Nat.le_of_ble_eq_true rfl)) d_R_isJoined_15) hP hD hS rfl rfl (fun H locs hP hD hS => ?_)
          have hP : va_P G.1 classes [(h0, O_R f_raised a_all a_text a_saved a_undone f_undos f_reached f_length f_begin f_sort f_sign f_value f_word f_wrongAt f_badAt f_bad a_told f_read f_side a_pile f_piled a_open f_opened f_joins f_had a_size a_capped a_connected a_bestCost a_bestCrosses a_bestPart a_part a_trees f_treeMany a_nodes f_nodeMany f_moveNode f_movePart f_moveFirst f_moveThen f_moveOther a_out f_outMany a_kept), (a_all, aI G 1276 g_all)] H := hP
          have hD : va_D A [(h0, O_R f_raised a_all a_text a_saved a_undone f_undos f_reached f_length f_begin f_sort f_sign f_value f_word f_wrongAt f_badAt f_bad a_told f_read f_side a_pile f_piled a_open f_opened f_joins f_had a_size a_capped a_connected a_bestCost a_bestCrosses a_bestPart a_part a_trees f_treeMany a_nodes f_nodeMany f_moveNode f_movePart f_moveFirst f_moveThen f_moveOther a_out f_outMany a_kept), (a_all, aI G 1276 g_all)] := hD
          refine lv_iload_n hx hb d_R_isJoined_18 rfl (lv_at hl 1 rfl) ?_
          refine call_i (isC := []) (run_S (As := [.int t2, .int x1]) (rest := []) hx hb hml hown htl (c_R_isIn l G Y  t2 x1 _ rfl) ms_R_isIn k_1470 (hRk (by decide) (by decide)) hK hsk hS hP hD (isC := []) rfl (by decide) rfl hl.1 rfl (lv_room (Nat.le_of_ble_eq_true rfl)) d_R_isJoined_19) hP hD hS rfl rfl (fun H locs hP hD hS => ?_)
          have hP : va_P G.1 classes [(h0, O_R f_raised a_all a_text a_saved a_undone f_undos f_reached f_length f_begin f_sort f_sign f_value f_word f_wrongAt f_badAt f_bad a_told f_read f_side a_pile f_piled a_open f_opened f_joins f_had a_size a_capped a_connected a_bestCost a_bestCrosses a_bestPart a_part a_trees f_treeMany a_nodes f_nodeMany f_moveNode f_movePart f_moveFirst f_moveThen f_moveOther a_out f_outMany a_kept), (a_all, aI G 1276 g_all)] H := hP
          have hD : va_D A [(h0, O_R f_raised a_all a_text a_saved a_undone f_undos f_reached f_length f_begin f_sort f_sign f_value f_word f_wrongAt f_badAt f_bad a_told f_read f_side a_pile f_piled a_open f_opened f_joins f_had a_size a_capped a_connected a_bestCost a_bestCrosses a_bestPart a_part a_trees f_treeMany a_nodes f_nodeMany f_moveNode f_movePart f_moveFirst f_moveThen f_moveOther a_out f_outMany a_kept), (a_all, aI G 1276 g_all)] := hD
          refine lv_if_eq (tgt := 37) hx hb d_R_isJoined_22 (by decide) (fun c4 => ?_) (fun c4 => ?_)
          · have hf := di_t c4 hf
            exact hJ37 x3 H locs ls ⟨hP, hD, hS⟩ (lv_sub hl [0, 1, 2, 3] rfl) hf
          · have hf := di_f c4 hf
            refine lv_aload_n hx hb d_R_isJoined_25 rfl (lv_at hl 0 rfl) ?_
            refine lv_iload_n hx hb d_R_isJoined_26 rfl (lv_at hl 3 rfl) ?_
            obtain ⟨t5, hv6, hf⟩ := db_e hf
            refine call_i (isC := [0, 1]) (run_V (As := [.int x3]) (rest := []) (ci := 12) (q0 := 0) hx hb hml hown htl (c_R_rightOf l G Y  h0 a_all a_text a_saved a_undone a_told a_pile a_open a_size a_capped a_connected a_bestCost a_bestCrosses a_bestPart a_part a_trees a_nodes a_out a_kept f_raised f_undos f_reached f_length f_begin f_sort f_sign f_value f_word f_wrongAt f_badAt f_bad f_read f_side f_piled f_opened f_joins f_had f_treeMany f_nodeMany f_moveNode f_movePart f_moveFirst f_moveThen f_moveOther f_outMany g_all x3 t5 hv6) mv_R_rightOf k_1516 (hRk (by decide) (by decide)) hK hsk hS hP hD (isC := [0, 1]) rfl (by decide) rfl rfl rfl hl.1 rfl (lv_room (Nat.le_of_ble_eq_true rfl)) d_R_isJoined_27) hP hD hS rfl rfl (fun H locs hP hD hS => ?_)
            have hP : va_P G.1 classes [(h0, O_R f_raised a_all a_text a_saved a_undone f_undos f_reached f_length f_begin f_sort f_sign f_value f_word f_wrongAt f_badAt f_bad a_told f_read f_side a_pile f_piled a_open f_opened f_joins f_had a_size a_capped a_connected a_bestCost a_bestCrosses a_bestPart a_part a_trees f_treeMany a_nodes f_nodeMany f_moveNode f_movePart f_moveFirst f_moveThen f_moveOther a_out f_outMany a_kept), (a_all, aI G 1276 g_all)] H := hP
            have hD : va_D A [(h0, O_R f_raised a_all a_text a_saved a_undone f_undos f_reached f_length f_begin f_sort f_sign f_value f_word f_wrongAt f_badAt f_bad a_told f_read f_side a_pile f_piled a_open f_opened f_joins f_had a_size a_capped a_connected a_bestCost a_bestCrosses a_bestPart a_part a_trees f_treeMany a_nodes f_nodeMany f_moveNode f_movePart f_moveFirst f_moveThen f_moveOther a_out f_outMany a_kept), (a_all, aI G 1276 g_all)] := hD
            refine lv_iload_n hx hb d_R_isJoined_30 rfl (lv_at hl 2 rfl) ?_
            refine call_i (isC := []) (run_S (As := [.int t5, .int x2]) (rest := []) hx hb hml hown htl (c_R_isIn l G Y  t5 x2 _ rfl) ms_R_isIn k_1470 (hRk (by decide) (by decide)) hK hsk hS hP hD (isC := []) rfl (by decide) rfl hl.1 rfl (lv_room (Nat.le_of_ble_eq_true rfl)) d_R_isJoined_31) hP hD hS rfl rfl (fun H locs hP hD hS => ?_)
            have hP : va_P G.1 classes [(h0, O_R f_raised a_all a_text a_saved a_undone f_undos f_reached f_length f_begin f_sort f_sign f_value f_word f_wrongAt f_badAt f_bad a_told f_read f_side a_pile f_piled a_open f_opened f_joins f_had a_size a_capped a_connected a_bestCost a_bestCrosses a_bestPart a_part a_trees f_treeMany a_nodes f_nodeMany f_moveNode f_movePart f_moveFirst f_moveThen f_moveOther a_out f_outMany a_kept), (a_all, aI G 1276 g_all)] H := hP
            have hD : va_D A [(h0, O_R f_raised a_all a_text a_saved a_undone f_undos f_reached f_length f_begin f_sort f_sign f_value f_word f_wrongAt f_badAt f_bad a_told f_read f_side a_pile f_piled a_open f_opened f_joins f_had a_size a_capped a_connected a_bestCost a_bestCrosses a_bestPart a_part a_trees f_treeMany a_nodes f_nodeMany f_moveNode f_movePart f_moveFirst f_moveThen f_moveOther a_out f_outMany a_kept), (a_all, aI G 1276 g_all)] := hD
            refine lv_if_ne (tgt := 61) hx hb d_R_isJoined_34 (by decide) (fun c7 => ?_) (fun c7 => ?_)
            · have hf := di_f c7 hf
              have hq2 := lpk_x hf hk2
              have hf := ex_y (f := fun y => R_isJoined_a2 N g_all x1 x2 y) hq2 hfo2
              have hf : R_isJoined_61 N g_all = some res := hf
              exact hJ61  H locs ls ⟨hP, hD, hS⟩ (lv_sub hl [] rfl) hf
            · have hf := di_t c7 hf
              exact hJ37 x3 H locs ls ⟨hP, hD, hS⟩ (lv_sub hl [0, 1, 2, 3] rfl) hf
    exact hL2 N x3 H locs ls hy2 ⟨hP, hD, hS⟩ hl
  refine lv_iconst (v := (0 : Int32)) hx hb d_R_isJoined_0 (by decide) ?_
  refine lv_istore_n (lv' := [(3, .int (0 : Int32)), (0, .ref h0), (1, .int x1), (2, .int x2)]) hx hb d_R_isJoined_1 rfl hl (by decide) rfl (fun ls hl => ?_)
  exact hJ2 (0 : Int32) H locs ls ⟨hP, hD, hS⟩ (lv_sub hl [1, 2, 3, 0] rfl) hf
set_option maxHeartbeats 4000000 in
set_option maxRecDepth 100000 in
theorem c_R_laysSize (l : Launch) (G : va_G × (Nat → ClassId)) (Y : (Nat → Nat) × (Nat → Nat)) (h0 : Nat) (a_all : Nat) (a_text : Nat) (a_saved : Nat) (a_undone : Nat) (a_told : Nat) (a_pile : Nat) (a_open : Nat) (a_size : Nat) (a_capped : Nat) (a_connected : Nat) (a_bestCost : Nat) (a_bestCrosses : Nat) (a_bestPart : Nat) (a_part : Nat) (a_trees : Nat) (a_nodes : Nat) (a_out : Nat) (a_kept : Nat) (f_raised : Int32) (f_undos : Int32) (f_reached : Int32) (f_length : Int32) (f_begin : Int32) (f_sort : Int32) (f_sign : Int32) (f_value : Int32) (f_word : Int64) (f_wrongAt : Int32) (f_badAt : Int32) (f_bad : Int32) (f_read : Int32) (f_side : Int32) (f_piled : Int32) (f_opened : Int32) (f_joins : Int32) (f_had : Int32) (f_treeMany : Int32) (f_nodeMany : Int32) (f_moveNode : Int32) (f_movePart : Int32) (f_moveFirst : Int32) (f_moveThen : Int32) (f_moveOther : Int32) (f_outMany : Int32) (g_all : Nat → Int32) (g_capped : Nat → Int32) (g_size : Nat → Int64) (x1 : Int32) (N : Nat) (res : (Nat → Int32) × (Nat → Int64)) (hf : R_laysSize N g_all g_capped g_size x1 = some res) : Cv l classes y_R_laysSize b_R_laysSize 11 none (rmk 1) G.1 (tyL G) Y [.ref h0, .int x1] [(h0, O_R f_raised a_all a_text a_saved a_undone f_undos f_reached f_length f_begin f_sort f_sign f_value f_word f_wrongAt f_badAt f_bad a_told f_read f_side a_pile f_piled a_open f_opened f_joins f_had a_size a_capped a_connected a_bestCost a_bestCrosses a_bestPart a_part a_trees f_treeMany a_nodes f_nodeMany f_moveNode f_movePart f_moveFirst f_moveThen f_moveOther a_out f_outMany a_kept), (a_all, aI G 1276 g_all), (a_capped, aZ G 256 g_capped), (a_size, aJ G 256 g_size)] [(h0, O_R f_raised a_all a_text a_saved a_undone f_undos f_reached f_length f_begin f_sort f_sign f_value f_word f_wrongAt f_badAt f_bad a_told f_read f_side a_pile f_piled a_open f_opened f_joins f_had a_size a_capped a_connected a_bestCost a_bestCrosses a_bestPart a_part a_trees f_treeMany a_nodes f_nodeMany f_moveNode f_movePart f_moveFirst f_moveThen f_moveOther a_out f_outMany a_kept), (a_all, aI G 1276 g_all), (a_capped, aZ G 256 res.1), (a_size, aJ G 256 res.2)] := by
  refine entV (by decide) (Nat.le_of_ble_eq_true rfl) ?_
  intro p e s m args below meth c ls A Q hx hb hml hown htl hK hsk wq hl hret
  obtain ⟨hP, hD, hS⟩ := wq
  have hl : lv_has ls 11 [(0, .ref h0), (1, .int x1)] := hl
  have hS : va_S A s.heap s.heap [] := hS
  obtain ⟨H, hH⟩ : ∃ H : Heap, H = s.heap := ⟨_, rfl⟩
  obtain ⟨locs, hlocs⟩ : ∃ z : List Loc, z = [] := ⟨_, rfl⟩
  rw [← hH] at hP
  replace hS : va_S A s.heap H locs := by rw [hH, hlocs]; exact hS
  suffices hgo : W p l e (rmk 1) s m args below meth c H locs 0 0 Q (F0 m 0 ls []) by rw [hH, hlocs] at hgo; exact hgo
  have hJ198 : ∀ (g_capped : Nat → Int32) (g_size : Nat → Int64) (x2 : Int64) (x4 : Int32) (H : Heap) (locs : List Loc) (ls : Array Slot), PDS G.1 classes A s [(h0, O_R f_raised a_all a_text a_saved a_undone f_undos f_reached f_length f_begin f_sort f_sign f_value f_word f_wrongAt f_badAt f_bad a_told f_read f_side a_pile f_piled a_open f_opened f_joins f_had a_size a_capped a_connected a_bestCost a_bestCrosses a_bestPart a_part a_trees f_treeMany a_nodes f_nodeMany f_moveNode f_movePart f_moveFirst f_moveThen f_moveOther a_out f_outMany a_kept), (a_all, aI G 1276 g_all), (a_capped, aZ G 256 g_capped), (a_size, aJ G 256 g_size)] H locs → lv_has ls 11 [(0, .ref h0), (1, .int x1), (2, .long x2), (4, .int x4)] → R_laysSize_198 N g_all g_capped g_size x1 x2 x4 = some res → W p l e (rmk 1) s m args below meth c H locs 0 0 Q (F0 m 198 ls []) := by
    intro g_capped g_size x2 x4 H locs ls wq hl hf
    obtain ⟨hP, hD, hS⟩ := wq
    refine lv_aload_n hx hb d_R_laysSize_198 rfl (lv_at hl 0 rfl) ?_
    refine va_get (D := G.1) (ci := 12) (v := .ref a_size) (C := n_R) (T := T_R) (N := 44) hx hb htl iw_R hown hK hP 0 rfl rfl 25 (by decide) (htl _ k_1221) (fun _ h9 => h9) rfl d_R_laysSize_199 ?_
    refine lv_iload_n hx hb d_R_laysSize_202 rfl (lv_at hl 1 rfl) ?_
    refine lv_lload_n hx hb d_R_laysSize_203 rfl (lv_at hl 2 rfl) ?_
    obtain ⟨c28, hf⟩ := dk_e hf
    refine nx_last hx hb hK hP hD hS 3 2 rfl rfl c28 d_R_laysSize_204 (fun v29 ev29 H locs hP hD hS => ?_)
    have hf := dn_e ev29 hf
    have hP : va_P G.1 classes [(h0, O_R f_raised a_all a_text a_saved a_undone f_undos f_reached f_length f_begin f_sort f_sign f_value f_word f_wrongAt f_badAt f_bad a_told f_read f_side a_pile f_piled a_open f_opened f_joins f_had a_size a_capped a_connected a_bestCost a_bestCrosses a_bestPart a_part a_trees f_treeMany a_nodes f_nodeMany f_moveNode f_movePart f_moveFirst f_moveThen f_moveOther a_out f_outMany a_kept), (a_all, aI G 1276 g_all), (a_capped, aZ G 256 g_capped), (a_size, aJ G 256 v29)] H := hP
    have hD : va_D A [(h0, O_R f_raised a_all a_text a_saved a_undone f_undos f_reached f_length f_begin f_sort f_sign f_value f_word f_wrongAt f_badAt f_bad a_told f_read f_side a_pile f_piled a_open f_opened f_joins f_had a_size a_capped a_connected a_bestCost a_bestCrosses a_bestPart a_part a_trees f_treeMany a_nodes f_nodeMany f_moveNode f_movePart f_moveFirst f_moveThen f_moveOther a_out f_outMany a_kept), (a_all, aI G 1276 g_all), (a_capped, aZ G 256 g_capped), (a_size, aJ G 256 v29)] := hD
    refine lv_aload_n hx hb d_R_laysSize_205 rfl (lv_at hl 0 rfl) ?_
    refine va_get (D := G.1) (ci := 12) (v := .ref a_capped) (C := n_R) (T := T_R) (N := 44) hx hb htl iw_R hown hK hP 0 rfl rfl 26 (by decide) (htl _ k_1222) (fun _ h9 => h9) rfl d_R_laysSize_206 ?_
    refine lv_iload_n hx hb d_R_laysSize_209 rfl (lv_at hl 1 rfl) ?_
    refine lv_iload hx hb d_R_laysSize_210 (lv_at hl 3 rfl) ?_
    refine nx_zast hx hb hK hP hD hS 2 3 rfl rfl c28 d_R_laysSize_212 (fun v30 ev30 H locs hP hD hS => ?_)
    have hf := dn_e ev30 hf
    have hP : va_P G.1 classes [(h0, O_R f_raised a_all a_text a_saved a_undone f_undos f_reached f_length f_begin f_sort f_sign f_value f_word f_wrongAt f_badAt f_bad a_told f_read f_side a_pile f_piled a_open f_opened f_joins f_had a_size a_capped a_connected a_bestCost a_bestCrosses a_bestPart a_part a_trees f_treeMany a_nodes f_nodeMany f_moveNode f_movePart f_moveFirst f_moveThen f_moveOther a_out f_outMany a_kept), (a_all, aI G 1276 g_all), (a_capped, aZ G 256 v30), (a_size, aJ G 256 v29)] H := hP
    have hD : va_D A [(h0, O_R f_raised a_all a_text a_saved a_undone f_undos f_reached f_length f_begin f_sort f_sign f_value f_word f_wrongAt f_badAt f_bad a_told f_read f_side a_pile f_piled a_open f_opened f_joins f_had a_size a_capped a_connected a_bestCost a_bestCrosses a_bestPart a_part a_trees f_treeMany a_nodes f_nodeMany f_moveNode f_movePart f_moveFirst f_moveThen f_moveOther a_out f_outMany a_kept), (a_all, aI G 1276 g_all), (a_capped, aZ G 256 v30), (a_size, aJ G 256 v29)] := hD
    cases hf
    exact hret 213 ls H locs hP hS d_R_laysSize_213
  have hJ11 : ∀ (g_capped : Nat → Int32) (g_size : Nat → Int64) (x2 : Int64) (x4 : Int32) (x5 : Int32) (x6 : Int32) (H : Heap) (locs : List Loc) (ls : Array Slot), PDS G.1 classes A s [(h0, O_R f_raised a_all a_text a_saved a_undone f_undos f_reached f_length f_begin f_sort f_sign f_value f_word f_wrongAt f_badAt f_bad a_told f_read f_side a_pile f_piled a_open f_opened f_joins f_had a_size a_capped a_connected a_bestCost a_bestCrosses a_bestPart a_part a_trees f_treeMany a_nodes f_nodeMany f_moveNode f_movePart f_moveFirst f_moveThen f_moveOther a_out f_outMany a_kept), (a_all, aI G 1276 g_all), (a_capped, aZ G 256 g_capped), (a_size, aJ G 256 g_size)] H locs → lv_has ls 11 [(0, .ref h0), (1, .int x1), (2, .long x2), (4, .int x4), (5, .int x5), (6, .int x6)] → R_laysSize_11 N g_all g_capped g_size x1 x2 x4 x5 x6 = some res → W p l e (rmk 1) s m args below meth c H locs 0 0 Q (F0 m 11 ls []) := by
    intro g_capped g_size x2 x4 x5 x6 H locs ls wq hl hf
    obtain ⟨hP, hD, hS⟩ := wq
    obtain ⟨y11, hy11, hfo11⟩ := db_e hf
    have hL11 : ∀ (n : Nat) (x2 : Int64) (x4 : Int32) (x5 : Int32) (x6 : Int32) (H : Heap) (locs : List Loc) (ls : Array Slot), lp (fun x => R_laysSize_b11 N g_all g_capped g_size x1 x.1 x.2.1 x.2.2.1 x.2.2.2) n (x2, x4, x5, x6) = some y11 → PDS G.1 classes A s [(h0, O_R f_raised a_all a_text a_saved a_undone f_undos f_reached f_length f_begin f_sort f_sign f_value f_word f_wrongAt f_badAt f_bad a_told f_read f_side a_pile f_piled a_open f_opened f_joins f_had a_size a_capped a_connected a_bestCost a_bestCrosses a_bestPart a_part a_trees f_treeMany a_nodes f_nodeMany f_moveNode f_movePart f_moveFirst f_moveThen f_moveOther a_out f_outMany a_kept), (a_all, aI G 1276 g_all), (a_capped, aZ G 256 g_capped), (a_size, aJ G 256 g_size)] H locs → lv_has ls 11 [(0, .ref h0), (1, .int x1), (2, .long x2), (4, .int x4), (5, .int x5), (6, .int x6)] → W p l e (rmk 1) s m args below meth c H locs 0 0 Q (F0 m 11 ls []) := by
      intro n
      induction n with
      | zero =>
        intro x2 x4 x5 x6 H locs ls hf
        exact lp_0 hf
      | succ n ih11 =>
        intro x2 x4 x5 x6 H locs ls hf wq hl
        obtain ⟨hP, hD, hS⟩ := wq
        obtain ⟨r11, hf, hk11⟩ := lp_s hf
        have hf : R_laysSize_b11 N g_all g_capped g_size x1 x2 x4 x5 x6 = some r11 := hf
        have hJ192 : ∀ (x2 : Int64) (x4 : Int32) (x5 : Int32) (x6 : Int32) (H : Heap) (locs : List Loc) (ls : Array Slot), PDS G.1 classes A s [(h0, O_R f_raised a_all a_text a_saved a_undone f_undos f_reached f_length f_begin f_sort f_sign f_value f_word f_wrongAt f_badAt f_bad a_told f_read f_side a_pile f_piled a_open f_opened f_joins f_had a_size a_capped a_connected a_bestCost a_bestCrosses a_bestPart a_part a_trees f_treeMany a_nodes f_nodeMany f_moveNode f_movePart f_moveFirst f_moveThen f_moveOther a_out f_outMany a_kept), (a_all, aI G 1276 g_all), (a_capped, aZ G 256 g_capped), (a_size, aJ G 256 g_size)] H locs → lv_has ls 11 [(0, .ref h0), (1, .int x1), (2, .long x2), (4, .int x4), (5, .int x5), (6, .int x6)] → R_laysSize_192 N g_all g_capped g_size x1 x2 x4 x5 x6 = some r11 → W p l e (rmk 1) s m args below meth c H locs 0 0 Q (F0 m 192 ls []) := by
          intro x2 x4 x5 x6 H locs ls wq hl hf
          obtain ⟨hP, hD, hS⟩ := wq
          obtain ⟨v6, ev6⟩ : ∃ z : Int32, z = x6 + (1 : Int32) := ⟨_, rfl⟩
          have hf := dn_e ev6 hf
          refine lv_iinc (v := v6) (lv' := [(6, .int v6), (0, .ref h0), (1, .int x1), (2, .long x2), (4, .int x4), (5, .int x5)]) hx hb d_R_laysSize_192 hl (k := 5) rfl (by rw [ev6]; rfl) (by decide) rfl (fun ls hl => ?_)
          refine lv_goto (tgt := 11) hx hb d_R_laysSize_195 (by decide) ?_
          exact ih11 x2 x4 x5 v6 H locs ls (lpk_i hf hk11) ⟨hP, hD, hS⟩ (lv_sub hl [1, 2, 3, 4, 5, 0] rfl)
        have hJ117 : ∀ (x2 : Int64) (x4 : Int32) (x5 : Int32) (x6 : Int32) (x8 : Int32) (x9 : Int32) (H : Heap) (locs : List Loc) (ls : Array Slot), PDS G.1 classes A s [(h0, O_R f_raised a_all a_text a_saved a_undone f_undos f_reached f_length f_begin f_sort f_sign f_value f_word f_wrongAt f_badAt f_bad a_told f_read f_side a_pile f_piled a_open f_opened f_joins f_had a_size a_capped a_connected a_bestCost a_bestCrosses a_bestPart a_part a_trees f_treeMany a_nodes f_nodeMany f_moveNode f_movePart f_moveFirst f_moveThen f_moveOther a_out f_outMany a_kept), (a_all, aI G 1276 g_all), (a_capped, aZ G 256 g_capped), (a_size, aJ G 256 g_size)] H locs → lv_has ls 11 [(0, .ref h0), (1, .int x1), (2, .long x2), (4, .int x4), (5, .int x5), (6, .int x6), (8, .int x8), (9, .int x9)] → R_laysSize_117 N g_all g_capped g_size x1 x2 x4 x5 x6 x8 x9 = some r11 → W p l e (rmk 1) s m args below meth c H locs 0 0 Q (F0 m 117 ls []) := by
          intro x2 x4 x5 x6 x8 x9 H locs ls wq hl hf
          obtain ⟨hP, hD, hS⟩ := wq
          obtain ⟨y117, hy117, hfo117⟩ := db_e hf
          have hL117 : ∀ (n : Nat) (x2 : Int64) (x9 : Int32) (H : Heap) (locs : List Loc) (ls : Array Slot), lp (fun x => R_laysSize_b117 N g_all g_capped g_size x1 x.1 x4 x5 x6 x8 x.2) n (x2, x9) = some y117 → PDS G.1 classes A s [(h0, O_R f_raised a_all a_text a_saved a_undone f_undos f_reached f_length f_begin f_sort f_sign f_value f_word f_wrongAt f_badAt f_bad a_told f_read f_side a_pile f_piled a_open f_opened f_joins f_had a_size a_capped a_connected a_bestCost a_bestCrosses a_bestPart a_part a_trees f_treeMany a_nodes f_nodeMany f_moveNode f_movePart f_moveFirst f_moveThen f_moveOther a_out f_outMany a_kept), (a_all, aI G 1276 g_all), (a_capped, aZ G 256 g_capped), (a_size, aJ G 256 g_size)] H locs → lv_has ls 11 [(0, .ref h0), (1, .int x1), (2, .long x2), (4, .int x4), (5, .int x5), (6, .int x6), (8, .int x8), (9, .int x9)] → W p l e (rmk 1) s m args below meth c H locs 0 0 Q (F0 m 117 ls []) := by
            intro n
            induction n with
            | zero =>
              intro x2 x9 H locs ls hf
              exact lp_0 hf
            | succ n ih117 =>
              intro x2 x9 H locs ls hf wq hl
              obtain ⟨hP, hD, hS⟩ := wq
              obtain ⟨r117, hf, hk117⟩ := lp_s hf
              have hf : R_laysSize_b117 N g_all g_capped g_size x1 x2 x4 x5 x6 x8 x9 = some r117 := hf
              have hJ185 : ∀ (x9 : Int32) (z0 : Int64) (H : Heap) (locs : List Loc) (ls : Array Slot), PDS G.1 classes A s [(h0, O_R f_raised a_all a_text a_saved a_undone f_undos f_reached f_length f_begin f_sort f_sign f_value f_word f_wrongAt f_badAt f_bad a_told f_read f_side a_pile f_piled a_open f_opened f_joins f_had a_size a_capped a_connected a_bestCost a_bestCrosses a_bestPart a_part a_trees f_treeMany a_nodes f_nodeMany f_moveNode f_movePart f_moveFirst f_moveThen f_moveOther a_out f_outMany a_kept), (a_all, aI G 1276 g_all), (a_capped, aZ G 256 g_capped), (a_size, aJ G 256 g_size)] H locs → lv_has ls 11 [(0, .ref h0), (1, .int x1), (4, .int x4), (5, .int x5), (6, .int x6), (8, .int x8), (9, .int x9)] → R_laysSize_185 N g_all g_capped g_size x1 x4 x5 x6 x8 x9 z0 = some r117 → W p l e (rmk 1) s m args below meth c H locs 0 0 Q (F0 m 185 ls [.long z0]) := by
                intro x9 z0 H locs ls wq hl hf
                obtain ⟨hP, hD, hS⟩ := wq
                refine lv_lstore_n (lv' := [(2, .long z0), (0, .ref h0), (1, .int x1), (4, .int x4), (5, .int x5), (6, .int x6), (8, .int x8), (9, .int x9)]) hx hb d_R_laysSize_185 rfl hl (by decide) rfl (fun ls hl => ?_)
                obtain ⟨v27, ev27⟩ : ∃ z : Int32, z = x9 + (1 : Int32) := ⟨_, rfl⟩
                have hf := dn_e ev27 hf
                refine lv_iinc (v := v27) (lv' := [(9, .int v27), (2, .long z0), (0, .ref h0), (1, .int x1), (4, .int x4), (5, .int x5), (6, .int x6), (8, .int x8)]) hx hb d_R_laysSize_186 hl (k := 7) rfl (by rw [ev27]; rfl) (by decide) rfl (fun ls hl => ?_)
                refine lv_goto (tgt := 117) hx hb d_R_laysSize_189 (by decide) ?_
                exact ih117 z0 v27 H locs ls (lpk_i hf hk117) ⟨hP, hD, hS⟩ (lv_sub hl [2, 3, 1, 4, 5, 6, 7, 0] rfl)
              refine lv_iload hx hb d_R_laysSize_117 (lv_at hl 7 rfl) ?_
              refine lv_aload_n hx hb d_R_laysSize_119 rfl (lv_at hl 0 rfl) ?_
              refine va_get (D := G.1) (ci := 12) (v := .ref a_all) (C := n_R) (T := T_R) (N := 44) hx hb htl iw_R hown hK hP 0 rfl rfl 1 (by decide) (htl _ k_1197) (fun _ h9 => h9) rfl d_R_laysSize_120 ?_
              refine lv_bipush (v := (9 : Int32)) hx hb d_R_laysSize_123 (by decide) ?_
              refine va_iald hx hb hK hP 1 1 rfl rfl (vp_lit (by decide)) d_R_laysSize_125 ?_
              refine lv_icmp_ge (tgt := 192) hx hb d_R_laysSize_126 (by decide) (fun c12 => ?_) (fun c12 => ?_)
              · have hf := di_t c12 hf
                have hq117 := lpk_x hf hk117
                have hf := ex_y (f := fun y => R_laysSize_a117 N g_all g_capped g_size x1 x4 x5 x6 x8 y) hq117 hfo117
                have hf : R_laysSize_192 N g_all g_capped g_size x1 x2 x4 x5 x6 = some r11 := hf
                exact hJ192 x2 x4 x5 x6 H locs ls ⟨hP, hD, hS⟩ (lv_sub hl [0, 1, 2, 3, 4, 5] rfl) hf
              · have hf := di_f c12 hf
                refine lv_aload_n hx hb d_R_laysSize_129 rfl (lv_at hl 0 rfl) ?_
                refine lv_iload hx hb d_R_laysSize_130 (lv_at hl 7 rfl) ?_
                obtain ⟨t13, hv14, hf⟩ := db_e hf
                refine call_i (isC := [0, 1]) (run_V (As := [.int x9]) (rest := []) (ci := 12) (q0 := 0) hx hb hml hown htl (c_R_leftOf l G Y  h0 a_all a_text a_saved a_undone a_told a_pile a_open a_size a_capped a_connected a_bestCost a_bestCrosses a_bestPart a_part a_trees a_nodes a_out a_kept f_raised f_undos f_reached f_length f_begin f_sort f_sign f_value f_word f_wrongAt f_badAt f_bad f_read f_side f_piled f_opened f_joins f_had f_treeMany f_nodeMany f_moveNode f_movePart f_moveFirst f_moveThen f_moveOther f_outMany g_all x9 t13 hv14) mv_R_leftOf k_1512 (hRk (by decide) (by decide)) hK hsk hS hP hD (isC := [0, 1]) rfl (by decide) rfl rfl rfl hl.1 rfl (lv_room (Nat.le_of_ble_eq_true rfl)) d_R_laysSize_132) hP hD hS rfl rfl (fun H locs hP hD hS => ?_)
                have hP : va_P G.1 classes [(h0, O_R f_raised a_all a_text a_saved a_undone f_undos f_reached f_length f_begin f_sort f_sign f_value f_word f_wrongAt f_badAt f_bad a_told f_read f_side a_pile f_piled a_open f_opened f_joins f_had a_size a_capped a_connected a_bestCost a_bestCrosses a_bestPart a_part a_trees f_treeMany a_nodes f_nodeMany f_moveNode f_movePart f_moveFirst f_moveThen f_moveOther a_out f_outMany a_kept), (a_all, aI G 1276 g_all), (a_capped, aZ G 256 g_capped), (a_size, aJ G 256 g_size)] H := hP
                have hD : va_D A [(h0, O_R f_raised a_all a_text a_saved a_undone f_undos f_reached f_length f_begin f_sort f_sign f_value f_word f_wrongAt f_badAt f_bad a_told f_read f_side a_pile f_piled a_open f_opened f_joins f_had a_size a_capped a_connected a_bestCost a_bestCrosses a_bestPart a_part a_trees f_treeMany a_nodes f_nodeMany f_moveNode f_movePart f_moveFirst f_moveThen f_moveOther a_out f_outMany a_kept), (a_all, aI G 1276 g_all), (a_capped, aZ G 256 g_capped), (a_size, aJ G 256 g_size)] := hD
                refine lv_aload_n hx hb d_R_laysSize_135 rfl (lv_at hl 0 rfl) ?_
                refine lv_iload hx hb d_R_laysSize_136 (lv_at hl 7 rfl) ?_
                obtain ⟨t15, hv16, hf⟩ := db_e hf
                refine call_i (isC := [0, 1]) (run_V (As := [.int x9]) (rest := [.int t13]) (ci := 12) (q0 := 0) hx hb hml hown htl (c_R_rightOf l G Y  h0 a_all a_text a_saved a_undone a_told a_pile a_open a_size a_capped a_connected a_bestCost a_bestCrosses a_bestPart a_part a_trees a_nodes a_out a_kept f_raised f_undos f_reached f_length f_begin f_sort f_sign f_value f_word f_wrongAt f_badAt f_bad f_read f_side f_piled f_opened f_joins f_had f_treeMany f_nodeMany f_moveNode f_movePart f_moveFirst f_moveThen f_moveOther f_outMany g_all x9 t15 hv16) mv_R_rightOf k_1516 (hRk (by decide) (by decide)) hK hsk hS hP hD (isC := [0, 1]) rfl (by decide) rfl rfl rfl hl.1 rfl (lv_room (Nat.le_of_ble_eq_true rfl)) d_R_laysSize_138) hP hD hS rfl rfl (fun H locs hP hD hS => ?_)
                have hP : va_P G.1 classes [(h0, O_R f_raised a_all a_text a_saved a_undone f_undos f_reached f_length f_begin f_sort f_sign f_value f_word f_wrongAt f_badAt f_bad a_told f_read f_side a_pile f_piled a_open f_opened f_joins f_had a_size a_capped a_connected a_bestCost a_bestCrosses a_bestPart a_part a_trees f_treeMany a_nodes f_nodeMany f_moveNode f_movePart f_moveFirst f_moveThen f_moveOther a_out f_outMany a_kept), (a_all, aI G 1276 g_all), (a_capped, aZ G 256 g_capped), (a_size, aJ G 256 g_size)] H := hP
                have hD : va_D A [(h0, O_R f_raised a_all a_text a_saved a_undone f_undos f_reached f_length f_begin f_sort f_sign f_value f_word f_wrongAt f_badAt f_bad a_told f_read f_side a_pile f_piled a_open f_opened f_joins f_had a_size a_capped a_connected a_bestCost a_bestCrosses a_bestPart a_part a_trees f_treeMany a_nodes f_nodeMany f_moveNode f_movePart f_moveFirst f_moveThen f_moveOther a_out f_outMany a_kept), (a_all, aI G 1276 g_all), (a_capped, aZ G 256 g_capped), (a_size, aJ G 256 g_size)] := hD
                refine lv_ior hx hb d_R_laysSize_141 ?_
                refine lv_topi (fun v17 ev17 => ?_)
                have hf := dn_e ev17 hf
                refine lv_istore (lv' := [(10, .int v17), (0, .ref h0), (1, .int x1), (2, .long x2), (4, .int x4), (5, .int x5), (6, .int x6), (8, .int x8), (9, .int x9)]) hx hb d_R_laysSize_142 hl (by decide) rfl (fun ls hl => ?_)
                refine lv_iload hx hb d_R_laysSize_144 (lv_at hl 0 rfl) ?_
                refine lv_iload hx hb d_R_laysSize_146 (lv_at hl 5 rfl) ?_
                refine call_i (isC := []) (run_S (As := [.int v17, .int x5]) (rest := []) hx hb hml hown htl (c_R_isIn l G Y  v17 x5 _ rfl) ms_R_isIn k_1470 (hRk (by decide) (by decide)) hK hsk hS hP hD (isC := []) rfl (by decide) rfl hl.1 rfl (lv_room (Nat.le_of_ble_eq_true rfl)) d_R_laysSize_148) hP hD hS rfl rfl (fun H locs hP hD hS => ?_)
                have hP : va_P G.1 classes [(h0, O_R f_raised a_all a_text a_saved a_undone f_undos f_reached f_length f_begin f_sort f_sign f_value f_word f_wrongAt f_badAt f_bad a_told f_read f_side a_pile f_piled a_open f_opened f_joins f_had a_size a_capped a_connected a_bestCost a_bestCrosses a_bestPart a_part a_trees f_treeMany a_nodes f_nodeMany f_moveNode f_movePart f_moveFirst f_moveThen f_moveOther a_out f_outMany a_kept), (a_all, aI G 1276 g_all), (a_capped, aZ G 256 g_capped), (a_size, aJ G 256 g_size)] H := hP
                have hD : va_D A [(h0, O_R f_raised a_all a_text a_saved a_undone f_undos f_reached f_length f_begin f_sort f_sign f_value f_word f_wrongAt f_badAt f_bad a_told f_read f_side a_pile f_piled a_open f_opened f_joins f_had a_size a_capped a_connected a_bestCost a_bestCrosses a_bestPart a_part a_trees f_treeMany a_nodes f_nodeMany f_moveNode f_movePart f_moveFirst f_moveThen f_moveOther a_out f_outMany a_kept), (a_all, aI G 1276 g_all), (a_capped, aZ G 256 g_capped), (a_size, aJ G 256 g_size)] := hD
                refine lv_if_eq (tgt := 186) hx hb d_R_laysSize_151 (by decide) (fun c18 => ?_) (fun c18 => ?_)
                · have hf := di_t c18 hf
                  obtain ⟨v19, ev19⟩ : ∃ z : Int32, z = x9 + (1 : Int32) := ⟨_, rfl⟩
                  have hf := dn_e ev19 hf
                  refine lv_iinc (v := v19) (lv' := [(9, .int v19), (10, .int v17), (0, .ref h0), (1, .int x1), (2, .long x2), (4, .int x4), (5, .int x5), (6, .int x6), (8, .int x8)]) hx hb d_R_laysSize_186 hl (k := 8) rfl (by rw [ev19]; rfl) (by decide) rfl (fun ls hl => ?_)
                  refine lv_goto (tgt := 117) hx hb d_R_laysSize_189 (by decide) ?_
                  exact ih117 x2 v19 H locs ls (lpk_i hf hk117) ⟨hP, hD, hS⟩ (lv_sub hl [2, 3, 4, 5, 6, 7, 8, 0] rfl)
                · have hf := di_f c18 hf
                  refine lv_iload hx hb d_R_laysSize_154 (lv_at hl 0 rfl) ?_
                  refine lv_iload hx hb d_R_laysSize_156 (lv_at hl 7 rfl) ?_
                  refine call_i (isC := []) (run_S (As := [.int v17, .int x8]) (rest := []) hx hb hml hown htl (c_R_isIn l G Y  v17 x8 _ rfl) ms_R_isIn k_1470 (hRk (by decide) (by decide)) hK hsk hS hP hD (isC := []) rfl (by decide) rfl hl.1 rfl (lv_room (Nat.le_of_ble_eq_true rfl)) d_R_laysSize_158) hP hD hS rfl rfl (fun H locs hP hD hS => ?_)
                  have hP : va_P G.1 classes [(h0, O_R f_raised a_all a_text a_saved a_undone f_undos f_reached f_length f_begin f_sort f_sign f_value f_word f_wrongAt f_badAt f_bad a_told f_read f_side a_pile f_piled a_open f_opened f_joins f_had a_size a_capped a_connected a_bestCost a_bestCrosses a_bestPart a_part a_trees f_treeMany a_nodes f_nodeMany f_moveNode f_movePart f_moveFirst f_moveThen f_moveOther a_out f_outMany a_kept), (a_all, aI G 1276 g_all), (a_capped, aZ G 256 g_capped), (a_size, aJ G 256 g_size)] H := hP
                  have hD : va_D A [(h0, O_R f_raised a_all a_text a_saved a_undone f_undos f_reached f_length f_begin f_sort f_sign f_value f_word f_wrongAt f_badAt f_bad a_told f_read f_side a_pile f_piled a_open f_opened f_joins f_had a_size a_capped a_connected a_bestCost a_bestCrosses a_bestPart a_part a_trees f_treeMany a_nodes f_nodeMany f_moveNode f_movePart f_moveFirst f_moveThen f_moveOther a_out f_outMany a_kept), (a_all, aI G 1276 g_all), (a_capped, aZ G 256 g_capped), (a_size, aJ G 256 g_size)] := hD
                  refine lv_if_ne (tgt := 186) hx hb d_R_laysSize_161 (by decide) (fun c20 => ?_) (fun c20 => ?_)
                  · have hf := di_f c20 hf
                    obtain ⟨v21, ev21⟩ : ∃ z : Int32, z = x9 + (1 : Int32) := ⟨_, rfl⟩
                    have hf := dn_e ev21 hf
                    refine lv_iinc (v := v21) (lv' := [(9, .int v21), (10, .int v17), (0, .ref h0), (1, .int x1), (2, .long x2), (4, .int x4), (5, .int x5), (6, .int x6), (8, .int x8)]) hx hb d_R_laysSize_186 hl (k := 8) rfl (by rw [ev21]; rfl) (by decide) rfl (fun ls hl => ?_)
                    refine lv_goto (tgt := 117) hx hb d_R_laysSize_189 (by decide) ?_
                    exact ih117 x2 v21 H locs ls (lpk_i hf hk117) ⟨hP, hD, hS⟩ (lv_sub hl [2, 3, 4, 5, 6, 7, 8, 0] rfl)
                  · have hf := di_t c20 hf
                    refine lv_lload_n hx hb d_R_laysSize_164 rfl (lv_at hl 3 rfl) ?_
                    refine lv_aload_n hx hb d_R_laysSize_165 rfl (lv_at hl 1 rfl) ?_
                    refine lv_iload hx hb d_R_laysSize_166 (lv_at hl 8 rfl) ?_
                    obtain ⟨t22, hv23, hf⟩ := db_e hf
                    refine call_i (isC := [0, 1]) (run_V (As := [.int x9]) (rest := [.long x2]) (ci := 12) (q0 := 0) hx hb hml hown htl (c_R_byOf l G Y  h0 a_all a_text a_saved a_undone a_told a_pile a_open a_size a_capped a_connected a_bestCost a_bestCrosses a_bestPart a_part a_trees a_nodes a_out a_kept f_raised f_undos f_reached f_length f_begin f_sort f_sign f_value f_word f_wrongAt f_badAt f_bad f_read f_side f_piled f_opened f_joins f_had f_treeMany f_nodeMany f_moveNode f_movePart f_moveFirst f_moveThen f_moveOther f_outMany g_all x9 t22 hv23) mv_R_byOf k_1490 (hRk (by decide) (by decide)) hK hsk hS hP hD (isC := [0, 1]) rfl (by decide) rfl rfl rfl hl.1 rfl (lv_room (Nat.le_of_ble_eq_true rfl)) d_R_laysSize_168) hP hD hS rfl rfl (fun H locs hP hD hS => ?_)
                    have hP : va_P G.1 classes [(h0, O_R f_raised a_all a_text a_saved a_undone f_undos f_reached f_length f_begin f_sort f_sign f_value f_word f_wrongAt f_badAt f_bad a_told f_read f_side a_pile f_piled a_open f_opened f_joins f_had a_size a_capped a_connected a_bestCost a_bestCrosses a_bestPart a_part a_trees f_treeMany a_nodes f_nodeMany f_moveNode f_movePart f_moveFirst f_moveThen f_moveOther a_out f_outMany a_kept), (a_all, aI G 1276 g_all), (a_capped, aZ G 256 g_capped), (a_size, aJ G 256 g_size)] H := hP
                    have hD : va_D A [(h0, O_R f_raised a_all a_text a_saved a_undone f_undos f_reached f_length f_begin f_sort f_sign f_value f_word f_wrongAt f_badAt f_bad a_told f_read f_side a_pile f_piled a_open f_opened f_joins f_had a_size a_capped a_connected a_bestCost a_bestCrosses a_bestPart a_part a_trees f_treeMany a_nodes f_nodeMany f_moveNode f_movePart f_moveFirst f_moveThen f_moveOther a_out f_outMany a_kept), (a_all, aI G 1276 g_all), (a_capped, aZ G 256 g_capped), (a_size, aJ G 256 g_size)] := hD
                    refine lv_i2l hx hb d_R_laysSize_171 rfl ?_
                    obtain ⟨c24, hf⟩ := dk_e hf
                    refine lv_ldiv hx hb d_R_laysSize_172 c24 ?_
                    refine lv_topl (fun v25 ev25 => ?_)
                    have hf := dn_e ev25 hf
                    refine lv_lstore_n (lv' := [(2, .long v25), (10, .int v17), (0, .ref h0), (1, .int x1), (4, .int x4), (5, .int x5), (6, .int x6), (8, .int x8), (9, .int x9)]) hx hb d_R_laysSize_173 rfl hl (by decide) rfl (fun ls hl => ?_)
                    refine lv_lload_n hx hb d_R_laysSize_174 rfl (lv_at hl 0 rfl) ?_
                    refine lv_lconst (v := (1 : Int64)) hx hb d_R_laysSize_175 (by decide) ?_
                    refine lx_ge (tgt := 184) hx hb d_R_laysSize_176 d_R_laysSize_177 (by decide) (fun c26 => ?_) (fun c26 => ?_)
                    · have hf := di_f c26 hf
                      refine lv_lload_n hx hb d_R_laysSize_184 rfl (lv_at hl 0 rfl) ?_
                      exact hJ185 x9 v25 H locs ls ⟨hP, hD, hS⟩ (lv_sub hl [2, 3, 4, 5, 6, 7, 8] rfl) hf
                    · have hf := di_t c26 hf
                      refine lv_lconst (v := (1 : Int64)) hx hb d_R_laysSize_180 (by decide) ?_
                      refine lv_goto (tgt := 185) hx hb d_R_laysSize_181 (by decide) ?_
                      exact hJ185 x9 (1 : Int64) H locs ls ⟨hP, hD, hS⟩ (lv_sub hl [2, 3, 4, 5, 6, 7, 8] rfl) hf
          exact hL117 N x2 x9 H locs ls hy117 ⟨hP, hD, hS⟩ hl
        have hJ100 : ∀ (x4 : Int32) (x5 : Int32) (x6 : Int32) (z0 : Int64) (H : Heap) (locs : List Loc) (ls : Array Slot), PDS G.1 classes A s [(h0, O_R f_raised a_all a_text a_saved a_undone f_undos f_reached f_length f_begin f_sort f_sign f_value f_word f_wrongAt f_badAt f_bad a_told f_read f_side a_pile f_piled a_open f_opened f_joins f_had a_size a_capped a_connected a_bestCost a_bestCrosses a_bestPart a_part a_trees f_treeMany a_nodes f_nodeMany f_moveNode f_movePart f_moveFirst f_moveThen f_moveOther a_out f_outMany a_kept), (a_all, aI G 1276 g_all), (a_capped, aZ G 256 g_capped), (a_size, aJ G 256 g_size)] H locs → lv_has ls 11 [(0, .ref h0), (1, .int x1), (4, .int x4), (5, .int x5), (6, .int x6)] → R_laysSize_100 N g_all g_capped g_size x1 x4 x5 x6 z0 = some r11 → W p l e (rmk 1) s m args below meth c H locs 0 0 Q (F0 m 100 ls [.long z0]) := by
          intro x4 x5 x6 z0 H locs ls wq hl hf
          obtain ⟨hP, hD, hS⟩ := wq
          refine lv_lstore_n (lv' := [(2, .long z0), (0, .ref h0), (1, .int x1), (4, .int x4), (5, .int x5), (6, .int x6)]) hx hb d_R_laysSize_100 rfl hl (by decide) rfl (fun ls hl => ?_)
          refine lv_iload hx hb d_R_laysSize_101 (lv_at hl 4 rfl) ?_
          refine lv_istore (lv' := [(8, .int x5), (2, .long z0), (0, .ref h0), (1, .int x1), (4, .int x4), (5, .int x5), (6, .int x6)]) hx hb d_R_laysSize_103 hl (by decide) rfl (fun ls hl => ?_)
          refine lv_iload hx hb d_R_laysSize_105 (lv_at hl 5 rfl) ?_
          refine lv_iconst (v := (1 : Int32)) hx hb d_R_laysSize_107 (by decide) ?_
          refine lv_iload hx hb d_R_laysSize_108 (lv_at hl 6 rfl) ?_
          refine lv_ishl hx hb d_R_laysSize_110 ?_
          refine lv_ior hx hb d_R_laysSize_111 ?_
          refine lv_topi (fun v11 ev11 => ?_)
          have hf := dn_e ev11 hf
          refine lv_istore (lv' := [(5, .int v11), (8, .int x5), (2, .long z0), (0, .ref h0), (1, .int x1), (4, .int x4), (6, .int x6)]) hx hb d_R_laysSize_112 hl (by decide) rfl (fun ls hl => ?_)
          refine lv_iconst (v := (0 : Int32)) hx hb d_R_laysSize_114 (by decide) ?_
          refine lv_istore (lv' := [(9, .int (0 : Int32)), (5, .int v11), (8, .int x5), (2, .long z0), (0, .ref h0), (1, .int x1), (4, .int x4), (6, .int x6)]) hx hb d_R_laysSize_115 hl (by decide) rfl (fun ls hl => ?_)
          exact hJ117 z0 x4 v11 x6 x5 (0 : Int32) H locs ls ⟨hP, hD, hS⟩ (lv_sub hl [4, 5, 3, 6, 1, 7, 2, 0] rfl) hf
        have hJ75 : ∀ (x2 : Int64) (x5 : Int32) (x6 : Int32) (x7 : Int32) (z0 : Int32) (H : Heap) (locs : List Loc) (ls : Array Slot), PDS G.1 classes A s [(h0, O_R f_raised a_all a_text a_saved a_undone f_undos f_reached f_length f_begin f_sort f_sign f_value f_word f_wrongAt f_badAt f_bad a_told f_read f_side a_pile f_piled a_open f_opened f_joins f_had a_size a_capped a_connected a_bestCost a_bestCrosses a_bestPart a_part a_trees f_treeMany a_nodes f_nodeMany f_moveNode f_movePart f_moveFirst f_moveThen f_moveOther a_out f_outMany a_kept), (a_all, aI G 1276 g_all), (a_capped, aZ G 256 g_capped), (a_size, aJ G 256 g_size)] H locs → lv_has ls 11 [(0, .ref h0), (1, .int x1), (2, .long x2), (5, .int x5), (6, .int x6), (7, .int x7)] → R_laysSize_75 N g_all g_capped g_size x1 x2 x5 x6 x7 z0 = some r11 → W p l e (rmk 1) s m args below meth c H locs 0 0 Q (F0 m 75 ls [.int z0]) := by
          intro x2 x5 x6 x7 z0 H locs ls wq hl hf
          obtain ⟨hP, hD, hS⟩ := wq
          refine lv_istore (lv' := [(4, .int z0), (0, .ref h0), (1, .int x1), (2, .long x2), (5, .int x5), (6, .int x6), (7, .int x7)]) hx hb d_R_laysSize_75 hl (by decide) rfl (fun ls hl => ?_)
          refine lv_iload hx hb d_R_laysSize_77 (lv_at hl 6 rfl) ?_
          refine lv_if_eq (tgt := 88) hx hb d_R_laysSize_79 (by decide) (fun c9 => ?_) (fun c9 => ?_)
          · have hf := di_t c9 hf
            refine lv_lload_n hx hb d_R_laysSize_88 rfl (lv_at hl 3 rfl) ?_
            refine lv_aload_n hx hb d_R_laysSize_89 rfl (lv_at hl 1 rfl) ?_
            refine va_get (D := G.1) (ci := 12) (v := .ref a_all) (C := n_R) (T := T_R) (N := 44) hx hb htl iw_R hown hK hP 0 rfl rfl 1 (by decide) (htl _ k_1197) (fun _ h9 => h9) rfl d_R_laysSize_90 ?_
            refine lv_iconst (v := (1 : Int32)) hx hb d_R_laysSize_93 (by decide) ?_
            refine lv_iload hx hb d_R_laysSize_94 (lv_at hl 5 rfl) ?_
            refine lv_iadd hx hb d_R_laysSize_96 ?_
            obtain ⟨c10, hf⟩ := dk_e hf
            refine va_iald hx hb hK hP 1 1 rfl rfl c10 d_R_laysSize_97 ?_
            refine lv_i2l hx hb d_R_laysSize_98 rfl ?_
            refine lv_lmul hx hb d_R_laysSize_99 ?_
            exact hJ100 z0 x5 x6 (x2 * ((g_all ((1 : Int32) + x6).toNatClampNeg).toInt64)) H locs ls ⟨hP, hD, hS⟩ (lv_sub hl [1, 2, 0, 4, 5] rfl) hf
          · have hf := di_f c9 hf
            refine lv_ldc2 (v := (1000000000000000 : Int64)) hx hb hown (htl _ k_1511) d_R_laysSize_82 ?_
            refine lv_goto (tgt := 100) hx hb d_R_laysSize_85 (by decide) ?_
            exact hJ100 z0 x5 x6 (1000000000000000 : Int64) H locs ls ⟨hP, hD, hS⟩ (lv_sub hl [1, 2, 0, 4, 5] rfl) hf
        have hJ70 : ∀ (x2 : Int64) (x5 : Int32) (x6 : Int32) (x7 : Int32) (H : Heap) (locs : List Loc) (ls : Array Slot), PDS G.1 classes A s [(h0, O_R f_raised a_all a_text a_saved a_undone f_undos f_reached f_length f_begin f_sort f_sign f_value f_word f_wrongAt f_badAt f_bad a_told f_read f_side a_pile f_piled a_open f_opened f_joins f_had a_size a_capped a_connected a_bestCost a_bestCrosses a_bestPart a_part a_trees f_treeMany a_nodes f_nodeMany f_moveNode f_movePart f_moveFirst f_moveThen f_moveOther a_out f_outMany a_kept), (a_all, aI G 1276 g_all), (a_capped, aZ G 256 g_capped), (a_size, aJ G 256 g_size)] H locs → lv_has ls 11 [(0, .ref h0), (1, .int x1), (2, .long x2), (5, .int x5), (6, .int x6), (7, .int x7)] → R_laysSize_70 N g_all g_capped g_size x1 x2 x5 x6 x7 = some r11 → W p l e (rmk 1) s m args below meth c H locs 0 0 Q (F0 m 70 ls []) := by
          intro x2 x5 x6 x7 H locs ls wq hl hf
          obtain ⟨hP, hD, hS⟩ := wq
          refine lv_iconst (v := (1 : Int32)) hx hb d_R_laysSize_70 (by decide) ?_
          refine lv_goto (tgt := 75) hx hb d_R_laysSize_71 (by decide) ?_
          exact hJ75 x2 x5 x6 x7 (1 : Int32) H locs ls ⟨hP, hD, hS⟩ (lv_sub hl [0, 1, 2, 3, 4, 5] rfl) hf
        have hJ58 : ∀ (x2 : Int64) (x4 : Int32) (x5 : Int32) (x6 : Int32) (z0 : Int32) (H : Heap) (locs : List Loc) (ls : Array Slot), PDS G.1 classes A s [(h0, O_R f_raised a_all a_text a_saved a_undone f_undos f_reached f_length f_begin f_sort f_sign f_value f_word f_wrongAt f_badAt f_bad a_told f_read f_side a_pile f_piled a_open f_opened f_joins f_had a_size a_capped a_connected a_bestCost a_bestCrosses a_bestPart a_part a_trees f_treeMany a_nodes f_nodeMany f_moveNode f_movePart f_moveFirst f_moveThen f_moveOther a_out f_outMany a_kept), (a_all, aI G 1276 g_all), (a_capped, aZ G 256 g_capped), (a_size, aJ G 256 g_size)] H locs → lv_has ls 11 [(0, .ref h0), (1, .int x1), (2, .long x2), (4, .int x4), (5, .int x5), (6, .int x6)] → R_laysSize_58 N g_all g_capped g_size x1 x2 x4 x5 x6 z0 = some r11 → W p l e (rmk 1) s m args below meth c H locs 0 0 Q (F0 m 58 ls [.int z0]) := by
          intro x2 x4 x5 x6 z0 H locs ls wq hl hf
          obtain ⟨hP, hD, hS⟩ := wq
          refine lv_istore (lv' := [(7, .int z0), (0, .ref h0), (1, .int x1), (2, .long x2), (4, .int x4), (5, .int x5), (6, .int x6)]) hx hb d_R_laysSize_58 hl (by decide) rfl (fun ls hl => ?_)
          refine lv_iload hx hb d_R_laysSize_60 (lv_at hl 4 rfl) ?_
          refine lv_if_ne (tgt := 70) hx hb d_R_laysSize_62 (by decide) (fun c7 => ?_) (fun c7 => ?_)
          · have hf := di_f c7 hf
            exact hJ70 x2 x5 x6 z0 H locs ls ⟨hP, hD, hS⟩ (lv_sub hl [1, 2, 3, 5, 6, 0] rfl) hf
          · have hf := di_t c7 hf
            refine lv_iload hx hb d_R_laysSize_65 (lv_at hl 0 rfl) ?_
            refine lv_if_eq (tgt := 74) hx hb d_R_laysSize_67 (by decide) (fun c8 => ?_) (fun c8 => ?_)
            · have hf := di_t c8 hf
              refine lv_iconst (v := (0 : Int32)) hx hb d_R_laysSize_74 (by decide) ?_
              exact hJ75 x2 x5 x6 z0 (0 : Int32) H locs ls ⟨hP, hD, hS⟩ (lv_sub hl [1, 2, 3, 5, 6, 0] rfl) hf
            · have hf := di_f c8 hf
              exact hJ70 x2 x5 x6 z0 H locs ls ⟨hP, hD, hS⟩ (lv_sub hl [1, 2, 3, 5, 6, 0] rfl) hf
        refine lv_iload hx hb d_R_laysSize_11 (lv_at hl 5 rfl) ?_
        refine lv_aload_n hx hb d_R_laysSize_13 rfl (lv_at hl 0 rfl) ?_
        refine va_get (D := G.1) (ci := 12) (v := .ref a_all) (C := n_R) (T := T_R) (N := 44) hx hb htl iw_R hown hK hP 0 rfl rfl 1 (by decide) (htl _ k_1197) (fun _ h9 => h9) rfl d_R_laysSize_14 ?_
        refine lv_iconst (v := (0 : Int32)) hx hb d_R_laysSize_17 (by decide) ?_
        refine va_iald hx hb hK hP 1 1 rfl rfl (vp_lit (by decide)) d_R_laysSize_18 ?_
        refine lv_icmp_ge (tgt := 198) hx hb d_R_laysSize_19 (by decide) (fun c1 => ?_) (fun c1 => ?_)
        · have hf := di_t c1 hf
          have hq11 := lpk_x hf hk11
          have hf := ex_y (f := fun y => R_laysSize_a11 N g_all g_capped g_size x1 y) hq11 hfo11
          have hf : R_laysSize_198 N g_all g_capped g_size x1 x2 x4 = some res := hf
          exact hJ198 g_capped g_size x2 x4 H locs ls ⟨hP, hD, hS⟩ (lv_sub hl [0, 1, 2, 3] rfl) hf
        · have hf := di_f c1 hf
          refine lv_iload_n hx hb d_R_laysSize_22 rfl (lv_at hl 1 rfl) ?_
          refine lv_iload hx hb d_R_laysSize_23 (lv_at hl 5 rfl) ?_
          refine lv_ishr hx hb d_R_laysSize_25 ?_
          refine lv_iconst (v := (1 : Int32)) hx hb d_R_laysSize_26 (by decide) ?_
          refine lv_iand hx hb d_R_laysSize_27 ?_
          refine lv_if_ne (tgt := 34) hx hb d_R_laysSize_28 (by decide) (fun c2 => ?_) (fun c2 => ?_)
          · have hf := di_f c2 hf
            refine lv_lload_n hx hb d_R_laysSize_34 rfl (lv_at hl 2 rfl) ?_
            refine lv_ldc2 (v := (1000000000000000 : Int64)) hx hb hown (htl _ k_1511) d_R_laysSize_35 ?_
            refine lv_aload_n hx hb d_R_laysSize_38 rfl (lv_at hl 0 rfl) ?_
            refine va_get (D := G.1) (ci := 12) (v := .ref a_all) (C := n_R) (T := T_R) (N := 44) hx hb htl iw_R hown hK hP 0 rfl rfl 1 (by decide) (htl _ k_1197) (fun _ h9 => h9) rfl d_R_laysSize_39 ?_
            refine lv_iconst (v := (1 : Int32)) hx hb d_R_laysSize_42 (by decide) ?_
            refine lv_iload hx hb d_R_laysSize_43 (lv_at hl 5 rfl) ?_
            refine lv_iadd hx hb d_R_laysSize_45 ?_
            obtain ⟨c3, hf⟩ := dk_e hf
            refine va_iald hx hb hK hP 1 1 rfl rfl c3 d_R_laysSize_46 ?_
            refine lv_i2l hx hb d_R_laysSize_47 rfl ?_
            obtain ⟨c4, hf⟩ := dk_e hf
            refine lv_ldiv hx hb d_R_laysSize_48 c4 ?_
            refine lx_le (tgt := 57) hx hb d_R_laysSize_49 d_R_laysSize_50 (by decide) (fun c5 => ?_) (fun c5 => ?_)
            · have hf := di_f c5 hf
              refine lv_iconst (v := (0 : Int32)) hx hb d_R_laysSize_57 (by decide) ?_
              exact hJ58 x2 x4 x5 x6 (0 : Int32) H locs ls ⟨hP, hD, hS⟩ (lv_sub hl [0, 1, 2, 3, 4, 5] rfl) hf
            · have hf := di_t c5 hf
              refine lv_iconst (v := (1 : Int32)) hx hb d_R_laysSize_53 (by decide) ?_
              refine lv_goto (tgt := 58) hx hb d_R_laysSize_54 (by decide) ?_
              exact hJ58 x2 x4 x5 x6 (1 : Int32) H locs ls ⟨hP, hD, hS⟩ (lv_sub hl [0, 1, 2, 3, 4, 5] rfl) hf
          · have hf := di_t c2 hf
            refine lv_goto (tgt := 192) hx hb d_R_laysSize_31 (by decide) ?_
            exact hJ192 x2 x4 x5 x6 H locs ls ⟨hP, hD, hS⟩ (lv_sub hl [0, 1, 2, 3, 4, 5] rfl) hf
    exact hL11 N x2 x4 x5 x6 H locs ls hy11 ⟨hP, hD, hS⟩ hl
  refine lv_lconst (v := (1 : Int64)) hx hb d_R_laysSize_0 (by decide) ?_
  refine lv_lstore_n (lv' := [(2, .long (1 : Int64)), (0, .ref h0), (1, .int x1)]) hx hb d_R_laysSize_1 rfl hl (by decide) rfl (fun ls hl => ?_)
  refine lv_iconst (v := (0 : Int32)) hx hb d_R_laysSize_2 (by decide) ?_
  refine lv_istore (lv' := [(4, .int (0 : Int32)), (2, .long (1 : Int64)), (0, .ref h0), (1, .int x1)]) hx hb d_R_laysSize_3 hl (by decide) rfl (fun ls hl => ?_)
  refine lv_iconst (v := (0 : Int32)) hx hb d_R_laysSize_5 (by decide) ?_
  refine lv_istore (lv' := [(5, .int (0 : Int32)), (4, .int (0 : Int32)), (2, .long (1 : Int64)), (0, .ref h0), (1, .int x1)]) hx hb d_R_laysSize_6 hl (by decide) rfl (fun ls hl => ?_)
  refine lv_iconst (v := (0 : Int32)) hx hb d_R_laysSize_8 (by decide) ?_
  refine lv_istore (lv' := [(6, .int (0 : Int32)), (5, .int (0 : Int32)), (4, .int (0 : Int32)), (2, .long (1 : Int64)), (0, .ref h0), (1, .int x1)]) hx hb d_R_laysSize_9 hl (by decide) rfl (fun ls hl => ?_)
  exact hJ11 g_capped g_size (1 : Int64) (0 : Int32) (0 : Int32) (0 : Int32) H locs ls ⟨hP, hD, hS⟩ (lv_sub hl [4, 5, 3, 2, 1, 0] rfl) hf
set_option maxHeartbeats 4000000 in
set_option maxRecDepth 100000 in
theorem c_R_sum (l : Launch) (G : va_G × (Nat → ClassId)) (Y : (Nat → Nat) × (Nat → Nat)) (x0 : Int64) (x2 : Int64) (res : Int64) (hf : R_sum x0 x2 = res) : Cl l classes y_R_sum b_R_sum 4 (some .long) (rmk 0) G.1 (tyL G) Y [.long x0, .long x2] [] [] res := by
  refine entL (by decide) (Nat.le_of_ble_eq_true rfl) ?_
  intro p e s m args below meth c ls A Q hx hb hml hown htl hK hsk wq hl hret
  obtain ⟨hP, hD, hS⟩ := wq
  have hl : lv_has ls 4 [(0, .long x0), (2, .long x2)] := hl
  have hS : va_S A s.heap s.heap [] := hS
  obtain ⟨H, hH⟩ : ∃ H : Heap, H = s.heap := ⟨_, rfl⟩
  obtain ⟨locs, hlocs⟩ : ∃ z : List Loc, z = [] := ⟨_, rfl⟩
  rw [← hH] at hP
  replace hS : va_S A s.heap H locs := by rw [hH, hlocs]; exact hS
  suffices hgo : W p l e (rmk 0) s m args below meth c H locs 0 0 Q (F0 m 0 ls []) by rw [hH, hlocs] at hgo; exact hgo
  refine lv_lload_n hx hb d_R_sum_0 rfl (lv_at hl 0 rfl) ?_
  refine lv_lload_n hx hb d_R_sum_1 rfl (lv_at hl 1 rfl) ?_
  refine lv_ladd hx hb d_R_sum_2 ?_
  refine lv_ldc2 (v := (1000000000000000 : Int64)) hx hb hown (htl _ k_1511) d_R_sum_3 ?_
  refine lx_le (tgt := 16) hx hb d_R_sum_6 d_R_sum_7 (by decide) (fun c1 => ?_) (fun c1 => ?_)
  · have hf := di_f c1 hf
    refine lv_lload_n hx hb d_R_sum_16 rfl (lv_at hl 0 rfl) ?_
    refine lv_lload_n hx hb d_R_sum_17 rfl (lv_at hl 1 rfl) ?_
    refine lv_ladd hx hb d_R_sum_18 ?_
    cases hf
    exact hret 19 ls H locs hP hS d_R_sum_19
  · have hf := di_t c1 hf
    refine lv_ldc2 (v := (1000000000000000 : Int64)) hx hb hown (htl _ k_1511) d_R_sum_10 ?_
    refine lv_goto (tgt := 19) hx hb d_R_sum_13 (by decide) ?_
    cases hf
    exact hret 19 ls H locs hP hS d_R_sum_19
set_option maxHeartbeats 4000000 in
set_option maxRecDepth 100000 in
theorem c_R_laysBest (l : Launch) (G : va_G × (Nat → ClassId)) (Y : (Nat → Nat) × (Nat → Nat)) (h0 : Nat) (a_all : Nat) (a_text : Nat) (a_saved : Nat) (a_undone : Nat) (a_told : Nat) (a_pile : Nat) (a_open : Nat) (a_size : Nat) (a_capped : Nat) (a_connected : Nat) (a_bestCost : Nat) (a_bestCrosses : Nat) (a_bestPart : Nat) (a_part : Nat) (a_trees : Nat) (a_nodes : Nat) (a_out : Nat) (a_kept : Nat) (f_raised : Int32) (f_undos : Int32) (f_reached : Int32) (f_length : Int32) (f_begin : Int32) (f_sort : Int32) (f_sign : Int32) (f_value : Int32) (f_word : Int64) (f_wrongAt : Int32) (f_badAt : Int32) (f_bad : Int32) (f_read : Int32) (f_side : Int32) (f_piled : Int32) (f_opened : Int32) (f_joins : Int32) (f_had : Int32) (f_treeMany : Int32) (f_nodeMany : Int32) (f_moveNode : Int32) (f_movePart : Int32) (f_moveFirst : Int32) (f_moveThen : Int32) (f_moveOther : Int32) (f_outMany : Int32) (g_all : Nat → Int32) (g_bestCost : Nat → Int64) (g_bestCrosses : Nat → Int32) (g_bestPart : Nat → Int32) (g_size : Nat → Int64) (x1 : Int32) (x2 : Int32) (N : Nat) (res : (Nat → Int64) × (Nat → Int32) × (Nat → Int32)) (hf : R_laysBest N g_all g_bestCost g_bestCrosses g_bestPart g_size x1 x2 = some res) : Cv l classes y_R_laysBest b_R_laysBest 9 none (rmk 2) G.1 (tyL G) Y [.ref h0, .int x1, .int x2] [(h0, O_R f_raised a_all a_text a_saved a_undone f_undos f_reached f_length f_begin f_sort f_sign f_value f_word f_wrongAt f_badAt f_bad a_told f_read f_side a_pile f_piled a_open f_opened f_joins f_had a_size a_capped a_connected a_bestCost a_bestCrosses a_bestPart a_part a_trees f_treeMany a_nodes f_nodeMany f_moveNode f_movePart f_moveFirst f_moveThen f_moveOther a_out f_outMany a_kept), (a_all, aI G 1276 g_all), (a_bestCost, aJ G 512 g_bestCost), (a_bestCrosses, aI G 512 g_bestCrosses), (a_bestPart, aI G 512 g_bestPart), (a_size, aJ G 256 g_size)] [(h0, O_R f_raised a_all a_text a_saved a_undone f_undos f_reached f_length f_begin f_sort f_sign f_value f_word f_wrongAt f_badAt f_bad a_told f_read f_side a_pile f_piled a_open f_opened f_joins f_had a_size a_capped a_connected a_bestCost a_bestCrosses a_bestPart a_part a_trees f_treeMany a_nodes f_nodeMany f_moveNode f_movePart f_moveFirst f_moveThen f_moveOther a_out f_outMany a_kept), (a_all, aI G 1276 g_all), (a_bestCost, aJ G 512 res.1), (a_bestCrosses, aI G 512 res.2.1), (a_bestPart, aI G 512 res.2.2), (a_size, aJ G 256 g_size)] := by
  refine entV (by decide) (Nat.le_of_ble_eq_true rfl) ?_
  intro p e s m args below meth c ls A Q hx hb hml hown htl hK hsk wq hl hret
  obtain ⟨hP, hD, hS⟩ := wq
  have hl : lv_has ls 9 [(0, .ref h0), (1, .int x1), (2, .int x2)] := hl
  have hS : va_S A s.heap s.heap [] := hS
  obtain ⟨H, hH⟩ : ∃ H : Heap, H = s.heap := ⟨_, rfl⟩
  obtain ⟨locs, hlocs⟩ : ∃ z : List Loc, z = [] := ⟨_, rfl⟩
  rw [← hH] at hP
  replace hS : va_S A s.heap H locs := by rw [hH, hlocs]; exact hS
  suffices hgo : W p l e (rmk 2) s m args below meth c H locs 0 0 Q (F0 m 0 ls []) by rw [hH, hlocs] at hgo; exact hgo
  have hJ240 : ∀ (g_bestCost : Nat → Int64) (g_bestCrosses : Nat → Int32) (g_bestPart : Nat → Int32) (H : Heap) (locs : List Loc) (ls : Array Slot), PDS G.1 classes A s [(h0, O_R f_raised a_all a_text a_saved a_undone f_undos f_reached f_length f_begin f_sort f_sign f_value f_word f_wrongAt f_badAt f_bad a_told f_read f_side a_pile f_piled a_open f_opened f_joins f_had a_size a_capped a_connected a_bestCost a_bestCrosses a_bestPart a_part a_trees f_treeMany a_nodes f_nodeMany f_moveNode f_movePart f_moveFirst f_moveThen f_moveOther a_out f_outMany a_kept), (a_all, aI G 1276 g_all), (a_bestCost, aJ G 512 g_bestCost), (a_bestCrosses, aI G 512 g_bestCrosses), (a_bestPart, aI G 512 g_bestPart), (a_size, aJ G 256 g_size)] H locs → lv_has ls 9 [] → R_laysBest_240 N g_all g_bestCost g_bestCrosses g_bestPart g_size = some res → W p l e (rmk 2) s m args below meth c H locs 0 0 Q (F0 m 240 ls []) := by
    intro g_bestCost g_bestCrosses g_bestPart H locs ls wq hl hf
    obtain ⟨hP, hD, hS⟩ := wq
    cases hf
    exact hret 240 ls H locs hP hS d_R_laysBest_240
  have hJ28 : ∀ (g_bestCost : Nat → Int64) (g_bestCrosses : Nat → Int32) (g_bestPart : Nat → Int32) (x3 : Int32) (x4 : Int32) (H : Heap) (locs : List Loc) (ls : Array Slot), PDS G.1 classes A s [(h0, O_R f_raised a_all a_text a_saved a_undone f_undos f_reached f_length f_begin f_sort f_sign f_value f_word f_wrongAt f_badAt f_bad a_told f_read f_side a_pile f_piled a_open f_opened f_joins f_had a_size a_capped a_connected a_bestCost a_bestCrosses a_bestPart a_part a_trees f_treeMany a_nodes f_nodeMany f_moveNode f_movePart f_moveFirst f_moveThen f_moveOther a_out f_outMany a_kept), (a_all, aI G 1276 g_all), (a_bestCost, aJ G 512 g_bestCost), (a_bestCrosses, aI G 512 g_bestCrosses), (a_bestPart, aI G 512 g_bestPart), (a_size, aJ G 256 g_size)] H locs → lv_has ls 9 [(0, .ref h0), (1, .int x1), (2, .int x2), (3, .int x3), (4, .int x4)] → R_laysBest_28 N g_all g_bestCost g_bestCrosses g_bestPart g_size x1 x2 x3 x4 = some res → W p l e (rmk 2) s m args below meth c H locs 0 0 Q (F0 m 28 ls []) := by
    intro g_bestCost g_bestCrosses g_bestPart x3 x4 H locs ls wq hl hf
    obtain ⟨hP, hD, hS⟩ := wq
    obtain ⟨y28, hy28, hfo28⟩ := db_e hf
    have hL28 : ∀ (n : Nat) (g_bestCost : Nat → Int64) (g_bestCrosses : Nat → Int32) (g_bestPart : Nat → Int32) (x4 : Int32) (H : Heap) (locs : List Loc) (ls : Array Slot), lp (fun x => R_laysBest_b28 N g_all x.1 x.2.1 x.2.2.1 g_size x1 x2 x3 x.2.2.2) n (g_bestCost, g_bestCrosses, g_bestPart, x4) = some y28 → PDS G.1 classes A s [(h0, O_R f_raised a_all a_text a_saved a_undone f_undos f_reached f_length f_begin f_sort f_sign f_value f_word f_wrongAt f_badAt f_bad a_told f_read f_side a_pile f_piled a_open f_opened f_joins f_had a_size a_capped a_connected a_bestCost a_bestCrosses a_bestPart a_part a_trees f_treeMany a_nodes f_nodeMany f_moveNode f_movePart f_moveFirst f_moveThen f_moveOther a_out f_outMany a_kept), (a_all, aI G 1276 g_all), (a_bestCost, aJ G 512 g_bestCost), (a_bestCrosses, aI G 512 g_bestCrosses), (a_bestPart, aI G 512 g_bestPart), (a_size, aJ G 256 g_size)] H locs → lv_has ls 9 [(0, .ref h0), (1, .int x1), (2, .int x2), (3, .int x3), (4, .int x4)] → W p l e (rmk 2) s m args below meth c H locs 0 0 Q (F0 m 28 ls []) := by
      intro n
      induction n with
      | zero =>
        intro g_bestCost g_bestCrosses g_bestPart x4 H locs ls hf
        exact lp_0 hf
      | succ n ih28 =>
        intro g_bestCost g_bestCrosses g_bestPart x4 H locs ls hf wq hl
        obtain ⟨hP, hD, hS⟩ := wq
        obtain ⟨r28, hf, hk28⟩ := lp_s hf
        have hf : R_laysBest_b28 N g_all g_bestCost g_bestCrosses g_bestPart g_size x1 x2 x3 x4 = some r28 := hf
        have hJ210 : ∀ (g_bestCost : Nat → Int64) (g_bestCrosses : Nat → Int32) (g_bestPart : Nat → Int32) (x4 : Int32) (x6 : Int32) (x7 : Int64) (H : Heap) (locs : List Loc) (ls : Array Slot), PDS G.1 classes A s [(h0, O_R f_raised a_all a_text a_saved a_undone f_undos f_reached f_length f_begin f_sort f_sign f_value f_word f_wrongAt f_badAt f_bad a_told f_read f_side a_pile f_piled a_open f_opened f_joins f_had a_size a_capped a_connected a_bestCost a_bestCrosses a_bestPart a_part a_trees f_treeMany a_nodes f_nodeMany f_moveNode f_movePart f_moveFirst f_moveThen f_moveOther a_out f_outMany a_kept), (a_all, aI G 1276 g_all), (a_bestCost, aJ G 512 g_bestCost), (a_bestCrosses, aI G 512 g_bestCrosses), (a_bestPart, aI G 512 g_bestPart), (a_size, aJ G 256 g_size)] H locs → lv_has ls 9 [(0, .ref h0), (1, .int x1), (2, .int x2), (3, .int x3), (4, .int x4), (6, .int x6), (7, .long x7)] → R_laysBest_210 N g_all g_bestCost g_bestCrosses g_bestPart g_size x1 x2 x3 x4 x6 x7 = some r28 → W p l e (rmk 2) s m args below meth c H locs 0 0 Q (F0 m 210 ls []) := by
          intro g_bestCost g_bestCrosses g_bestPart x4 x6 x7 H locs ls wq hl hf
          obtain ⟨hP, hD, hS⟩ := wq
          refine lv_aload_n hx hb d_R_laysBest_210 rfl (lv_at hl 0 rfl) ?_
          refine va_get (D := G.1) (ci := 12) (v := .ref a_bestCost) (C := n_R) (T := T_R) (N := 44) hx hb htl iw_R hown hK hP 0 rfl rfl 28 (by decide) (htl _ k_1224) (fun _ h9 => h9) rfl d_R_laysBest_211 ?_
          refine lv_iload_n hx hb d_R_laysBest_214 rfl (lv_at hl 3 rfl) ?_
          refine lv_lload hx hb d_R_laysBest_215 (lv_at hl 6 rfl) ?_
          obtain ⟨c34, hf⟩ := dk_e hf
          refine nx_last hx hb hK hP hD hS 2 2 rfl rfl c34 d_R_laysBest_217 (fun v35 ev35 H locs hP hD hS => ?_)
          have hf := dn_e ev35 hf
          have hP : va_P G.1 classes [(h0, O_R f_raised a_all a_text a_saved a_undone f_undos f_reached f_length f_begin f_sort f_sign f_value f_word f_wrongAt f_badAt f_bad a_told f_read f_side a_pile f_piled a_open f_opened f_joins f_had a_size a_capped a_connected a_bestCost a_bestCrosses a_bestPart a_part a_trees f_treeMany a_nodes f_nodeMany f_moveNode f_movePart f_moveFirst f_moveThen f_moveOther a_out f_outMany a_kept), (a_all, aI G 1276 g_all), (a_bestCost, aJ G 512 v35), (a_bestCrosses, aI G 512 g_bestCrosses), (a_bestPart, aI G 512 g_bestPart), (a_size, aJ G 256 g_size)] H := hP
          have hD : va_D A [(h0, O_R f_raised a_all a_text a_saved a_undone f_undos f_reached f_length f_begin f_sort f_sign f_value f_word f_wrongAt f_badAt f_bad a_told f_read f_side a_pile f_piled a_open f_opened f_joins f_had a_size a_capped a_connected a_bestCost a_bestCrosses a_bestPart a_part a_trees f_treeMany a_nodes f_nodeMany f_moveNode f_movePart f_moveFirst f_moveThen f_moveOther a_out f_outMany a_kept), (a_all, aI G 1276 g_all), (a_bestCost, aJ G 512 v35), (a_bestCrosses, aI G 512 g_bestCrosses), (a_bestPart, aI G 512 g_bestPart), (a_size, aJ G 256 g_size)] := hD
          refine lv_aload_n hx hb d_R_laysBest_218 rfl (lv_at hl 0 rfl) ?_
          refine va_get (D := G.1) (ci := 12) (v := .ref a_bestCrosses) (C := n_R) (T := T_R) (N := 44) hx hb htl iw_R hown hK hP 0 rfl rfl 29 (by decide) (htl _ k_1225) (fun _ h9 => h9) rfl d_R_laysBest_219 ?_
          refine lv_iload_n hx hb d_R_laysBest_222 rfl (lv_at hl 3 rfl) ?_
          refine lv_iload hx hb d_R_laysBest_223 (lv_at hl 5 rfl) ?_
          refine nx_iast hx hb hK hP hD hS 3 1 rfl rfl c34 d_R_laysBest_225 (fun v36 ev36 H locs hP hD hS => ?_)
          have hf := dn_e ev36 hf
          have hP : va_P G.1 classes [(h0, O_R f_raised a_all a_text a_saved a_undone f_undos f_reached f_length f_begin f_sort f_sign f_value f_word f_wrongAt f_badAt f_bad a_told f_read f_side a_pile f_piled a_open f_opened f_joins f_had a_size a_capped a_connected a_bestCost a_bestCrosses a_bestPart a_part a_trees f_treeMany a_nodes f_nodeMany f_moveNode f_movePart f_moveFirst f_moveThen f_moveOther a_out f_outMany a_kept), (a_all, aI G 1276 g_all), (a_bestCost, aJ G 512 v35), (a_bestCrosses, aI G 512 v36), (a_bestPart, aI G 512 g_bestPart), (a_size, aJ G 256 g_size)] H := hP
          have hD : va_D A [(h0, O_R f_raised a_all a_text a_saved a_undone f_undos f_reached f_length f_begin f_sort f_sign f_value f_word f_wrongAt f_badAt f_bad a_told f_read f_side a_pile f_piled a_open f_opened f_joins f_had a_size a_capped a_connected a_bestCost a_bestCrosses a_bestPart a_part a_trees f_treeMany a_nodes f_nodeMany f_moveNode f_movePart f_moveFirst f_moveThen f_moveOther a_out f_outMany a_kept), (a_all, aI G 1276 g_all), (a_bestCost, aJ G 512 v35), (a_bestCrosses, aI G 512 v36), (a_bestPart, aI G 512 g_bestPart), (a_size, aJ G 256 g_size)] := hD
          refine lv_aload_n hx hb d_R_laysBest_226 rfl (lv_at hl 0 rfl) ?_
          refine va_get (D := G.1) (ci := 12) (v := .ref a_bestPart) (C := n_R) (T := T_R) (N := 44) hx hb htl iw_R hown hK hP 0 rfl rfl 30 (by decide) (htl _ k_1226) (fun _ h9 => h9) rfl d_R_laysBest_227 ?_
          refine lv_iload_n hx hb d_R_laysBest_230 rfl (lv_at hl 3 rfl) ?_
          refine lv_iload hx hb d_R_laysBest_231 (lv_at hl 4 rfl) ?_
          refine nx_iast hx hb hK hP hD hS 4 1 rfl rfl c34 d_R_laysBest_233 (fun v37 ev37 H locs hP hD hS => ?_)
          have hf := dn_e ev37 hf
          have hP : va_P G.1 classes [(h0, O_R f_raised a_all a_text a_saved a_undone f_undos f_reached f_length f_begin f_sort f_sign f_value f_word f_wrongAt f_badAt f_bad a_told f_read f_side a_pile f_piled a_open f_opened f_joins f_had a_size a_capped a_connected a_bestCost a_bestCrosses a_bestPart a_part a_trees f_treeMany a_nodes f_nodeMany f_moveNode f_movePart f_moveFirst f_moveThen f_moveOther a_out f_outMany a_kept), (a_all, aI G 1276 g_all), (a_bestCost, aJ G 512 v35), (a_bestCrosses, aI G 512 v36), (a_bestPart, aI G 512 v37), (a_size, aJ G 256 g_size)] H := hP
          have hD : va_D A [(h0, O_R f_raised a_all a_text a_saved a_undone f_undos f_reached f_length f_begin f_sort f_sign f_value f_word f_wrongAt f_badAt f_bad a_told f_read f_side a_pile f_piled a_open f_opened f_joins f_had a_size a_capped a_connected a_bestCost a_bestCrosses a_bestPart a_part a_trees f_treeMany a_nodes f_nodeMany f_moveNode f_movePart f_moveFirst f_moveThen f_moveOther a_out f_outMany a_kept), (a_all, aI G 1276 g_all), (a_bestCost, aJ G 512 v35), (a_bestCrosses, aI G 512 v36), (a_bestPart, aI G 512 v37), (a_size, aJ G 256 g_size)] := hD
          obtain ⟨v38, ev38⟩ : ∃ z : Int32, z = x4 + (1 : Int32) := ⟨_, rfl⟩
          have hf := dn_e ev38 hf
          refine lv_iinc (v := v38) (lv' := [(4, .int v38), (0, .ref h0), (1, .int x1), (2, .int x2), (3, .int x3), (6, .int x6), (7, .long x7)]) hx hb d_R_laysBest_234 hl (k := 4) rfl (by rw [ev38]; rfl) (by decide) rfl (fun ls hl => ?_)
          refine lv_goto (tgt := 28) hx hb d_R_laysBest_237 (by decide) ?_
          exact ih28 v35 v36 v37 v38 H locs ls (lpk_i hf hk28) ⟨hP, hD, hS⟩ (lv_sub hl [1, 2, 3, 4, 0] rfl)
        have hJ132 : ∀ (g_bestCost : Nat → Int64) (g_bestCrosses : Nat → Int32) (g_bestPart : Nat → Int32) (x4 : Int32) (x5 : Int32) (z0 : Int32) (z1 : Int32) (H : Heap) (locs : List Loc) (ls : Array Slot), PDS G.1 classes A s [(h0, O_R f_raised a_all a_text a_saved a_undone f_undos f_reached f_length f_begin f_sort f_sign f_value f_word f_wrongAt f_badAt f_bad a_told f_read f_side a_pile f_piled a_open f_opened f_joins f_had a_size a_capped a_connected a_bestCost a_bestCrosses a_bestPart a_part a_trees f_treeMany a_nodes f_nodeMany f_moveNode f_movePart f_moveFirst f_moveThen f_moveOther a_out f_outMany a_kept), (a_all, aI G 1276 g_all), (a_bestCost, aJ G 512 g_bestCost), (a_bestCrosses, aI G 512 g_bestCrosses), (a_bestPart, aI G 512 g_bestPart), (a_size, aJ G 256 g_size)] H locs → lv_has ls 9 [(0, .ref h0), (1, .int x1), (2, .int x2), (3, .int x3), (4, .int x4), (5, .int x5)] → R_laysBest_132 N g_all g_bestCost g_bestCrosses g_bestPart g_size x1 x2 x3 x4 x5 z0 z1 = some r28 → W p l e (rmk 2) s m args below meth c H locs 0 0 Q (F0 m 132 ls [.int z1, .int z0]) := by
          intro g_bestCost g_bestCrosses g_bestPart x4 x5 z0 z1 H locs ls wq hl hf
          obtain ⟨hP, hD, hS⟩ := wq
          refine lv_iadd hx hb d_R_laysBest_132 ?_
          refine lv_topi (fun v22 ev22 => ?_)
          have hf := dn_e ev22 hf
          refine lv_istore (lv' := [(6, .int v22), (0, .ref h0), (1, .int x1), (2, .int x2), (3, .int x3), (4, .int x4), (5, .int x5)]) hx hb d_R_laysBest_133 hl (by decide) rfl (fun ls hl => ?_)
          refine lv_aload_n hx hb d_R_laysBest_135 rfl (lv_at hl 1 rfl) ?_
          refine va_get (D := G.1) (ci := 12) (v := .ref a_bestCost) (C := n_R) (T := T_R) (N := 44) hx hb htl iw_R hown hK hP 0 rfl rfl 28 (by decide) (htl _ k_1224) (fun _ h9 => h9) rfl d_R_laysBest_136 ?_
          refine lv_iload_n hx hb d_R_laysBest_139 rfl (lv_at hl 3 rfl) ?_
          refine lv_iload hx hb d_R_laysBest_140 (lv_at hl 5 rfl) ?_
          refine lv_iadd hx hb d_R_laysBest_142 ?_
          obtain ⟨c23, hf⟩ := dk_e hf
          refine va_lald hx hb hK hP 2 2 rfl rfl c23 d_R_laysBest_143 ?_
          refine lv_aload_n hx hb d_R_laysBest_144 rfl (lv_at hl 1 rfl) ?_
          refine va_get (D := G.1) (ci := 12) (v := .ref a_bestCost) (C := n_R) (T := T_R) (N := 44) hx hb htl iw_R hown hK hP 0 rfl rfl 28 (by decide) (htl _ k_1224) (fun _ h9 => h9) rfl d_R_laysBest_145 ?_
          refine lv_iload_n hx hb d_R_laysBest_148 rfl (lv_at hl 3 rfl) ?_
          refine lv_iload hx hb d_R_laysBest_149 (lv_at hl 6 rfl) ?_
          refine lv_iadd hx hb d_R_laysBest_151 ?_
          obtain ⟨c24, hf⟩ := dk_e hf
          refine va_lald hx hb hK hP 2 2 rfl rfl c24 d_R_laysBest_152 ?_
          refine call_l (isC := []) (run_S (As := [.long (g_bestCost (x2 + x4).toNatClampNeg), .long (g_bestCost (x2 + x5).toNatClampNeg)]) (rest := []) hx hb hml hown htl (c_R_sum l G Y  (g_bestCost (x2 + x4).toNatClampNeg) (g_bestCost (x2 + x5).toNatClampNeg) _ rfl) ms_R_sum k_1539 (hRk (by decide) (by decide)) hK hsk hS hP hD (isC := []) rfl (by decide) rfl hl.1 rfl (lv_room (Nat.le_of_ble_eq_true rfl)) d_R_laysBest_153) hP hD hS rfl rfl (fun H locs hP hD hS => ?_)
          have hP : va_P G.1 classes [(h0, O_R f_raised a_all a_text a_saved a_undone f_undos f_reached f_length f_begin f_sort f_sign f_value f_word f_wrongAt f_badAt f_bad a_told f_read f_side a_pile f_piled a_open f_opened f_joins f_had a_size a_capped a_connected a_bestCost a_bestCrosses a_bestPart a_part a_trees f_treeMany a_nodes f_nodeMany f_moveNode f_movePart f_moveFirst f_moveThen f_moveOther a_out f_outMany a_kept), (a_all, aI G 1276 g_all), (a_bestCost, aJ G 512 g_bestCost), (a_bestCrosses, aI G 512 g_bestCrosses), (a_bestPart, aI G 512 g_bestPart), (a_size, aJ G 256 g_size)] H := hP
          have hD : va_D A [(h0, O_R f_raised a_all a_text a_saved a_undone f_undos f_reached f_length f_begin f_sort f_sign f_value f_word f_wrongAt f_badAt f_bad a_told f_read f_side a_pile f_piled a_open f_opened f_joins f_had a_size a_capped a_connected a_bestCost a_bestCrosses a_bestPart a_part a_trees f_treeMany a_nodes f_nodeMany f_moveNode f_movePart f_moveFirst f_moveThen f_moveOther a_out f_outMany a_kept), (a_all, aI G 1276 g_all), (a_bestCost, aJ G 512 g_bestCost), (a_bestCrosses, aI G 512 g_bestCrosses), (a_bestPart, aI G 512 g_bestPart), (a_size, aJ G 256 g_size)] := hD
          refine lv_aload_n hx hb d_R_laysBest_156 rfl (lv_at hl 1 rfl) ?_
          refine va_get (D := G.1) (ci := 12) (v := .ref a_size) (C := n_R) (T := T_R) (N := 44) hx hb htl iw_R hown hK hP 0 rfl rfl 25 (by decide) (htl _ k_1221) (fun _ h9 => h9) rfl d_R_laysBest_157 ?_
          refine lv_iload_n hx hb d_R_laysBest_160 rfl (lv_at hl 2 rfl) ?_
          obtain ⟨c25, hf⟩ := dk_e hf
          refine va_lald hx hb hK hP 5 2 rfl rfl c25 d_R_laysBest_161 ?_
          refine call_l (isC := []) (run_S (As := [.long (R_sum (g_bestCost (x2 + x4).toNatClampNeg) (g_bestCost (x2 + x5).toNatClampNeg)), .long (g_size x1.toNatClampNeg)]) (rest := []) hx hb hml hown htl (c_R_sum l G Y  (R_sum (g_bestCost (x2 + x4).toNatClampNeg) (g_bestCost (x2 + x5).toNatClampNeg)) (g_size x1.toNatClampNeg) _ rfl) ms_R_sum k_1539 (hRk (by decide) (by decide)) hK hsk hS hP hD (isC := []) rfl (by decide) rfl hl.1 rfl (lv_room (Nat.le_of_ble_eq_true rfl)) d_R_laysBest_162) hP hD hS rfl rfl (fun H locs hP hD hS => ?_)
          have hP : va_P G.1 classes [(h0, O_R f_raised a_all a_text a_saved a_undone f_undos f_reached f_length f_begin f_sort f_sign f_value f_word f_wrongAt f_badAt f_bad a_told f_read f_side a_pile f_piled a_open f_opened f_joins f_had a_size a_capped a_connected a_bestCost a_bestCrosses a_bestPart a_part a_trees f_treeMany a_nodes f_nodeMany f_moveNode f_movePart f_moveFirst f_moveThen f_moveOther a_out f_outMany a_kept), (a_all, aI G 1276 g_all), (a_bestCost, aJ G 512 g_bestCost), (a_bestCrosses, aI G 512 g_bestCrosses), (a_bestPart, aI G 512 g_bestPart), (a_size, aJ G 256 g_size)] H := hP
          have hD : va_D A [(h0, O_R f_raised a_all a_text a_saved a_undone f_undos f_reached f_length f_begin f_sort f_sign f_value f_word f_wrongAt f_badAt f_bad a_told f_read f_side a_pile f_piled a_open f_opened f_joins f_had a_size a_capped a_connected a_bestCost a_bestCrosses a_bestPart a_part a_trees f_treeMany a_nodes f_nodeMany f_moveNode f_movePart f_moveFirst f_moveThen f_moveOther a_out f_outMany a_kept), (a_all, aI G 1276 g_all), (a_bestCost, aJ G 512 g_bestCost), (a_bestCrosses, aI G 512 g_bestCrosses), (a_bestPart, aI G 512 g_bestPart), (a_size, aJ G 256 g_size)] := hD
          refine lv_topl (fun v26 ev26 => ?_)
          have hf := dn_e ev26 hf
          refine lv_lstore (lv' := [(7, .long v26), (6, .int v22), (0, .ref h0), (1, .int x1), (2, .int x2), (3, .int x3), (4, .int x4), (5, .int x5)]) hx hb d_R_laysBest_165 hl (by decide) rfl (fun ls hl => ?_)
          refine lv_aload_n hx hb d_R_laysBest_167 rfl (lv_at hl 2 rfl) ?_
          refine va_get (D := G.1) (ci := 12) (v := .ref a_bestPart) (C := n_R) (T := T_R) (N := 44) hx hb htl iw_R hown hK hP 0 rfl rfl 30 (by decide) (htl _ k_1226) (fun _ h9 => h9) rfl d_R_laysBest_168 ?_
          refine lv_iload_n hx hb d_R_laysBest_171 rfl (lv_at hl 5 rfl) ?_
          obtain ⟨c27, hf⟩ := dk_e hf
          refine va_iald hx hb hK hP 4 1 rfl rfl c27 d_R_laysBest_172 ?_
          refine lv_if_eq (tgt := 210) hx hb d_R_laysBest_173 (by decide) (fun c28 => ?_) (fun c28 => ?_)
          · have hf := di_t c28 hf
            exact hJ210 g_bestCost g_bestCrosses g_bestPart x4 v22 v26 H locs ls ⟨hP, hD, hS⟩ (lv_sub hl [2, 3, 4, 5, 6, 1, 0] rfl) hf
          · have hf := di_f c28 hf
            refine lv_iload hx hb d_R_laysBest_176 (lv_at hl 1 rfl) ?_
            refine lv_aload_n hx hb d_R_laysBest_178 rfl (lv_at hl 2 rfl) ?_
            refine va_get (D := G.1) (ci := 12) (v := .ref a_bestCrosses) (C := n_R) (T := T_R) (N := 44) hx hb htl iw_R hown hK hP 0 rfl rfl 29 (by decide) (htl _ k_1225) (fun _ h9 => h9) rfl d_R_laysBest_179 ?_
            refine lv_iload_n hx hb d_R_laysBest_182 rfl (lv_at hl 5 rfl) ?_
            refine va_iald hx hb hK hP 3 1 rfl rfl c27 d_R_laysBest_183 ?_
            refine lv_icmp_lt (tgt := 210) hx hb d_R_laysBest_184 (by decide) (fun c29 => ?_) (fun c29 => ?_)
            · have hf := di_t c29 hf
              exact hJ210 g_bestCost g_bestCrosses g_bestPart x4 v22 v26 H locs ls ⟨hP, hD, hS⟩ (lv_sub hl [2, 3, 4, 5, 6, 1, 0] rfl) hf
            · have hf := di_f c29 hf
              refine lv_iload hx hb d_R_laysBest_187 (lv_at hl 1 rfl) ?_
              refine lv_aload_n hx hb d_R_laysBest_189 rfl (lv_at hl 2 rfl) ?_
              refine va_get (D := G.1) (ci := 12) (v := .ref a_bestCrosses) (C := n_R) (T := T_R) (N := 44) hx hb htl iw_R hown hK hP 0 rfl rfl 29 (by decide) (htl _ k_1225) (fun _ h9 => h9) rfl d_R_laysBest_190 ?_
              refine lv_iload_n hx hb d_R_laysBest_193 rfl (lv_at hl 5 rfl) ?_
              refine va_iald hx hb hK hP 3 1 rfl rfl c27 d_R_laysBest_194 ?_
              refine lv_icmp_ne (tgt := 234) hx hb d_R_laysBest_195 (by decide) (fun c30 => ?_) (fun c30 => ?_)
              · have hf := di_f c30 hf
                obtain ⟨v31, ev31⟩ : ∃ z : Int32, z = x4 + (1 : Int32) := ⟨_, rfl⟩
                have hf := dn_e ev31 hf
                refine lv_iinc (v := v31) (lv' := [(4, .int v31), (7, .long v26), (6, .int v22), (0, .ref h0), (1, .int x1), (2, .int x2), (3, .int x3), (5, .int x5)]) hx hb d_R_laysBest_234 hl (k := 6) rfl (by rw [ev31]; rfl) (by decide) rfl (fun ls hl => ?_)
                refine lv_goto (tgt := 28) hx hb d_R_laysBest_237 (by decide) ?_
                exact ih28 g_bestCost g_bestCrosses g_bestPart v31 H locs ls (lpk_i hf hk28) ⟨hP, hD, hS⟩ (lv_sub hl [3, 4, 5, 6, 0] rfl)
              · have hf := di_t c30 hf
                refine lv_lload hx hb d_R_laysBest_198 (lv_at hl 0 rfl) ?_
                refine lv_aload_n hx hb d_R_laysBest_200 rfl (lv_at hl 2 rfl) ?_
                refine va_get (D := G.1) (ci := 12) (v := .ref a_bestCost) (C := n_R) (T := T_R) (N := 44) hx hb htl iw_R hown hK hP 0 rfl rfl 28 (by decide) (htl _ k_1224) (fun _ h9 => h9) rfl d_R_laysBest_201 ?_
                refine lv_iload_n hx hb d_R_laysBest_204 rfl (lv_at hl 5 rfl) ?_
                refine va_lald hx hb hK hP 2 2 rfl rfl c27 d_R_laysBest_205 ?_
                refine lx_ge (tgt := 234) hx hb d_R_laysBest_206 d_R_laysBest_207 (by decide) (fun c32 => ?_) (fun c32 => ?_)
                · have hf := di_f c32 hf
                  obtain ⟨v33, ev33⟩ : ∃ z : Int32, z = x4 + (1 : Int32) := ⟨_, rfl⟩
                  have hf := dn_e ev33 hf
                  refine lv_iinc (v := v33) (lv' := [(4, .int v33), (7, .long v26), (6, .int v22), (0, .ref h0), (1, .int x1), (2, .int x2), (3, .int x3), (5, .int x5)]) hx hb d_R_laysBest_234 hl (k := 6) rfl (by rw [ev33]; rfl) (by decide) rfl (fun ls hl => ?_)
                  refine lv_goto (tgt := 28) hx hb d_R_laysBest_237 (by decide) ?_
                  exact ih28 g_bestCost g_bestCrosses g_bestPart v33 H locs ls (lpk_i hf hk28) ⟨hP, hD, hS⟩ (lv_sub hl [3, 4, 5, 6, 0] rfl)
                · have hf := di_t c32 hf
                  exact hJ210 g_bestCost g_bestCrosses g_bestPart x4 v22 v26 H locs ls ⟨hP, hD, hS⟩ (lv_sub hl [2, 3, 4, 5, 6, 1, 0] rfl) hf
        have hJ89 : ∀ (g_bestCost : Nat → Int64) (g_bestCrosses : Nat → Int32) (g_bestPart : Nat → Int32) (x4 : Int32) (H : Heap) (locs : List Loc) (ls : Array Slot), PDS G.1 classes A s [(h0, O_R f_raised a_all a_text a_saved a_undone f_undos f_reached f_length f_begin f_sort f_sign f_value f_word f_wrongAt f_badAt f_bad a_told f_read f_side a_pile f_piled a_open f_opened f_joins f_had a_size a_capped a_connected a_bestCost a_bestCrosses a_bestPart a_part a_trees f_treeMany a_nodes f_nodeMany f_moveNode f_movePart f_moveFirst f_moveThen f_moveOther a_out f_outMany a_kept), (a_all, aI G 1276 g_all), (a_bestCost, aJ G 512 g_bestCost), (a_bestCrosses, aI G 512 g_bestCrosses), (a_bestPart, aI G 512 g_bestPart), (a_size, aJ G 256 g_size)] H locs → lv_has ls 9 [(0, .ref h0), (1, .int x1), (2, .int x2), (3, .int x3), (4, .int x4)] → R_laysBest_89 N g_all g_bestCost g_bestCrosses g_bestPart g_size x1 x2 x3 x4 = some r28 → W p l e (rmk 2) s m args below meth c H locs 0 0 Q (F0 m 89 ls []) := by
          intro g_bestCost g_bestCrosses g_bestPart x4 H locs ls wq hl hf
          obtain ⟨hP, hD, hS⟩ := wq
          refine lv_iload_n hx hb d_R_laysBest_89 rfl (lv_at hl 1 rfl) ?_
          refine lv_iload hx hb d_R_laysBest_90 (lv_at hl 4 rfl) ?_
          refine lv_iconst (v := (-1 : Int32)) hx hb d_R_laysBest_92 (by decide) ?_
          refine lv_ixor hx hb d_R_laysBest_93 ?_
          refine lv_iand hx hb d_R_laysBest_94 ?_
          refine lv_topi (fun v16 ev16 => ?_)
          have hf := dn_e ev16 hf
          refine lv_istore (lv' := [(5, .int v16), (0, .ref h0), (1, .int x1), (2, .int x2), (3, .int x3), (4, .int x4)]) hx hb d_R_laysBest_95 hl (by decide) rfl (fun ls hl => ?_)
          refine lv_aload_n hx hb d_R_laysBest_97 rfl (lv_at hl 1 rfl) ?_
          refine va_get (D := G.1) (ci := 12) (v := .ref a_bestCrosses) (C := n_R) (T := T_R) (N := 44) hx hb htl iw_R hown hK hP 0 rfl rfl 29 (by decide) (htl _ k_1225) (fun _ h9 => h9) rfl d_R_laysBest_98 ?_
          refine lv_iload_n hx hb d_R_laysBest_101 rfl (lv_at hl 3 rfl) ?_
          refine lv_iload hx hb d_R_laysBest_102 (lv_at hl 5 rfl) ?_
          refine lv_iadd hx hb d_R_laysBest_104 ?_
          obtain ⟨c17, hf⟩ := dk_e hf
          refine va_iald hx hb hK hP 3 1 rfl rfl c17 d_R_laysBest_105 ?_
          refine lv_aload_n hx hb d_R_laysBest_106 rfl (lv_at hl 1 rfl) ?_
          refine va_get (D := G.1) (ci := 12) (v := .ref a_bestCrosses) (C := n_R) (T := T_R) (N := 44) hx hb htl iw_R hown hK hP 0 rfl rfl 29 (by decide) (htl _ k_1225) (fun _ h9 => h9) rfl d_R_laysBest_107 ?_
          refine lv_iload_n hx hb d_R_laysBest_110 rfl (lv_at hl 3 rfl) ?_
          refine lv_iload hx hb d_R_laysBest_111 (lv_at hl 0 rfl) ?_
          refine lv_iadd hx hb d_R_laysBest_113 ?_
          obtain ⟨c18, hf⟩ := dk_e hf
          refine va_iald hx hb hK hP 3 1 rfl rfl c18 d_R_laysBest_114 ?_
          refine lv_iadd hx hb d_R_laysBest_115 ?_
          refine lv_aload_n hx hb d_R_laysBest_116 rfl (lv_at hl 1 rfl) ?_
          refine lv_iload hx hb d_R_laysBest_117 (lv_at hl 5 rfl) ?_
          refine lv_iload hx hb d_R_laysBest_119 (lv_at hl 0 rfl) ?_
          obtain ⟨t19, hv20, hf⟩ := db_e hf
          refine call_i (isC := [0, 1]) (run_V (As := [.int x4, .int v16]) (rest := [.int ((g_bestCrosses (x2 + x4).toNatClampNeg) + (g_bestCrosses (x2 + v16).toNatClampNeg))]) (ci := 12) (q0 := 0) hx hb hml hown htl (c_R_isJoined l G Y  h0 a_all a_text a_saved a_undone a_told a_pile a_open a_size a_capped a_connected a_bestCost a_bestCrosses a_bestPart a_part a_trees a_nodes a_out a_kept f_raised f_undos f_reached f_length f_begin f_sort f_sign f_value f_word f_wrongAt f_badAt f_bad f_read f_side f_piled f_opened f_joins f_had f_treeMany f_nodeMany f_moveNode f_movePart f_moveFirst f_moveThen f_moveOther f_outMany g_all x4 v16 N t19 hv20) mv_R_isJoined k_1531 (hRk (by decide) (by decide)) hK hsk hS hP hD (isC := [0, 1]) rfl (by decide) rfl rfl rfl hl.1 rfl (lv_room (Nat.le_of_ble_eq_true rfl)) d_R_laysBest_121) hP hD hS rfl rfl (fun H locs hP hD hS => ?_)
          have hP : va_P G.1 classes [(h0, O_R f_raised a_all a_text a_saved a_undone f_undos f_reached f_length f_begin f_sort f_sign f_value f_word f_wrongAt f_badAt f_bad a_told f_read f_side a_pile f_piled a_open f_opened f_joins f_had a_size a_capped a_connected a_bestCost a_bestCrosses a_bestPart a_part a_trees f_treeMany a_nodes f_nodeMany f_moveNode f_movePart f_moveFirst f_moveThen f_moveOther a_out f_outMany a_kept), (a_all, aI G 1276 g_all), (a_bestCost, aJ G 512 g_bestCost), (a_bestCrosses, aI G 512 g_bestCrosses), (a_bestPart, aI G 512 g_bestPart), (a_size, aJ G 256 g_size)] H := hP
          have hD : va_D A [(h0, O_R f_raised a_all a_text a_saved a_undone f_undos f_reached f_length f_begin f_sort f_sign f_value f_word f_wrongAt f_badAt f_bad a_told f_read f_side a_pile f_piled a_open f_opened f_joins f_had a_size a_capped a_connected a_bestCost a_bestCrosses a_bestPart a_part a_trees f_treeMany a_nodes f_nodeMany f_moveNode f_movePart f_moveFirst f_moveThen f_moveOther a_out f_outMany a_kept), (a_all, aI G 1276 g_all), (a_bestCost, aJ G 512 g_bestCost), (a_bestCrosses, aI G 512 g_bestCrosses), (a_bestPart, aI G 512 g_bestPart), (a_size, aJ G 256 g_size)] := hD
          refine lv_if_eq (tgt := 131) hx hb d_R_laysBest_124 (by decide) (fun c21 => ?_) (fun c21 => ?_)
          · have hf := di_t c21 hf
            refine lv_iconst (v := (1 : Int32)) hx hb d_R_laysBest_131 (by decide) ?_
            exact hJ132 g_bestCost g_bestCrosses g_bestPart x4 v16 ((g_bestCrosses (x2 + x4).toNatClampNeg) + (g_bestCrosses (x2 + v16).toNatClampNeg)) (1 : Int32) H locs ls ⟨hP, hD, hS⟩ (lv_sub hl [1, 2, 3, 4, 5, 0] rfl) hf
          · have hf := di_f c21 hf
            refine lv_iconst (v := (0 : Int32)) hx hb d_R_laysBest_127 (by decide) ?_
            refine lv_goto (tgt := 132) hx hb d_R_laysBest_128 (by decide) ?_
            exact hJ132 g_bestCost g_bestCrosses g_bestPart x4 v16 ((g_bestCrosses (x2 + x4).toNatClampNeg) + (g_bestCrosses (x2 + v16).toNatClampNeg)) (0 : Int32) H locs ls ⟨hP, hD, hS⟩ (lv_sub hl [1, 2, 3, 4, 5, 0] rfl) hf
        refine lv_iload hx hb d_R_laysBest_28 (lv_at hl 4 rfl) ?_
        refine lv_iload_n hx hb d_R_laysBest_30 rfl (lv_at hl 1 rfl) ?_
        refine lv_icmp_ge (tgt := 240) hx hb d_R_laysBest_31 (by decide) (fun c6 => ?_) (fun c6 => ?_)
        · have hf := di_t c6 hf
          have hq28 := lpk_x hf hk28
          have hf := ex_y (f := fun y => R_laysBest_a28 N g_all g_size x1 x2 x3 y) hq28 hfo28
          have hf : R_laysBest_240 N g_all g_bestCost g_bestCrosses g_bestPart g_size = some res := hf
          exact hJ240 g_bestCost g_bestCrosses g_bestPart H locs ls ⟨hP, hD, hS⟩ (lv_sub hl [] rfl) hf
        · have hf := di_f c6 hf
          refine lv_iload_n hx hb d_R_laysBest_34 rfl (lv_at hl 1 rfl) ?_
          refine call_i (isC := []) (run_S (As := [.int x1]) (rest := []) hx hb hml hown htl (c_R_isOne l G Y  x1 _ rfl) ms_R_isOne k_1520 (hRk (by decide) (by decide)) hK hsk hS hP hD (isC := []) rfl (by decide) rfl hl.1 rfl (lv_room (Nat.le_of_ble_eq_true rfl)) d_R_laysBest_35) hP hD hS rfl rfl (fun H locs hP hD hS => ?_)
          have hP : va_P G.1 classes [(h0, O_R f_raised a_all a_text a_saved a_undone f_undos f_reached f_length f_begin f_sort f_sign f_value f_word f_wrongAt f_badAt f_bad a_told f_read f_side a_pile f_piled a_open f_opened f_joins f_had a_size a_capped a_connected a_bestCost a_bestCrosses a_bestPart a_part a_trees f_treeMany a_nodes f_nodeMany f_moveNode f_movePart f_moveFirst f_moveThen f_moveOther a_out f_outMany a_kept), (a_all, aI G 1276 g_all), (a_bestCost, aJ G 512 g_bestCost), (a_bestCrosses, aI G 512 g_bestCrosses), (a_bestPart, aI G 512 g_bestPart), (a_size, aJ G 256 g_size)] H := hP
          have hD : va_D A [(h0, O_R f_raised a_all a_text a_saved a_undone f_undos f_reached f_length f_begin f_sort f_sign f_value f_word f_wrongAt f_badAt f_bad a_told f_read f_side a_pile f_piled a_open f_opened f_joins f_had a_size a_capped a_connected a_bestCost a_bestCrosses a_bestPart a_part a_trees f_treeMany a_nodes f_nodeMany f_moveNode f_movePart f_moveFirst f_moveThen f_moveOther a_out f_outMany a_kept), (a_all, aI G 1276 g_all), (a_bestCost, aJ G 512 g_bestCost), (a_bestCrosses, aI G 512 g_bestCrosses), (a_bestPart, aI G 512 g_bestPart), (a_size, aJ G 256 g_size)] := hD
          refine lv_if_ne (tgt := 240) hx hb d_R_laysBest_38 (by decide) (fun c7 => ?_) (fun c7 => ?_)
          · have hf := di_f c7 hf
            have hq28 := lpk_x hf hk28
            have hf := ex_y (f := fun y => R_laysBest_a28 N g_all g_size x1 x2 x3 y) hq28 hfo28
            have hf : R_laysBest_240 N g_all g_bestCost g_bestCrosses g_bestPart g_size = some res := hf
            exact hJ240 g_bestCost g_bestCrosses g_bestPart H locs ls ⟨hP, hD, hS⟩ (lv_sub hl [] rfl) hf
          · have hf := di_t c7 hf
            refine lv_iload hx hb d_R_laysBest_41 (lv_at hl 4 rfl) ?_
            refine lv_iload_n hx hb d_R_laysBest_43 rfl (lv_at hl 1 rfl) ?_
            refine call_i (isC := []) (run_S (As := [.int x4, .int x1]) (rest := []) hx hb hml hown htl (c_R_isIn l G Y  x4 x1 _ rfl) ms_R_isIn k_1470 (hRk (by decide) (by decide)) hK hsk hS hP hD (isC := []) rfl (by decide) rfl hl.1 rfl (lv_room (Nat.le_of_ble_eq_true rfl)) d_R_laysBest_44) hP hD hS rfl rfl (fun H locs hP hD hS => ?_)
            have hP : va_P G.1 classes [(h0, O_R f_raised a_all a_text a_saved a_undone f_undos f_reached f_length f_begin f_sort f_sign f_value f_word f_wrongAt f_badAt f_bad a_told f_read f_side a_pile f_piled a_open f_opened f_joins f_had a_size a_capped a_connected a_bestCost a_bestCrosses a_bestPart a_part a_trees f_treeMany a_nodes f_nodeMany f_moveNode f_movePart f_moveFirst f_moveThen f_moveOther a_out f_outMany a_kept), (a_all, aI G 1276 g_all), (a_bestCost, aJ G 512 g_bestCost), (a_bestCrosses, aI G 512 g_bestCrosses), (a_bestPart, aI G 512 g_bestPart), (a_size, aJ G 256 g_size)] H := hP
            have hD : va_D A [(h0, O_R f_raised a_all a_text a_saved a_undone f_undos f_reached f_length f_begin f_sort f_sign f_value f_word f_wrongAt f_badAt f_bad a_told f_read f_side a_pile f_piled a_open f_opened f_joins f_had a_size a_capped a_connected a_bestCost a_bestCrosses a_bestPart a_part a_trees f_treeMany a_nodes f_nodeMany f_moveNode f_movePart f_moveFirst f_moveThen f_moveOther a_out f_outMany a_kept), (a_all, aI G 1276 g_all), (a_bestCost, aJ G 512 g_bestCost), (a_bestCrosses, aI G 512 g_bestCrosses), (a_bestPart, aI G 512 g_bestPart), (a_size, aJ G 256 g_size)] := hD
            refine lv_if_eq (tgt := 234) hx hb d_R_laysBest_47 (by decide) (fun c8 => ?_) (fun c8 => ?_)
            · have hf := di_t c8 hf
              obtain ⟨v9, ev9⟩ : ∃ z : Int32, z = x4 + (1 : Int32) := ⟨_, rfl⟩
              have hf := dn_e ev9 hf
              refine lv_iinc (v := v9) (lv' := [(4, .int v9), (0, .ref h0), (1, .int x1), (2, .int x2), (3, .int x3)]) hx hb d_R_laysBest_234 hl (k := 4) rfl (by rw [ev9]; rfl) (by decide) rfl (fun ls hl => ?_)
              refine lv_goto (tgt := 28) hx hb d_R_laysBest_237 (by decide) ?_
              exact ih28 g_bestCost g_bestCrosses g_bestPart v9 H locs ls (lpk_i hf hk28) ⟨hP, hD, hS⟩ (lv_sub hl [1, 2, 3, 4, 0] rfl)
            · have hf := di_f c8 hf
              refine lv_iload_n hx hb d_R_laysBest_50 rfl (lv_at hl 1 rfl) ?_
              refine call_i (isC := []) (run_S (As := [.int x1]) (rest := []) hx hb hml hown htl (c_R_least l G Y  x1 _ rfl) ms_R_least k_1434 (hRk (by decide) (by decide)) hK hsk hS hP hD (isC := []) rfl (by decide) rfl hl.1 rfl (lv_room (Nat.le_of_ble_eq_true rfl)) d_R_laysBest_51) hP hD hS rfl rfl (fun H locs hP hD hS => ?_)
              have hP : va_P G.1 classes [(h0, O_R f_raised a_all a_text a_saved a_undone f_undos f_reached f_length f_begin f_sort f_sign f_value f_word f_wrongAt f_badAt f_bad a_told f_read f_side a_pile f_piled a_open f_opened f_joins f_had a_size a_capped a_connected a_bestCost a_bestCrosses a_bestPart a_part a_trees f_treeMany a_nodes f_nodeMany f_moveNode f_movePart f_moveFirst f_moveThen f_moveOther a_out f_outMany a_kept), (a_all, aI G 1276 g_all), (a_bestCost, aJ G 512 g_bestCost), (a_bestCrosses, aI G 512 g_bestCrosses), (a_bestPart, aI G 512 g_bestPart), (a_size, aJ G 256 g_size)] H := hP
              have hD : va_D A [(h0, O_R f_raised a_all a_text a_saved a_undone f_undos f_reached f_length f_begin f_sort f_sign f_value f_word f_wrongAt f_badAt f_bad a_told f_read f_side a_pile f_piled a_open f_opened f_joins f_had a_size a_capped a_connected a_bestCost a_bestCrosses a_bestPart a_part a_trees f_treeMany a_nodes f_nodeMany f_moveNode f_movePart f_moveFirst f_moveThen f_moveOther a_out f_outMany a_kept), (a_all, aI G 1276 g_all), (a_bestCost, aJ G 512 g_bestCost), (a_bestCrosses, aI G 512 g_bestCrosses), (a_bestPart, aI G 512 g_bestPart), (a_size, aJ G 256 g_size)] := hD
              refine lv_iload hx hb d_R_laysBest_54 (lv_at hl 4 rfl) ?_
              refine call_i (isC := []) (run_S (As := [.int (R_least x1), .int x4]) (rest := []) hx hb hml hown htl (c_R_isIn l G Y  (R_least x1) x4 _ rfl) ms_R_isIn k_1470 (hRk (by decide) (by decide)) hK hsk hS hP hD (isC := []) rfl (by decide) rfl hl.1 rfl (lv_room (Nat.le_of_ble_eq_true rfl)) d_R_laysBest_56) hP hD hS rfl rfl (fun H locs hP hD hS => ?_)
              have hP : va_P G.1 classes [(h0, O_R f_raised a_all a_text a_saved a_undone f_undos f_reached f_length f_begin f_sort f_sign f_value f_word f_wrongAt f_badAt f_bad a_told f_read f_side a_pile f_piled a_open f_opened f_joins f_had a_size a_capped a_connected a_bestCost a_bestCrosses a_bestPart a_part a_trees f_treeMany a_nodes f_nodeMany f_moveNode f_movePart f_moveFirst f_moveThen f_moveOther a_out f_outMany a_kept), (a_all, aI G 1276 g_all), (a_bestCost, aJ G 512 g_bestCost), (a_bestCrosses, aI G 512 g_bestCrosses), (a_bestPart, aI G 512 g_bestPart), (a_size, aJ G 256 g_size)] H := hP
              have hD : va_D A [(h0, O_R f_raised a_all a_text a_saved a_undone f_undos f_reached f_length f_begin f_sort f_sign f_value f_word f_wrongAt f_badAt f_bad a_told f_read f_side a_pile f_piled a_open f_opened f_joins f_had a_size a_capped a_connected a_bestCost a_bestCrosses a_bestPart a_part a_trees f_treeMany a_nodes f_nodeMany f_moveNode f_movePart f_moveFirst f_moveThen f_moveOther a_out f_outMany a_kept), (a_all, aI G 1276 g_all), (a_bestCost, aJ G 512 g_bestCost), (a_bestCrosses, aI G 512 g_bestCrosses), (a_bestPart, aI G 512 g_bestPart), (a_size, aJ G 256 g_size)] := hD
              refine lv_if_eq (tgt := 234) hx hb d_R_laysBest_59 (by decide) (fun c10 => ?_) (fun c10 => ?_)
              · have hf := di_t c10 hf
                obtain ⟨v11, ev11⟩ : ∃ z : Int32, z = x4 + (1 : Int32) := ⟨_, rfl⟩
                have hf := dn_e ev11 hf
                refine lv_iinc (v := v11) (lv' := [(4, .int v11), (0, .ref h0), (1, .int x1), (2, .int x2), (3, .int x3)]) hx hb d_R_laysBest_234 hl (k := 4) rfl (by rw [ev11]; rfl) (by decide) rfl (fun ls hl => ?_)
                refine lv_goto (tgt := 28) hx hb d_R_laysBest_237 (by decide) ?_
                exact ih28 g_bestCost g_bestCrosses g_bestPart v11 H locs ls (lpk_i hf hk28) ⟨hP, hD, hS⟩ (lv_sub hl [1, 2, 3, 4, 0] rfl)
              · have hf := di_f c10 hf
                refine lv_iload_n hx hb d_R_laysBest_62 rfl (lv_at hl 2 rfl) ?_
                refine lv_if_le (tgt := 89) hx hb d_R_laysBest_63 (by decide) (fun c12 => ?_) (fun c12 => ?_)
                · have hf := di_t c12 hf
                  exact hJ89 g_bestCost g_bestCrosses g_bestPart x4 H locs ls ⟨hP, hD, hS⟩ (lv_sub hl [0, 1, 2, 3, 4] rfl) hf
                · have hf := di_f c12 hf
                  refine lv_iload hx hb d_R_laysBest_66 (lv_at hl 4 rfl) ?_
                  refine call_i (isC := []) (run_S (As := [.int x4]) (rest := []) hx hb hml hown htl (c_R_isOne l G Y  x4 _ rfl) ms_R_isOne k_1520 (hRk (by decide) (by decide)) hK hsk hS hP hD (isC := []) rfl (by decide) rfl hl.1 rfl (lv_room (Nat.le_of_ble_eq_true rfl)) d_R_laysBest_68) hP hD hS rfl rfl (fun H locs hP hD hS => ?_)
                  have hP : va_P G.1 classes [(h0, O_R f_raised a_all a_text a_saved a_undone f_undos f_reached f_length f_begin f_sort f_sign f_value f_word f_wrongAt f_badAt f_bad a_told f_read f_side a_pile f_piled a_open f_opened f_joins f_had a_size a_capped a_connected a_bestCost a_bestCrosses a_bestPart a_part a_trees f_treeMany a_nodes f_nodeMany f_moveNode f_movePart f_moveFirst f_moveThen f_moveOther a_out f_outMany a_kept), (a_all, aI G 1276 g_all), (a_bestCost, aJ G 512 g_bestCost), (a_bestCrosses, aI G 512 g_bestCrosses), (a_bestPart, aI G 512 g_bestPart), (a_size, aJ G 256 g_size)] H := hP
                  have hD : va_D A [(h0, O_R f_raised a_all a_text a_saved a_undone f_undos f_reached f_length f_begin f_sort f_sign f_value f_word f_wrongAt f_badAt f_bad a_told f_read f_side a_pile f_piled a_open f_opened f_joins f_had a_size a_capped a_connected a_bestCost a_bestCrosses a_bestPart a_part a_trees f_treeMany a_nodes f_nodeMany f_moveNode f_movePart f_moveFirst f_moveThen f_moveOther a_out f_outMany a_kept), (a_all, aI G 1276 g_all), (a_bestCost, aJ G 512 g_bestCost), (a_bestCrosses, aI G 512 g_bestCrosses), (a_bestPart, aI G 512 g_bestPart), (a_size, aJ G 256 g_size)] := hD
                  refine lv_if_ne (tgt := 89) hx hb d_R_laysBest_71 (by decide) (fun c13 => ?_) (fun c13 => ?_)
                  · have hf := di_f c13 hf
                    exact hJ89 g_bestCost g_bestCrosses g_bestPart x4 H locs ls ⟨hP, hD, hS⟩ (lv_sub hl [0, 1, 2, 3, 4] rfl) hf
                  · have hf := di_t c13 hf
                    refine lv_iload_n hx hb d_R_laysBest_74 rfl (lv_at hl 1 rfl) ?_
                    refine lv_iload hx hb d_R_laysBest_75 (lv_at hl 4 rfl) ?_
                    refine lv_iconst (v := (-1 : Int32)) hx hb d_R_laysBest_77 (by decide) ?_
                    refine lv_ixor hx hb d_R_laysBest_78 ?_
                    refine lv_iand hx hb d_R_laysBest_79 ?_
                    refine call_i (isC := []) (run_S (As := [.int (x1 &&& (x4 ^^^ (-1 : Int32)))]) (rest := []) hx hb hml hown htl (c_R_isOne l G Y  (x1 &&& (x4 ^^^ (-1 : Int32))) _ rfl) ms_R_isOne k_1520 (hRk (by decide) (by decide)) hK hsk hS hP hD (isC := []) rfl (by decide) rfl hl.1 rfl (lv_room (Nat.le_of_ble_eq_true rfl)) d_R_laysBest_80) hP hD hS rfl rfl (fun H locs hP hD hS => ?_)
                    have hP : va_P G.1 classes [(h0, O_R f_raised a_all a_text a_saved a_undone f_undos f_reached f_length f_begin f_sort f_sign f_value f_word f_wrongAt f_badAt f_bad a_told f_read f_side a_pile f_piled a_open f_opened f_joins f_had a_size a_capped a_connected a_bestCost a_bestCrosses a_bestPart a_part a_trees f_treeMany a_nodes f_nodeMany f_moveNode f_movePart f_moveFirst f_moveThen f_moveOther a_out f_outMany a_kept), (a_all, aI G 1276 g_all), (a_bestCost, aJ G 512 g_bestCost), (a_bestCrosses, aI G 512 g_bestCrosses), (a_bestPart, aI G 512 g_bestPart), (a_size, aJ G 256 g_size)] H := hP
                    have hD : va_D A [(h0, O_R f_raised a_all a_text a_saved a_undone f_undos f_reached f_length f_begin f_sort f_sign f_value f_word f_wrongAt f_badAt f_bad a_told f_read f_side a_pile f_piled a_open f_opened f_joins f_had a_size a_capped a_connected a_bestCost a_bestCrosses a_bestPart a_part a_trees f_treeMany a_nodes f_nodeMany f_moveNode f_movePart f_moveFirst f_moveThen f_moveOther a_out f_outMany a_kept), (a_all, aI G 1276 g_all), (a_bestCost, aJ G 512 g_bestCost), (a_bestCrosses, aI G 512 g_bestCrosses), (a_bestPart, aI G 512 g_bestPart), (a_size, aJ G 256 g_size)] := hD
                    refine lv_if_ne (tgt := 89) hx hb d_R_laysBest_83 (by decide) (fun c14 => ?_) (fun c14 => ?_)
                    · have hf := di_f c14 hf
                      exact hJ89 g_bestCost g_bestCrosses g_bestPart x4 H locs ls ⟨hP, hD, hS⟩ (lv_sub hl [0, 1, 2, 3, 4] rfl) hf
                    · have hf := di_t c14 hf
                      refine lv_goto (tgt := 234) hx hb d_R_laysBest_86 (by decide) ?_
                      obtain ⟨v15, ev15⟩ : ∃ z : Int32, z = x4 + (1 : Int32) := ⟨_, rfl⟩
                      have hf := dn_e ev15 hf
                      refine lv_iinc (v := v15) (lv' := [(4, .int v15), (0, .ref h0), (1, .int x1), (2, .int x2), (3, .int x3)]) hx hb d_R_laysBest_234 hl (k := 4) rfl (by rw [ev15]; rfl) (by decide) rfl (fun ls hl => ?_)
                      refine lv_goto (tgt := 28) hx hb d_R_laysBest_237 (by decide) ?_
                      exact ih28 g_bestCost g_bestCrosses g_bestPart v15 H locs ls (lpk_i hf hk28) ⟨hP, hD, hS⟩ (lv_sub hl [1, 2, 3, 4, 0] rfl)
    exact hL28 N g_bestCost g_bestCrosses g_bestPart x4 H locs ls hy28 ⟨hP, hD, hS⟩ hl
  refine lv_iload_n hx hb d_R_laysBest_0 rfl (lv_at hl 2 rfl) ?_
  refine lv_iload_n hx hb d_R_laysBest_1 rfl (lv_at hl 1 rfl) ?_
  refine lv_iadd hx hb d_R_laysBest_2 ?_
  refine lv_topi (fun v1 ev1 => ?_)
  have hf := dn_e ev1 hf
  refine lv_istore_n (lv' := [(3, .int v1), (0, .ref h0), (1, .int x1), (2, .int x2)]) hx hb d_R_laysBest_3 rfl hl (by decide) rfl (fun ls hl => ?_)
  refine lv_aload_n hx hb d_R_laysBest_4 rfl (lv_at hl 1 rfl) ?_
  refine va_get (D := G.1) (ci := 12) (v := .ref a_bestCost) (C := n_R) (T := T_R) (N := 44) hx hb htl iw_R hown hK hP 0 rfl rfl 28 (by decide) (htl _ k_1224) (fun _ h9 => h9) rfl d_R_laysBest_5 ?_
  refine lv_iload_n hx hb d_R_laysBest_8 rfl (lv_at hl 0 rfl) ?_
  refine lv_lconst (v := (0 : Int64)) hx hb d_R_laysBest_9 (by decide) ?_
  obtain ⟨c2, hf⟩ := dk_e hf
  refine nx_last hx hb hK hP hD hS 2 2 rfl rfl c2 d_R_laysBest_10 (fun v3 ev3 H locs hP hD hS => ?_)
  have hf := dn_e ev3 hf
  have hP : va_P G.1 classes [(h0, O_R f_raised a_all a_text a_saved a_undone f_undos f_reached f_length f_begin f_sort f_sign f_value f_word f_wrongAt f_badAt f_bad a_told f_read f_side a_pile f_piled a_open f_opened f_joins f_had a_size a_capped a_connected a_bestCost a_bestCrosses a_bestPart a_part a_trees f_treeMany a_nodes f_nodeMany f_moveNode f_movePart f_moveFirst f_moveThen f_moveOther a_out f_outMany a_kept), (a_all, aI G 1276 g_all), (a_bestCost, aJ G 512 v3), (a_bestCrosses, aI G 512 g_bestCrosses), (a_bestPart, aI G 512 g_bestPart), (a_size, aJ G 256 g_size)] H := hP
  have hD : va_D A [(h0, O_R f_raised a_all a_text a_saved a_undone f_undos f_reached f_length f_begin f_sort f_sign f_value f_word f_wrongAt f_badAt f_bad a_told f_read f_side a_pile f_piled a_open f_opened f_joins f_had a_size a_capped a_connected a_bestCost a_bestCrosses a_bestPart a_part a_trees f_treeMany a_nodes f_nodeMany f_moveNode f_movePart f_moveFirst f_moveThen f_moveOther a_out f_outMany a_kept), (a_all, aI G 1276 g_all), (a_bestCost, aJ G 512 v3), (a_bestCrosses, aI G 512 g_bestCrosses), (a_bestPart, aI G 512 g_bestPart), (a_size, aJ G 256 g_size)] := hD
  refine lv_aload_n hx hb d_R_laysBest_11 rfl (lv_at hl 1 rfl) ?_
  refine va_get (D := G.1) (ci := 12) (v := .ref a_bestCrosses) (C := n_R) (T := T_R) (N := 44) hx hb htl iw_R hown hK hP 0 rfl rfl 29 (by decide) (htl _ k_1225) (fun _ h9 => h9) rfl d_R_laysBest_12 ?_
  refine lv_iload_n hx hb d_R_laysBest_15 rfl (lv_at hl 0 rfl) ?_
  refine lv_iconst (v := (0 : Int32)) hx hb d_R_laysBest_16 (by decide) ?_
  refine nx_iast hx hb hK hP hD hS 3 1 rfl rfl c2 d_R_laysBest_17 (fun v4 ev4 H locs hP hD hS => ?_)
  have hf := dn_e ev4 hf
  have hP : va_P G.1 classes [(h0, O_R f_raised a_all a_text a_saved a_undone f_undos f_reached f_length f_begin f_sort f_sign f_value f_word f_wrongAt f_badAt f_bad a_told f_read f_side a_pile f_piled a_open f_opened f_joins f_had a_size a_capped a_connected a_bestCost a_bestCrosses a_bestPart a_part a_trees f_treeMany a_nodes f_nodeMany f_moveNode f_movePart f_moveFirst f_moveThen f_moveOther a_out f_outMany a_kept), (a_all, aI G 1276 g_all), (a_bestCost, aJ G 512 v3), (a_bestCrosses, aI G 512 v4), (a_bestPart, aI G 512 g_bestPart), (a_size, aJ G 256 g_size)] H := hP
  have hD : va_D A [(h0, O_R f_raised a_all a_text a_saved a_undone f_undos f_reached f_length f_begin f_sort f_sign f_value f_word f_wrongAt f_badAt f_bad a_told f_read f_side a_pile f_piled a_open f_opened f_joins f_had a_size a_capped a_connected a_bestCost a_bestCrosses a_bestPart a_part a_trees f_treeMany a_nodes f_nodeMany f_moveNode f_movePart f_moveFirst f_moveThen f_moveOther a_out f_outMany a_kept), (a_all, aI G 1276 g_all), (a_bestCost, aJ G 512 v3), (a_bestCrosses, aI G 512 v4), (a_bestPart, aI G 512 g_bestPart), (a_size, aJ G 256 g_size)] := hD
  refine lv_aload_n hx hb d_R_laysBest_18 rfl (lv_at hl 1 rfl) ?_
  refine va_get (D := G.1) (ci := 12) (v := .ref a_bestPart) (C := n_R) (T := T_R) (N := 44) hx hb htl iw_R hown hK hP 0 rfl rfl 30 (by decide) (htl _ k_1226) (fun _ h9 => h9) rfl d_R_laysBest_19 ?_
  refine lv_iload_n hx hb d_R_laysBest_22 rfl (lv_at hl 0 rfl) ?_
  refine lv_iconst (v := (0 : Int32)) hx hb d_R_laysBest_23 (by decide) ?_
  refine nx_iast hx hb hK hP hD hS 4 1 rfl rfl c2 d_R_laysBest_24 (fun v5 ev5 H locs hP hD hS => ?_)
  have hf := dn_e ev5 hf
  have hP : va_P G.1 classes [(h0, O_R f_raised a_all a_text a_saved a_undone f_undos f_reached f_length f_begin f_sort f_sign f_value f_word f_wrongAt f_badAt f_bad a_told f_read f_side a_pile f_piled a_open f_opened f_joins f_had a_size a_capped a_connected a_bestCost a_bestCrosses a_bestPart a_part a_trees f_treeMany a_nodes f_nodeMany f_moveNode f_movePart f_moveFirst f_moveThen f_moveOther a_out f_outMany a_kept), (a_all, aI G 1276 g_all), (a_bestCost, aJ G 512 v3), (a_bestCrosses, aI G 512 v4), (a_bestPart, aI G 512 v5), (a_size, aJ G 256 g_size)] H := hP
  have hD : va_D A [(h0, O_R f_raised a_all a_text a_saved a_undone f_undos f_reached f_length f_begin f_sort f_sign f_value f_word f_wrongAt f_badAt f_bad a_told f_read f_side a_pile f_piled a_open f_opened f_joins f_had a_size a_capped a_connected a_bestCost a_bestCrosses a_bestPart a_part a_trees f_treeMany a_nodes f_nodeMany f_moveNode f_movePart f_moveFirst f_moveThen f_moveOther a_out f_outMany a_kept), (a_all, aI G 1276 g_all), (a_bestCost, aJ G 512 v3), (a_bestCrosses, aI G 512 v4), (a_bestPart, aI G 512 v5), (a_size, aJ G 256 g_size)] := hD
  refine lv_iconst (v := (1 : Int32)) hx hb d_R_laysBest_25 (by decide) ?_
  refine lv_istore (lv' := [(4, .int (1 : Int32)), (3, .int v1), (0, .ref h0), (1, .int x1), (2, .int x2)]) hx hb d_R_laysBest_26 hl (by decide) rfl (fun ls hl => ?_)
  exact hJ28 v3 v4 v5 v1 (1 : Int32) H locs ls ⟨hP, hD, hS⟩ (lv_sub hl [2, 3, 4, 1, 0] rfl) hf
set_option maxHeartbeats 4000000 in
set_option maxRecDepth 100000 in
theorem c_R_isPair (l : Launch) (G : va_G × (Nat → ClassId)) (Y : (Nat → Nat) × (Nat → Nat)) (h0 : Nat) (a_all : Nat) (a_text : Nat) (a_saved : Nat) (a_undone : Nat) (a_told : Nat) (a_pile : Nat) (a_open : Nat) (a_size : Nat) (a_capped : Nat) (a_connected : Nat) (a_bestCost : Nat) (a_bestCrosses : Nat) (a_bestPart : Nat) (a_part : Nat) (a_trees : Nat) (a_nodes : Nat) (a_out : Nat) (a_kept : Nat) (f_raised : Int32) (f_undos : Int32) (f_reached : Int32) (f_length : Int32) (f_begin : Int32) (f_sort : Int32) (f_sign : Int32) (f_value : Int32) (f_word : Int64) (f_wrongAt : Int32) (f_badAt : Int32) (f_bad : Int32) (f_read : Int32) (f_side : Int32) (f_piled : Int32) (f_opened : Int32) (f_joins : Int32) (f_had : Int32) (f_treeMany : Int32) (f_nodeMany : Int32) (f_moveNode : Int32) (f_movePart : Int32) (f_moveFirst : Int32) (f_moveThen : Int32) (f_moveOther : Int32) (f_outMany : Int32) (g_all : Nat → Int32) (g_connected : Nat → Int32) (x1 : Int32) (x2 : Int32) (N : Nat) (res : Int32) (hf : R_isPair N g_all g_connected x1 x2 = some res) : Ci l classes y_R_isPair b_R_isPair 3 (some .boolean) (rmk 2) G.1 (tyL G) Y [.ref h0, .int x1, .int x2] [(h0, O_R f_raised a_all a_text a_saved a_undone f_undos f_reached f_length f_begin f_sort f_sign f_value f_word f_wrongAt f_badAt f_bad a_told f_read f_side a_pile f_piled a_open f_opened f_joins f_had a_size a_capped a_connected a_bestCost a_bestCrosses a_bestPart a_part a_trees f_treeMany a_nodes f_nodeMany f_moveNode f_movePart f_moveFirst f_moveThen f_moveOther a_out f_outMany a_kept), (a_all, aI G 1276 g_all), (a_connected, aZ G 256 g_connected)] [(h0, O_R f_raised a_all a_text a_saved a_undone f_undos f_reached f_length f_begin f_sort f_sign f_value f_word f_wrongAt f_badAt f_bad a_told f_read f_side a_pile f_piled a_open f_opened f_joins f_had a_size a_capped a_connected a_bestCost a_bestCrosses a_bestPart a_part a_trees f_treeMany a_nodes f_nodeMany f_moveNode f_movePart f_moveFirst f_moveThen f_moveOther a_out f_outMany a_kept), (a_all, aI G 1276 g_all), (a_connected, aZ G 256 g_connected)] res := by
  refine entZ (by decide) (Nat.le_of_ble_eq_true rfl) ?_
  intro p e s m args below meth c ls A Q hx hb hml hown htl hK hsk wq hl hret
  obtain ⟨hP, hD, hS⟩ := wq
  have hl : lv_has ls 3 [(0, .ref h0), (1, .int x1), (2, .int x2)] := hl
  have hS : va_S A s.heap s.heap [] := hS
  obtain ⟨H, hH⟩ : ∃ H : Heap, H = s.heap := ⟨_, rfl⟩
  obtain ⟨locs, hlocs⟩ : ∃ z : List Loc, z = [] := ⟨_, rfl⟩
  rw [← hH] at hP
  replace hS : va_S A s.heap H locs := by rw [hH, hlocs]; exact hS
  suffices hgo : W p l e (rmk 2) s m args below meth c H locs 0 0 Q (F0 m 0 ls []) by rw [hH, hlocs] at hgo; exact hgo
  refine lv_iload_n hx hb d_R_isPair_0 rfl (lv_at hl 1 rfl) ?_
  refine lv_iload_n hx hb d_R_isPair_1 rfl (lv_at hl 2 rfl) ?_
  refine lv_icmp_eq (tgt := 63) hx hb d_R_isPair_2 (by decide) (fun c1 => ?_) (fun c1 => ?_)
  · have hf := di_t c1 hf
    refine lv_iconst (v := (0 : Int32)) hx hb d_R_isPair_63 (by decide) ?_
    cases hf
    exact hret 64 ls H locs z_0 hP hS d_R_isPair_64
  · have hf := di_f c1 hf
    refine lv_iload_n hx hb d_R_isPair_5 rfl (lv_at hl 1 rfl) ?_
    refine lv_iload_n hx hb d_R_isPair_6 rfl (lv_at hl 2 rfl) ?_
    refine call_i (isC := []) (run_S (As := [.int x1, .int x2]) (rest := []) hx hb hml hown htl (c_R_isIn l G Y  x1 x2 _ rfl) ms_R_isIn k_1470 (hRk (by decide) (by decide)) hK hsk hS hP hD (isC := []) rfl (by decide) rfl hl.1 rfl (lv_room (Nat.le_of_ble_eq_true rfl)) d_R_isPair_7) hP hD hS rfl rfl (fun H locs hP hD hS => ?_)
    have hP : va_P G.1 classes [(h0, O_R f_raised a_all a_text a_saved a_undone f_undos f_reached f_length f_begin f_sort f_sign f_value f_word f_wrongAt f_badAt f_bad a_told f_read f_side a_pile f_piled a_open f_opened f_joins f_had a_size a_capped a_connected a_bestCost a_bestCrosses a_bestPart a_part a_trees f_treeMany a_nodes f_nodeMany f_moveNode f_movePart f_moveFirst f_moveThen f_moveOther a_out f_outMany a_kept), (a_all, aI G 1276 g_all), (a_connected, aZ G 256 g_connected)] H := hP
    have hD : va_D A [(h0, O_R f_raised a_all a_text a_saved a_undone f_undos f_reached f_length f_begin f_sort f_sign f_value f_word f_wrongAt f_badAt f_bad a_told f_read f_side a_pile f_piled a_open f_opened f_joins f_had a_size a_capped a_connected a_bestCost a_bestCrosses a_bestPart a_part a_trees f_treeMany a_nodes f_nodeMany f_moveNode f_movePart f_moveFirst f_moveThen f_moveOther a_out f_outMany a_kept), (a_all, aI G 1276 g_all), (a_connected, aZ G 256 g_connected)] := hD
    refine lv_if_eq (tgt := 63) hx hb d_R_isPair_10 (by decide) (fun c2 => ?_) (fun c2 => ?_)
    · have hf := di_t c2 hf
      refine lv_iconst (v := (0 : Int32)) hx hb d_R_isPair_63 (by decide) ?_
      cases hf
      exact hret 64 ls H locs z_0 hP hS d_R_isPair_64
    · have hf := di_f c2 hf
      refine lv_iload_n hx hb d_R_isPair_13 rfl (lv_at hl 2 rfl) ?_
      refine call_i (isC := []) (run_S (As := [.int x2]) (rest := []) hx hb hml hown htl (c_R_least l G Y  x2 _ rfl) ms_R_least k_1434 (hRk (by decide) (by decide)) hK hsk hS hP hD (isC := []) rfl (by decide) rfl hl.1 rfl (lv_room (Nat.le_of_ble_eq_true rfl)) d_R_isPair_14) hP hD hS rfl rfl (fun H locs hP hD hS => ?_)
      have hP : va_P G.1 classes [(h0, O_R f_raised a_all a_text a_saved a_undone f_undos f_reached f_length f_begin f_sort f_sign f_value f_word f_wrongAt f_badAt f_bad a_told f_read f_side a_pile f_piled a_open f_opened f_joins f_had a_size a_capped a_connected a_bestCost a_bestCrosses a_bestPart a_part a_trees f_treeMany a_nodes f_nodeMany f_moveNode f_movePart f_moveFirst f_moveThen f_moveOther a_out f_outMany a_kept), (a_all, aI G 1276 g_all), (a_connected, aZ G 256 g_connected)] H := hP
      have hD : va_D A [(h0, O_R f_raised a_all a_text a_saved a_undone f_undos f_reached f_length f_begin f_sort f_sign f_value f_word f_wrongAt f_badAt f_bad a_told f_read f_side a_pile f_piled a_open f_opened f_joins f_had a_size a_capped a_connected a_bestCost a_bestCrosses a_bestPart a_part a_trees f_treeMany a_nodes f_nodeMany f_moveNode f_movePart f_moveFirst f_moveThen f_moveOther a_out f_outMany a_kept), (a_all, aI G 1276 g_all), (a_connected, aZ G 256 g_connected)] := hD
      refine lv_iload_n hx hb d_R_isPair_17 rfl (lv_at hl 1 rfl) ?_
      refine call_i (isC := []) (run_S (As := [.int (R_least x2), .int x1]) (rest := []) hx hb hml hown htl (c_R_isIn l G Y  (R_least x2) x1 _ rfl) ms_R_isIn k_1470 (hRk (by decide) (by decide)) hK hsk hS hP hD (isC := []) rfl (by decide) rfl hl.1 rfl (lv_room (Nat.le_of_ble_eq_true rfl)) d_R_isPair_18) hP hD hS rfl rfl (fun H locs hP hD hS => ?_)
      have hP : va_P G.1 classes [(h0, O_R f_raised a_all a_text a_saved a_undone f_undos f_reached f_length f_begin f_sort f_sign f_value f_word f_wrongAt f_badAt f_bad a_told f_read f_side a_pile f_piled a_open f_opened f_joins f_had a_size a_capped a_connected a_bestCost a_bestCrosses a_bestPart a_part a_trees f_treeMany a_nodes f_nodeMany f_moveNode f_movePart f_moveFirst f_moveThen f_moveOther a_out f_outMany a_kept), (a_all, aI G 1276 g_all), (a_connected, aZ G 256 g_connected)] H := hP
      have hD : va_D A [(h0, O_R f_raised a_all a_text a_saved a_undone f_undos f_reached f_length f_begin f_sort f_sign f_value f_word f_wrongAt f_badAt f_bad a_told f_read f_side a_pile f_piled a_open f_opened f_joins f_had a_size a_capped a_connected a_bestCost a_bestCrosses a_bestPart a_part a_trees f_treeMany a_nodes f_nodeMany f_moveNode f_movePart f_moveFirst f_moveThen f_moveOther a_out f_outMany a_kept), (a_all, aI G 1276 g_all), (a_connected, aZ G 256 g_connected)] := hD
      refine lv_if_eq (tgt := 63) hx hb d_R_isPair_21 (by decide) (fun c3 => ?_) (fun c3 => ?_)
      · have hf := di_t c3 hf
        refine lv_iconst (v := (0 : Int32)) hx hb d_R_isPair_63 (by decide) ?_
        cases hf
        exact hret 64 ls H locs z_0 hP hS d_R_isPair_64
      · have hf := di_f c3 hf
        refine lv_aload_n hx hb d_R_isPair_24 rfl (lv_at hl 0 rfl) ?_
        refine va_get (D := G.1) (ci := 12) (v := .ref a_connected) (C := n_R) (T := T_R) (N := 44) hx hb htl iw_R hown hK hP 0 rfl rfl 27 (by decide) (htl _ k_1223) (fun _ h9 => h9) rfl d_R_isPair_25 ?_
        refine lv_iload_n hx hb d_R_isPair_28 rfl (lv_at hl 1 rfl) ?_
        obtain ⟨c4, hf⟩ := dk_e hf
        refine va_zald hx hb hK hP 2 3 rfl rfl c4 d_R_isPair_29 ?_
        refine lv_if_eq (tgt := 63) hx hb d_R_isPair_30 (by decide) (fun c5 => ?_) (fun c5 => ?_)
        · have hf := di_t c5 hf
          refine lv_iconst (v := (0 : Int32)) hx hb d_R_isPair_63 (by decide) ?_
          cases hf
          exact hret 64 ls H locs z_0 hP hS d_R_isPair_64
        · have hf := di_f c5 hf
          refine lv_aload_n hx hb d_R_isPair_33 rfl (lv_at hl 0 rfl) ?_
          refine va_get (D := G.1) (ci := 12) (v := .ref a_connected) (C := n_R) (T := T_R) (N := 44) hx hb htl iw_R hown hK hP 0 rfl rfl 27 (by decide) (htl _ k_1223) (fun _ h9 => h9) rfl d_R_isPair_34 ?_
          refine lv_iload_n hx hb d_R_isPair_37 rfl (lv_at hl 2 rfl) ?_
          refine lv_iload_n hx hb d_R_isPair_38 rfl (lv_at hl 1 rfl) ?_
          refine lv_iconst (v := (-1 : Int32)) hx hb d_R_isPair_39 (by decide) ?_
          refine lv_ixor hx hb d_R_isPair_40 ?_
          refine lv_iand hx hb d_R_isPair_41 ?_
          obtain ⟨c6, hf⟩ := dk_e hf
          refine va_zald hx hb hK hP 2 3 rfl rfl c6 d_R_isPair_42 ?_
          refine lv_if_eq (tgt := 63) hx hb d_R_isPair_43 (by decide) (fun c7 => ?_) (fun c7 => ?_)
          · have hf := di_t c7 hf
            refine lv_iconst (v := (0 : Int32)) hx hb d_R_isPair_63 (by decide) ?_
            cases hf
            exact hret 64 ls H locs z_0 hP hS d_R_isPair_64
          · have hf := di_f c7 hf
            refine lv_aload_n hx hb d_R_isPair_46 rfl (lv_at hl 0 rfl) ?_
            refine lv_iload_n hx hb d_R_isPair_47 rfl (lv_at hl 1 rfl) ?_
            refine lv_iload_n hx hb d_R_isPair_48 rfl (lv_at hl 2 rfl) ?_
            refine lv_iload_n hx hb d_R_isPair_49 rfl (lv_at hl 1 rfl) ?_
            refine lv_iconst (v := (-1 : Int32)) hx hb d_R_isPair_50 (by decide) ?_
            refine lv_ixor hx hb d_R_isPair_51 ?_
            refine lv_iand hx hb d_R_isPair_52 ?_
            obtain ⟨t8, hv9, hf⟩ := db_e hf
            refine call_i (isC := [0, 1]) (run_V (As := [.int x1, .int (x2 &&& (x1 ^^^ (-1 : Int32)))]) (rest := []) (ci := 12) (q0 := 0) hx hb hml hown htl (c_R_isJoined l G Y  h0 a_all a_text a_saved a_undone a_told a_pile a_open a_size a_capped a_connected a_bestCost a_bestCrosses a_bestPart a_part a_trees a_nodes a_out a_kept f_raised f_undos f_reached f_length f_begin f_sort f_sign f_value f_word f_wrongAt f_badAt f_bad f_read f_side f_piled f_opened f_joins f_had f_treeMany f_nodeMany f_moveNode f_movePart f_moveFirst f_moveThen f_moveOther f_outMany g_all x1 (x2 &&& (x1 ^^^ (-1 : Int32))) N t8 hv9) mv_R_isJoined k_1531 (hRk (by decide) (by decide)) hK hsk hS hP hD (isC := [0, 1]) rfl (by decide) rfl rfl rfl hl.1 rfl (lv_room (Nat.le_of_ble_eq_true rfl)) d_R_isPair_53) hP hD hS rfl rfl (fun H locs hP hD hS => ?_)
            have hP : va_P G.1 classes [(h0, O_R f_raised a_all a_text a_saved a_undone f_undos f_reached f_length f_begin f_sort f_sign f_value f_word f_wrongAt f_badAt f_bad a_told f_read f_side a_pile f_piled a_open f_opened f_joins f_had a_size a_capped a_connected a_bestCost a_bestCrosses a_bestPart a_part a_trees f_treeMany a_nodes f_nodeMany f_moveNode f_movePart f_moveFirst f_moveThen f_moveOther a_out f_outMany a_kept), (a_all, aI G 1276 g_all), (a_connected, aZ G 256 g_connected)] H := hP
            have hD : va_D A [(h0, O_R f_raised a_all a_text a_saved a_undone f_undos f_reached f_length f_begin f_sort f_sign f_value f_word f_wrongAt f_badAt f_bad a_told f_read f_side a_pile f_piled a_open f_opened f_joins f_had a_size a_capped a_connected a_bestCost a_bestCrosses a_bestPart a_part a_trees f_treeMany a_nodes f_nodeMany f_moveNode f_movePart f_moveFirst f_moveThen f_moveOther a_out f_outMany a_kept), (a_all, aI G 1276 g_all), (a_connected, aZ G 256 g_connected)] := hD
            refine lv_if_eq (tgt := 63) hx hb d_R_isPair_56 (by decide) (fun c10 => ?_) (fun c10 => ?_)
            · have hf := di_t c10 hf
              refine lv_iconst (v := (0 : Int32)) hx hb d_R_isPair_63 (by decide) ?_
              cases hf
              exact hret 64 ls H locs z_0 hP hS d_R_isPair_64
            · have hf := di_f c10 hf
              refine lv_iconst (v := (1 : Int32)) hx hb d_R_isPair_59 (by decide) ?_
              refine lv_goto (tgt := 64) hx hb d_R_isPair_60 (by decide) ?_
              cases hf
              exact hret 64 ls H locs z_1 hP hS d_R_isPair_64
set_option maxHeartbeats 4000000 in
set_option maxRecDepth 100000 in
theorem c_R_pairsOf (l : Launch) (G : va_G × (Nat → ClassId)) (Y : (Nat → Nat) × (Nat → Nat)) (h0 : Nat) (a_all : Nat) (a_text : Nat) (a_saved : Nat) (a_undone : Nat) (a_told : Nat) (a_pile : Nat) (a_open : Nat) (a_size : Nat) (a_capped : Nat) (a_connected : Nat) (a_bestCost : Nat) (a_bestCrosses : Nat) (a_bestPart : Nat) (a_part : Nat) (a_trees : Nat) (a_nodes : Nat) (a_out : Nat) (a_kept : Nat) (f_raised : Int32) (f_undos : Int32) (f_reached : Int32) (f_length : Int32) (f_begin : Int32) (f_sort : Int32) (f_sign : Int32) (f_value : Int32) (f_word : Int64) (f_wrongAt : Int32) (f_badAt : Int32) (f_bad : Int32) (f_read : Int32) (f_side : Int32) (f_piled : Int32) (f_opened : Int32) (f_joins : Int32) (f_had : Int32) (f_treeMany : Int32) (f_nodeMany : Int32) (f_moveNode : Int32) (f_movePart : Int32) (f_moveFirst : Int32) (f_moveThen : Int32) (f_moveOther : Int32) (f_outMany : Int32) (g_all : Nat → Int32) (g_connected : Nat → Int32) (x1 : Int32) (N : Nat) (res : Int32) (hf : R_pairsOf N g_all g_connected x1 = some res) : Ci l classes y_R_pairsOf b_R_pairsOf 4 (some .int) (rmk 3) G.1 (tyL G) Y [.ref h0, .int x1] [(h0, O_R f_raised a_all a_text a_saved a_undone f_undos f_reached f_length f_begin f_sort f_sign f_value f_word f_wrongAt f_badAt f_bad a_told f_read f_side a_pile f_piled a_open f_opened f_joins f_had a_size a_capped a_connected a_bestCost a_bestCrosses a_bestPart a_part a_trees f_treeMany a_nodes f_nodeMany f_moveNode f_movePart f_moveFirst f_moveThen f_moveOther a_out f_outMany a_kept), (a_all, aI G 1276 g_all), (a_connected, aZ G 256 g_connected)] [(h0, O_R f_raised a_all a_text a_saved a_undone f_undos f_reached f_length f_begin f_sort f_sign f_value f_word f_wrongAt f_badAt f_bad a_told f_read f_side a_pile f_piled a_open f_opened f_joins f_had a_size a_capped a_connected a_bestCost a_bestCrosses a_bestPart a_part a_trees f_treeMany a_nodes f_nodeMany f_moveNode f_movePart f_moveFirst f_moveThen f_moveOther a_out f_outMany a_kept), (a_all, aI G 1276 g_all), (a_connected, aZ G 256 g_connected)] res := by
  refine entI (by decide) (Nat.le_of_ble_eq_true rfl) ?_
  intro p e s m args below meth c ls A Q hx hb hml hown htl hK hsk wq hl hret
  obtain ⟨hP, hD, hS⟩ := wq
  have hl : lv_has ls 4 [(0, .ref h0), (1, .int x1)] := hl
  have hS : va_S A s.heap s.heap [] := hS
  obtain ⟨H, hH⟩ : ∃ H : Heap, H = s.heap := ⟨_, rfl⟩
  obtain ⟨locs, hlocs⟩ : ∃ z : List Loc, z = [] := ⟨_, rfl⟩
  rw [← hH] at hP
  replace hS : va_S A s.heap H locs := by rw [hH, hlocs]; exact hS
  suffices hgo : W p l e (rmk 3) s m args below meth c H locs 0 0 Q (F0 m 0 ls []) by rw [hH, hlocs] at hgo; exact hgo
  have hJ32 : ∀ (x2 : Int32) (H : Heap) (locs : List Loc) (ls : Array Slot), PDS G.1 classes A s [(h0, O_R f_raised a_all a_text a_saved a_undone f_undos f_reached f_length f_begin f_sort f_sign f_value f_word f_wrongAt f_badAt f_bad a_told f_read f_side a_pile f_piled a_open f_opened f_joins f_had a_size a_capped a_connected a_bestCost a_bestCrosses a_bestPart a_part a_trees f_treeMany a_nodes f_nodeMany f_moveNode f_movePart f_moveFirst f_moveThen f_moveOther a_out f_outMany a_kept), (a_all, aI G 1276 g_all), (a_connected, aZ G 256 g_connected)] H locs → lv_has ls 4 [(2, .int x2)] → R_pairsOf_32 N g_all g_connected x2 = some res → W p l e (rmk 3) s m args below meth c H locs 0 0 Q (F0 m 32 ls []) := by
    intro x2 H locs ls wq hl hf
    obtain ⟨hP, hD, hS⟩ := wq
    refine lv_iload_n hx hb d_R_pairsOf_32 rfl (lv_at hl 0 rfl) ?_
    cases hf
    exact hret 33 ls H locs hP hS d_R_pairsOf_33
  have hJ4 : ∀ (x2 : Int32) (x3 : Int32) (H : Heap) (locs : List Loc) (ls : Array Slot), PDS G.1 classes A s [(h0, O_R f_raised a_all a_text a_saved a_undone f_undos f_reached f_length f_begin f_sort f_sign f_value f_word f_wrongAt f_badAt f_bad a_told f_read f_side a_pile f_piled a_open f_opened f_joins f_had a_size a_capped a_connected a_bestCost a_bestCrosses a_bestPart a_part a_trees f_treeMany a_nodes f_nodeMany f_moveNode f_movePart f_moveFirst f_moveThen f_moveOther a_out f_outMany a_kept), (a_all, aI G 1276 g_all), (a_connected, aZ G 256 g_connected)] H locs → lv_has ls 4 [(0, .ref h0), (1, .int x1), (2, .int x2), (3, .int x3)] → R_pairsOf_4 N g_all g_connected x1 x2 x3 = some res → W p l e (rmk 3) s m args below meth c H locs 0 0 Q (F0 m 4 ls []) := by
    intro x2 x3 H locs ls wq hl hf
    obtain ⟨hP, hD, hS⟩ := wq
    obtain ⟨y4, hy4, hfo4⟩ := db_e hf
    have hL4 : ∀ (n : Nat) (x2 : Int32) (x3 : Int32) (H : Heap) (locs : List Loc) (ls : Array Slot), lp (fun x => R_pairsOf_b4 N g_all g_connected x1 x.1 x.2) n (x2, x3) = some y4 → PDS G.1 classes A s [(h0, O_R f_raised a_all a_text a_saved a_undone f_undos f_reached f_length f_begin f_sort f_sign f_value f_word f_wrongAt f_badAt f_bad a_told f_read f_side a_pile f_piled a_open f_opened f_joins f_had a_size a_capped a_connected a_bestCost a_bestCrosses a_bestPart a_part a_trees f_treeMany a_nodes f_nodeMany f_moveNode f_movePart f_moveFirst f_moveThen f_moveOther a_out f_outMany a_kept), (a_all, aI G 1276 g_all), (a_connected, aZ G 256 g_connected)] H locs → lv_has ls 4 [(0, .ref h0), (1, .int x1), (2, .int x2), (3, .int x3)] → W p l e (rmk 3) s m args below meth c H locs 0 0 Q (F0 m 4 ls []) := by
      intro n
      induction n with
      | zero =>
        intro x2 x3 H locs ls hf
        exact lp_0 hf
      | succ n ih4 =>
        intro x2 x3 H locs ls hf wq hl
        obtain ⟨hP, hD, hS⟩ := wq
        obtain ⟨r4, hf, hk4⟩ := lp_s hf
        have hf : R_pairsOf_b4 N g_all g_connected x1 x2 x3 = some r4 := hf
        have hJ24 : ∀ (x3 : Int32) (z0 : Int32) (z1 : Int32) (H : Heap) (locs : List Loc) (ls : Array Slot), PDS G.1 classes A s [(h0, O_R f_raised a_all a_text a_saved a_undone f_undos f_reached f_length f_begin f_sort f_sign f_value f_word f_wrongAt f_badAt f_bad a_told f_read f_side a_pile f_piled a_open f_opened f_joins f_had a_size a_capped a_connected a_bestCost a_bestCrosses a_bestPart a_part a_trees f_treeMany a_nodes f_nodeMany f_moveNode f_movePart f_moveFirst f_moveThen f_moveOther a_out f_outMany a_kept), (a_all, aI G 1276 g_all), (a_connected, aZ G 256 g_connected)] H locs → lv_has ls 4 [(0, .ref h0), (1, .int x1), (3, .int x3)] → R_pairsOf_24 N g_all g_connected x1 x3 z0 z1 = some r4 → W p l e (rmk 3) s m args below meth c H locs 0 0 Q (F0 m 24 ls [.int z1, .int z0]) := by
          intro x3 z0 z1 H locs ls wq hl hf
          obtain ⟨hP, hD, hS⟩ := wq
          refine lv_iadd hx hb d_R_pairsOf_24 ?_
          refine lv_topi (fun v5 ev5 => ?_)
          have hf := dn_e ev5 hf
          refine lv_istore_n (lv' := [(2, .int v5), (0, .ref h0), (1, .int x1), (3, .int x3)]) hx hb d_R_pairsOf_25 rfl hl (by decide) rfl (fun ls hl => ?_)
          obtain ⟨v6, ev6⟩ : ∃ z : Int32, z = x3 + (1 : Int32) := ⟨_, rfl⟩
          have hf := dn_e ev6 hf
          refine lv_iinc (v := v6) (lv' := [(3, .int v6), (2, .int v5), (0, .ref h0), (1, .int x1)]) hx hb d_R_pairsOf_26 hl (k := 3) rfl (by rw [ev6]; rfl) (by decide) rfl (fun ls hl => ?_)
          refine lv_goto (tgt := 4) hx hb d_R_pairsOf_29 (by decide) ?_
          exact ih4 v5 v6 H locs ls (lpk_i hf hk4) ⟨hP, hD, hS⟩ (lv_sub hl [2, 3, 1, 0] rfl)
        refine lv_iload_n hx hb d_R_pairsOf_4 rfl (lv_at hl 3 rfl) ?_
        refine lv_iload_n hx hb d_R_pairsOf_5 rfl (lv_at hl 1 rfl) ?_
        refine lv_icmp_ge (tgt := 32) hx hb d_R_pairsOf_6 (by decide) (fun c1 => ?_) (fun c1 => ?_)
        · have hf := di_t c1 hf
          have hq4 := lpk_x hf hk4
          have hf := ex_y (f := fun y => R_pairsOf_a4 N g_all g_connected x1 y) hq4 hfo4
          have hf : R_pairsOf_32 N g_all g_connected x2 = some res := hf
          exact hJ32 x2 H locs ls ⟨hP, hD, hS⟩ (lv_sub hl [2] rfl) hf
        · have hf := di_f c1 hf
          refine lv_iload_n hx hb d_R_pairsOf_9 rfl (lv_at hl 2 rfl) ?_
          refine lv_aload_n hx hb d_R_pairsOf_10 rfl (lv_at hl 0 rfl) ?_
          refine lv_iload_n hx hb d_R_pairsOf_11 rfl (lv_at hl 3 rfl) ?_
          refine lv_iload_n hx hb d_R_pairsOf_12 rfl (lv_at hl 1 rfl) ?_
          obtain ⟨t2, hv3, hf⟩ := db_e hf
          refine call_i (isC := [0, 1, 2]) (run_V (As := [.int x3, .int x1]) (rest := [.int x2]) (ci := 12) (q0 := 0) hx hb hml hown htl (c_R_isPair l G Y  h0 a_all a_text a_saved a_undone a_told a_pile a_open a_size a_capped a_connected a_bestCost a_bestCrosses a_bestPart a_part a_trees a_nodes a_out a_kept f_raised f_undos f_reached f_length f_begin f_sort f_sign f_value f_word f_wrongAt f_badAt f_bad f_read f_side f_piled f_opened f_joins f_had f_treeMany f_nodeMany f_moveNode f_movePart f_moveFirst f_moveThen f_moveOther f_outMany g_all g_connected x3 x1 N t2 hv3) mv_R_isPair k_1527 (hRk (by decide) (by decide)) hK hsk hS hP hD (isC := [0, 1, 2]) rfl (by decide) rfl rfl rfl hl.1 rfl (lv_room (Nat.le_of_ble_eq_true rfl)) d_R_pairsOf_13) hP hD hS rfl rfl (fun H locs hP hD hS => ?_)
          have hP : va_P G.1 classes [(h0, O_R f_raised a_all a_text a_saved a_undone f_undos f_reached f_length f_begin f_sort f_sign f_value f_word f_wrongAt f_badAt f_bad a_told f_read f_side a_pile f_piled a_open f_opened f_joins f_had a_size a_capped a_connected a_bestCost a_bestCrosses a_bestPart a_part a_trees f_treeMany a_nodes f_nodeMany f_moveNode f_movePart f_moveFirst f_moveThen f_moveOther a_out f_outMany a_kept), (a_all, aI G 1276 g_all), (a_connected, aZ G 256 g_connected)] H := hP
          have hD : va_D A [(h0, O_R f_raised a_all a_text a_saved a_undone f_undos f_reached f_length f_begin f_sort f_sign f_value f_word f_wrongAt f_badAt f_bad a_told f_read f_side a_pile f_piled a_open f_opened f_joins f_had a_size a_capped a_connected a_bestCost a_bestCrosses a_bestPart a_part a_trees f_treeMany a_nodes f_nodeMany f_moveNode f_movePart f_moveFirst f_moveThen f_moveOther a_out f_outMany a_kept), (a_all, aI G 1276 g_all), (a_connected, aZ G 256 g_connected)] := hD
          refine lv_if_eq (tgt := 23) hx hb d_R_pairsOf_16 (by decide) (fun c4 => ?_) (fun c4 => ?_)
          · have hf := di_t c4 hf
            refine lv_iconst (v := (0 : Int32)) hx hb d_R_pairsOf_23 (by decide) ?_
            exact hJ24 x3 x2 (0 : Int32) H locs ls ⟨hP, hD, hS⟩ (lv_sub hl [0, 1, 3] rfl) hf
          · have hf := di_f c4 hf
            refine lv_iconst (v := (1 : Int32)) hx hb d_R_pairsOf_19 (by decide) ?_
            refine lv_goto (tgt := 24) hx hb d_R_pairsOf_20 (by decide) ?_
            exact hJ24 x3 x2 (1 : Int32) H locs ls ⟨hP, hD, hS⟩ (lv_sub hl [0, 1, 3] rfl) hf
    exact hL4 N x2 x3 H locs ls hy4 ⟨hP, hD, hS⟩ hl
  refine lv_iconst (v := (0 : Int32)) hx hb d_R_pairsOf_0 (by decide) ?_
  refine lv_istore_n (lv' := [(2, .int (0 : Int32)), (0, .ref h0), (1, .int x1)]) hx hb d_R_pairsOf_1 rfl hl (by decide) rfl (fun ls hl => ?_)
  refine lv_iconst (v := (1 : Int32)) hx hb d_R_pairsOf_2 (by decide) ?_
  refine lv_istore_n (lv' := [(3, .int (1 : Int32)), (2, .int (0 : Int32)), (0, .ref h0), (1, .int x1)]) hx hb d_R_pairsOf_3 rfl hl (by decide) rfl (fun ls hl => ?_)
  exact hJ4 (0 : Int32) (1 : Int32) H locs ls ⟨hP, hD, hS⟩ (lv_sub hl [2, 3, 1, 0] rfl) hf
set_option maxHeartbeats 4000000 in
set_option maxRecDepth 100000 in
theorem c_R_lays (l : Launch) (G : va_G × (Nat → ClassId)) (Y : (Nat → Nat) × (Nat → Nat)) (h0 : Nat) (a_all : Nat) (a_text : Nat) (a_saved : Nat) (a_undone : Nat) (a_told : Nat) (a_pile : Nat) (a_open : Nat) (a_size : Nat) (a_capped : Nat) (a_connected : Nat) (a_bestCost : Nat) (a_bestCrosses : Nat) (a_bestPart : Nat) (a_part : Nat) (a_trees : Nat) (a_nodes : Nat) (a_out : Nat) (a_kept : Nat) (f_raised : Int32) (f_undos : Int32) (f_reached : Int32) (f_length : Int32) (f_begin : Int32) (f_sort : Int32) (f_sign : Int32) (f_value : Int32) (f_word : Int64) (f_wrongAt : Int32) (f_badAt : Int32) (f_bad : Int32) (f_read : Int32) (f_side : Int32) (f_piled : Int32) (f_opened : Int32) (f_joins : Int32) (f_had : Int32) (f_treeMany : Int32) (f_nodeMany : Int32) (f_moveNode : Int32) (f_movePart : Int32) (f_moveFirst : Int32) (f_moveThen : Int32) (f_moveOther : Int32) (f_outMany : Int32) (g_all : Nat → Int32) (g_bestCost : Nat → Int64) (g_bestCrosses : Nat → Int32) (g_bestPart : Nat → Int32) (g_capped : Nat → Int32) (g_connected : Nat → Int32) (g_size : Nat → Int64) (N : Nat) (res : (Nat → Int64) × (Nat → Int32) × (Nat → Int32) × (Nat → Int32) × (Nat → Int32) × (Nat → Int64)) (hf : R_lays N g_all g_bestCost g_bestCrosses g_bestPart g_capped g_connected g_size = some res) : Cv l classes y_R_lays b_R_lays 2 none (rmk 4) G.1 (tyL G) Y [.ref h0] [(h0, O_R f_raised a_all a_text a_saved a_undone f_undos f_reached f_length f_begin f_sort f_sign f_value f_word f_wrongAt f_badAt f_bad a_told f_read f_side a_pile f_piled a_open f_opened f_joins f_had a_size a_capped a_connected a_bestCost a_bestCrosses a_bestPart a_part a_trees f_treeMany a_nodes f_nodeMany f_moveNode f_movePart f_moveFirst f_moveThen f_moveOther a_out f_outMany a_kept), (a_all, aI G 1276 g_all), (a_bestCost, aJ G 512 g_bestCost), (a_bestCrosses, aI G 512 g_bestCrosses), (a_bestPart, aI G 512 g_bestPart), (a_capped, aZ G 256 g_capped), (a_connected, aZ G 256 g_connected), (a_size, aJ G 256 g_size)] [(h0, O_R f_raised a_all a_text a_saved a_undone f_undos f_reached f_length f_begin f_sort f_sign f_value f_word f_wrongAt f_badAt f_bad a_told f_read f_side a_pile f_piled a_open f_opened f_joins f_had a_size a_capped a_connected a_bestCost a_bestCrosses a_bestPart a_part a_trees f_treeMany a_nodes f_nodeMany f_moveNode f_movePart f_moveFirst f_moveThen f_moveOther a_out f_outMany a_kept), (a_all, aI G 1276 g_all), (a_bestCost, aJ G 512 res.1), (a_bestCrosses, aI G 512 res.2.1), (a_bestPart, aI G 512 res.2.2.1), (a_capped, aZ G 256 res.2.2.2.1), (a_connected, aZ G 256 res.2.2.2.2.1), (a_size, aJ G 256 res.2.2.2.2.2)] := by
  refine entV (by decide) (Nat.le_of_ble_eq_true rfl) ?_
  intro p e s m args below meth c ls A Q hx hb hml hown htl hK hsk wq hl hret
  obtain ⟨hP, hD, hS⟩ := wq
  have hl : lv_has ls 2 [(0, .ref h0)] := hl
  have hS : va_S A s.heap s.heap [] := hS
  obtain ⟨H, hH⟩ : ∃ H : Heap, H = s.heap := ⟨_, rfl⟩
  obtain ⟨locs, hlocs⟩ : ∃ z : List Loc, z = [] := ⟨_, rfl⟩
  rw [← hH] at hP
  replace hS : va_S A s.heap H locs := by rw [hH, hlocs]; exact hS
  suffices hgo : W p l e (rmk 4) s m args below meth c H locs 0 0 Q (F0 m 0 ls []) by rw [hH, hlocs] at hgo; exact hgo
  have hJ61 : ∀ (g_bestCost : Nat → Int64) (g_bestCrosses : Nat → Int32) (g_bestPart : Nat → Int32) (g_capped : Nat → Int32) (g_connected : Nat → Int32) (g_size : Nat → Int64) (H : Heap) (locs : List Loc) (ls : Array Slot), PDS G.1 classes A s [(h0, O_R f_raised a_all a_text a_saved a_undone f_undos f_reached f_length f_begin f_sort f_sign f_value f_word f_wrongAt f_badAt f_bad a_told f_read f_side a_pile f_piled a_open f_opened f_joins f_had a_size a_capped a_connected a_bestCost a_bestCrosses a_bestPart a_part a_trees f_treeMany a_nodes f_nodeMany f_moveNode f_movePart f_moveFirst f_moveThen f_moveOther a_out f_outMany a_kept), (a_all, aI G 1276 g_all), (a_bestCost, aJ G 512 g_bestCost), (a_bestCrosses, aI G 512 g_bestCrosses), (a_bestPart, aI G 512 g_bestPart), (a_capped, aZ G 256 g_capped), (a_connected, aZ G 256 g_connected), (a_size, aJ G 256 g_size)] H locs → lv_has ls 2 [] → R_lays_61 N g_all g_bestCost g_bestCrosses g_bestPart g_capped g_connected g_size = some res → W p l e (rmk 4) s m args below meth c H locs 0 0 Q (F0 m 61 ls []) := by
    intro g_bestCost g_bestCrosses g_bestPart g_capped g_connected g_size H locs ls wq hl hf
    obtain ⟨hP, hD, hS⟩ := wq
    cases hf
    exact hret 61 ls H locs hP hS d_R_lays_61
  have hJ2 : ∀ (g_bestCost : Nat → Int64) (g_bestCrosses : Nat → Int32) (g_bestPart : Nat → Int32) (g_capped : Nat → Int32) (g_connected : Nat → Int32) (g_size : Nat → Int64) (x1 : Int32) (H : Heap) (locs : List Loc) (ls : Array Slot), PDS G.1 classes A s [(h0, O_R f_raised a_all a_text a_saved a_undone f_undos f_reached f_length f_begin f_sort f_sign f_value f_word f_wrongAt f_badAt f_bad a_told f_read f_side a_pile f_piled a_open f_opened f_joins f_had a_size a_capped a_connected a_bestCost a_bestCrosses a_bestPart a_part a_trees f_treeMany a_nodes f_nodeMany f_moveNode f_movePart f_moveFirst f_moveThen f_moveOther a_out f_outMany a_kept), (a_all, aI G 1276 g_all), (a_bestCost, aJ G 512 g_bestCost), (a_bestCrosses, aI G 512 g_bestCrosses), (a_bestPart, aI G 512 g_bestPart), (a_capped, aZ G 256 g_capped), (a_connected, aZ G 256 g_connected), (a_size, aJ G 256 g_size)] H locs → lv_has ls 2 [(0, .ref h0), (1, .int x1)] → R_lays_2 N g_all g_bestCost g_bestCrosses g_bestPart g_capped g_connected g_size x1 = some res → W p l e (rmk 4) s m args below meth c H locs 0 0 Q (F0 m 2 ls []) := by
    intro g_bestCost g_bestCrosses g_bestPart g_capped g_connected g_size x1 H locs ls wq hl hf
    obtain ⟨hP, hD, hS⟩ := wq
    obtain ⟨y2, hy2, hfo2⟩ := db_e hf
    have hL2 : ∀ (n : Nat) (g_bestCost : Nat → Int64) (g_bestCrosses : Nat → Int32) (g_bestPart : Nat → Int32) (g_capped : Nat → Int32) (g_connected : Nat → Int32) (g_size : Nat → Int64) (x1 : Int32) (H : Heap) (locs : List Loc) (ls : Array Slot), lp (fun x => R_lays_b2 N g_all x.1 x.2.1 x.2.2.1 x.2.2.2.1 x.2.2.2.2.1 x.2.2.2.2.2.1 x.2.2.2.2.2.2) n (g_bestCost, g_bestCrosses, g_bestPart, g_capped, g_connected, g_size, x1) = some y2 → PDS G.1 classes A s [(h0, O_R f_raised a_all a_text a_saved a_undone f_undos f_reached f_length f_begin f_sort f_sign f_value f_word f_wrongAt f_badAt f_bad a_told f_read f_side a_pile f_piled a_open f_opened f_joins f_had a_size a_capped a_connected a_bestCost a_bestCrosses a_bestPart a_part a_trees f_treeMany a_nodes f_nodeMany f_moveNode f_movePart f_moveFirst f_moveThen f_moveOther a_out f_outMany a_kept), (a_all, aI G 1276 g_all), (a_bestCost, aJ G 512 g_bestCost), (a_bestCrosses, aI G 512 g_bestCrosses), (a_bestPart, aI G 512 g_bestPart), (a_capped, aZ G 256 g_capped), (a_connected, aZ G 256 g_connected), (a_size, aJ G 256 g_size)] H locs → lv_has ls 2 [(0, .ref h0), (1, .int x1)] → W p l e (rmk 4) s m args below meth c H locs 0 0 Q (F0 m 2 ls []) := by
      intro n
      induction n with
      | zero =>
        intro g_bestCost g_bestCrosses g_bestPart g_capped g_connected g_size x1 H locs ls hf
        exact lp_0 hf
      | succ n ih2 =>
        intro g_bestCost g_bestCrosses g_bestPart g_capped g_connected g_size x1 H locs ls hf wq hl
        obtain ⟨hP, hD, hS⟩ := wq
        obtain ⟨r2, hf, hk2⟩ := lp_s hf
        have hf : R_lays_b2 N g_all g_bestCost g_bestCrosses g_bestPart g_capped g_connected g_size x1 = some r2 := hf
        have hJ40 : ∀ (g_bestCost : Nat → Int64) (g_bestCrosses : Nat → Int32) (g_bestPart : Nat → Int32) (g_capped : Nat → Int32) (g_connected : Nat → Int32) (g_size : Nat → Int64) (x1 : Int32) (z1 : Int32) (z2 : Int32) (H : Heap) (locs : List Loc) (ls : Array Slot), PDS G.1 classes A s [(h0, O_R f_raised a_all a_text a_saved a_undone f_undos f_reached f_length f_begin f_sort f_sign f_value f_word f_wrongAt f_badAt f_bad a_told f_read f_side a_pile f_piled a_open f_opened f_joins f_had a_size a_capped a_connected a_bestCost a_bestCrosses a_bestPart a_part a_trees f_treeMany a_nodes f_nodeMany f_moveNode f_movePart f_moveFirst f_moveThen f_moveOther a_out f_outMany a_kept), (a_all, aI G 1276 g_all), (a_bestCost, aJ G 512 g_bestCost), (a_bestCrosses, aI G 512 g_bestCrosses), (a_bestPart, aI G 512 g_bestPart), (a_capped, aZ G 256 g_capped), (a_connected, aZ G 256 g_connected), (a_size, aJ G 256 g_size)] H locs → lv_has ls 2 [(0, .ref h0), (1, .int x1)] → R_lays_40 N g_all g_bestCost g_bestCrosses g_bestPart g_capped g_connected g_size x1 z1 z2 = some r2 → W p l e (rmk 4) s m args below meth c H locs 0 0 Q (F0 m 40 ls [.int z2, .int z1, .ref a_connected]) := by
          intro g_bestCost g_bestCrosses g_bestPart g_capped g_connected g_size x1 z1 z2 H locs ls wq hl hf
          obtain ⟨hP, hD, hS⟩ := wq
          obtain ⟨c8, hf⟩ := dk_e hf
          refine nx_zast hx hb hK hP hD hS 6 3 rfl rfl c8 d_R_lays_40 (fun v9 ev9 H locs hP hD hS => ?_)
          have hf := dn_e ev9 hf
          have hP : va_P G.1 classes [(h0, O_R f_raised a_all a_text a_saved a_undone f_undos f_reached f_length f_begin f_sort f_sign f_value f_word f_wrongAt f_badAt f_bad a_told f_read f_side a_pile f_piled a_open f_opened f_joins f_had a_size a_capped a_connected a_bestCost a_bestCrosses a_bestPart a_part a_trees f_treeMany a_nodes f_nodeMany f_moveNode f_movePart f_moveFirst f_moveThen f_moveOther a_out f_outMany a_kept), (a_all, aI G 1276 g_all), (a_bestCost, aJ G 512 g_bestCost), (a_bestCrosses, aI G 512 g_bestCrosses), (a_bestPart, aI G 512 g_bestPart), (a_capped, aZ G 256 g_capped), (a_connected, aZ G 256 v9), (a_size, aJ G 256 g_size)] H := hP
          have hD : va_D A [(h0, O_R f_raised a_all a_text a_saved a_undone f_undos f_reached f_length f_begin f_sort f_sign f_value f_word f_wrongAt f_badAt f_bad a_told f_read f_side a_pile f_piled a_open f_opened f_joins f_had a_size a_capped a_connected a_bestCost a_bestCrosses a_bestPart a_part a_trees f_treeMany a_nodes f_nodeMany f_moveNode f_movePart f_moveFirst f_moveThen f_moveOther a_out f_outMany a_kept), (a_all, aI G 1276 g_all), (a_bestCost, aJ G 512 g_bestCost), (a_bestCrosses, aI G 512 g_bestCrosses), (a_bestPart, aI G 512 g_bestPart), (a_capped, aZ G 256 g_capped), (a_connected, aZ G 256 v9), (a_size, aJ G 256 g_size)] := hD
          refine lv_aload_n hx hb d_R_lays_41 rfl (lv_at hl 0 rfl) ?_
          refine lv_iload_n hx hb d_R_lays_42 rfl (lv_at hl 1 rfl) ?_
          refine lv_iconst (v := (0 : Int32)) hx hb d_R_lays_43 (by decide) ?_
          obtain ⟨t10, hv11, hf⟩ := db_e hf
          refine call_v (isC := [0, 1, 2, 3, 4, 7]) (run_V (As := [.int x1, .int (0 : Int32)]) (rest := []) (ci := 12) (q0 := 0) hx hb hml hown htl (c_R_laysBest l G Y  h0 a_all a_text a_saved a_undone a_told a_pile a_open a_size a_capped a_connected a_bestCost a_bestCrosses a_bestPart a_part a_trees a_nodes a_out a_kept f_raised f_undos f_reached f_length f_begin f_sort f_sign f_value f_word f_wrongAt f_badAt f_bad f_read f_side f_piled f_opened f_joins f_had f_treeMany f_nodeMany f_moveNode f_movePart f_moveFirst f_moveThen f_moveOther f_outMany g_all g_bestCost g_bestCrosses g_bestPart g_size x1 (0 : Int32) N t10 hv11) mv_R_laysBest k_1535 (hRk (by decide) (by decide)) hK hsk hS hP hD (isC := [0, 1, 2, 3, 4, 7]) rfl (by decide) rfl rfl rfl hl.1 rfl (lv_room (Nat.le_of_ble_eq_true rfl)) d_R_lays_44) hP hD hS rfl rfl (fun H locs hP hD hS => ?_)
          have hP : va_P G.1 classes [(h0, O_R f_raised a_all a_text a_saved a_undone f_undos f_reached f_length f_begin f_sort f_sign f_value f_word f_wrongAt f_badAt f_bad a_told f_read f_side a_pile f_piled a_open f_opened f_joins f_had a_size a_capped a_connected a_bestCost a_bestCrosses a_bestPart a_part a_trees f_treeMany a_nodes f_nodeMany f_moveNode f_movePart f_moveFirst f_moveThen f_moveOther a_out f_outMany a_kept), (a_all, aI G 1276 g_all), (a_bestCost, aJ G 512 t10.1), (a_bestCrosses, aI G 512 t10.2.1), (a_bestPart, aI G 512 t10.2.2), (a_capped, aZ G 256 g_capped), (a_connected, aZ G 256 v9), (a_size, aJ G 256 g_size)] H := hP
          have hD : va_D A [(h0, O_R f_raised a_all a_text a_saved a_undone f_undos f_reached f_length f_begin f_sort f_sign f_value f_word f_wrongAt f_badAt f_bad a_told f_read f_side a_pile f_piled a_open f_opened f_joins f_had a_size a_capped a_connected a_bestCost a_bestCrosses a_bestPart a_part a_trees f_treeMany a_nodes f_nodeMany f_moveNode f_movePart f_moveFirst f_moveThen f_moveOther a_out f_outMany a_kept), (a_all, aI G 1276 g_all), (a_bestCost, aJ G 512 t10.1), (a_bestCrosses, aI G 512 t10.2.1), (a_bestPart, aI G 512 t10.2.2), (a_capped, aZ G 256 g_capped), (a_connected, aZ G 256 v9), (a_size, aJ G 256 g_size)] := hD
          refine lv_aload_n hx hb d_R_lays_47 rfl (lv_at hl 0 rfl) ?_
          refine lv_iload_n hx hb d_R_lays_48 rfl (lv_at hl 1 rfl) ?_
          refine lv_sipush (v := (256 : Int32)) hx hb d_R_lays_49 (by decide) ?_
          obtain ⟨t12, hv13, hf⟩ := db_e hf
          refine call_v (isC := [0, 1, 2, 3, 4, 7]) (run_V (As := [.int x1, .int (256 : Int32)]) (rest := []) (ci := 12) (q0 := 0) hx hb hml hown htl (c_R_laysBest l G Y  h0 a_all a_text a_saved a_undone a_told a_pile a_open a_size a_capped a_connected a_bestCost a_bestCrosses a_bestPart a_part a_trees a_nodes a_out a_kept f_raised f_undos f_reached f_length f_begin f_sort f_sign f_value f_word f_wrongAt f_badAt f_bad f_read f_side f_piled f_opened f_joins f_had f_treeMany f_nodeMany f_moveNode f_movePart f_moveFirst f_moveThen f_moveOther f_outMany g_all t10.1 t10.2.1 t10.2.2 g_size x1 (256 : Int32) N t12 hv13) mv_R_laysBest k_1535 (hRk (by decide) (by decide)) hK hsk hS hP hD (isC := [0, 1, 2, 3, 4, 7]) rfl (by decide) rfl rfl rfl hl.1 rfl (lv_room (Nat.le_of_ble_eq_true rfl)) d_R_lays_52) hP hD hS rfl rfl (fun H locs hP hD hS => ?_)
          have hP : va_P G.1 classes [(h0, O_R f_raised a_all a_text a_saved a_undone f_undos f_reached f_length f_begin f_sort f_sign f_value f_word f_wrongAt f_badAt f_bad a_told f_read f_side a_pile f_piled a_open f_opened f_joins f_had a_size a_capped a_connected a_bestCost a_bestCrosses a_bestPart a_part a_trees f_treeMany a_nodes f_nodeMany f_moveNode f_movePart f_moveFirst f_moveThen f_moveOther a_out f_outMany a_kept), (a_all, aI G 1276 g_all), (a_bestCost, aJ G 512 t12.1), (a_bestCrosses, aI G 512 t12.2.1), (a_bestPart, aI G 512 t12.2.2), (a_capped, aZ G 256 g_capped), (a_connected, aZ G 256 v9), (a_size, aJ G 256 g_size)] H := hP
          have hD : va_D A [(h0, O_R f_raised a_all a_text a_saved a_undone f_undos f_reached f_length f_begin f_sort f_sign f_value f_word f_wrongAt f_badAt f_bad a_told f_read f_side a_pile f_piled a_open f_opened f_joins f_had a_size a_capped a_connected a_bestCost a_bestCrosses a_bestPart a_part a_trees f_treeMany a_nodes f_nodeMany f_moveNode f_movePart f_moveFirst f_moveThen f_moveOther a_out f_outMany a_kept), (a_all, aI G 1276 g_all), (a_bestCost, aJ G 512 t12.1), (a_bestCrosses, aI G 512 t12.2.1), (a_bestPart, aI G 512 t12.2.2), (a_capped, aZ G 256 g_capped), (a_connected, aZ G 256 v9), (a_size, aJ G 256 g_size)] := hD
          obtain ⟨v14, ev14⟩ : ∃ z : Int32, z = x1 + (1 : Int32) := ⟨_, rfl⟩
          have hf := dn_e ev14 hf
          refine lv_iinc (v := v14) (lv' := [(1, .int v14), (0, .ref h0)]) hx hb d_R_lays_55 hl (k := 1) rfl (by rw [ev14]; rfl) (by decide) rfl (fun ls hl => ?_)
          refine lv_goto (tgt := 2) hx hb d_R_lays_58 (by decide) ?_
          exact ih2 t12.1 t12.2.1 t12.2.2 g_capped v9 g_size v14 H locs ls (lpk_i hf hk2) ⟨hP, hD, hS⟩ (lv_sub hl [1, 0] rfl)
        have hJ35 : ∀ (g_bestCost : Nat → Int64) (g_bestCrosses : Nat → Int32) (g_bestPart : Nat → Int32) (g_capped : Nat → Int32) (g_connected : Nat → Int32) (g_size : Nat → Int64) (x1 : Int32) (z1 : Int32) (H : Heap) (locs : List Loc) (ls : Array Slot), PDS G.1 classes A s [(h0, O_R f_raised a_all a_text a_saved a_undone f_undos f_reached f_length f_begin f_sort f_sign f_value f_word f_wrongAt f_badAt f_bad a_told f_read f_side a_pile f_piled a_open f_opened f_joins f_had a_size a_capped a_connected a_bestCost a_bestCrosses a_bestPart a_part a_trees f_treeMany a_nodes f_nodeMany f_moveNode f_movePart f_moveFirst f_moveThen f_moveOther a_out f_outMany a_kept), (a_all, aI G 1276 g_all), (a_bestCost, aJ G 512 g_bestCost), (a_bestCrosses, aI G 512 g_bestCrosses), (a_bestPart, aI G 512 g_bestPart), (a_capped, aZ G 256 g_capped), (a_connected, aZ G 256 g_connected), (a_size, aJ G 256 g_size)] H locs → lv_has ls 2 [(0, .ref h0), (1, .int x1)] → R_lays_35 N g_all g_bestCost g_bestCrosses g_bestPart g_capped g_connected g_size x1 z1 = some r2 → W p l e (rmk 4) s m args below meth c H locs 0 0 Q (F0 m 35 ls [.int z1, .ref a_connected]) := by
          intro g_bestCost g_bestCrosses g_bestPart g_capped g_connected g_size x1 z1 H locs ls wq hl hf
          obtain ⟨hP, hD, hS⟩ := wq
          refine lv_iconst (v := (1 : Int32)) hx hb d_R_lays_35 (by decide) ?_
          refine lv_goto (tgt := 40) hx hb d_R_lays_36 (by decide) ?_
          exact hJ40 g_bestCost g_bestCrosses g_bestPart g_capped g_connected g_size x1 z1 (1 : Int32) H locs ls ⟨hP, hD, hS⟩ (lv_sub hl [0, 1] rfl) hf
        refine lv_iload_n hx hb d_R_lays_2 rfl (lv_at hl 1 rfl) ?_
        refine lv_aload_n hx hb d_R_lays_3 rfl (lv_at hl 0 rfl) ?_
        refine call_i (isC := [0, 1]) (run_V (As := []) (rest := [.int x1]) (ci := 12) (q0 := 0) hx hb hml hown htl (c_R_everything l G Y  h0 a_all a_text a_saved a_undone a_told a_pile a_open a_size a_capped a_connected a_bestCost a_bestCrosses a_bestPart a_part a_trees a_nodes a_out a_kept f_raised f_undos f_reached f_length f_begin f_sort f_sign f_value f_word f_wrongAt f_badAt f_bad f_read f_side f_piled f_opened f_joins f_had f_treeMany f_nodeMany f_moveNode f_movePart f_moveFirst f_moveThen f_moveOther f_outMany g_all _ rfl) mv_R_everything k_1466 (hRk (by decide) (by decide)) hK hsk hS hP hD (isC := [0, 1]) rfl (by decide) rfl rfl rfl hl.1 rfl (lv_room (Nat.le_of_ble_eq_true rfl)) d_R_lays_4) hP hD hS rfl rfl (fun H locs hP hD hS => ?_)
        have hP : va_P G.1 classes [(h0, O_R f_raised a_all a_text a_saved a_undone f_undos f_reached f_length f_begin f_sort f_sign f_value f_word f_wrongAt f_badAt f_bad a_told f_read f_side a_pile f_piled a_open f_opened f_joins f_had a_size a_capped a_connected a_bestCost a_bestCrosses a_bestPart a_part a_trees f_treeMany a_nodes f_nodeMany f_moveNode f_movePart f_moveFirst f_moveThen f_moveOther a_out f_outMany a_kept), (a_all, aI G 1276 g_all), (a_bestCost, aJ G 512 g_bestCost), (a_bestCrosses, aI G 512 g_bestCrosses), (a_bestPart, aI G 512 g_bestPart), (a_capped, aZ G 256 g_capped), (a_connected, aZ G 256 g_connected), (a_size, aJ G 256 g_size)] H := hP
        have hD : va_D A [(h0, O_R f_raised a_all a_text a_saved a_undone f_undos f_reached f_length f_begin f_sort f_sign f_value f_word f_wrongAt f_badAt f_bad a_told f_read f_side a_pile f_piled a_open f_opened f_joins f_had a_size a_capped a_connected a_bestCost a_bestCrosses a_bestPart a_part a_trees f_treeMany a_nodes f_nodeMany f_moveNode f_movePart f_moveFirst f_moveThen f_moveOther a_out f_outMany a_kept), (a_all, aI G 1276 g_all), (a_bestCost, aJ G 512 g_bestCost), (a_bestCrosses, aI G 512 g_bestCrosses), (a_bestPart, aI G 512 g_bestPart), (a_capped, aZ G 256 g_capped), (a_connected, aZ G 256 g_connected), (a_size, aJ G 256 g_size)] := hD
        refine lv_icmp_gt (tgt := 61) hx hb d_R_lays_7 (by decide) (fun c1 => ?_) (fun c1 => ?_)
        · have hf := di_t c1 hf
          have hq2 := lpk_x hf hk2
          have hf := ex_y (f := fun y => R_lays_a2 N g_all y) hq2 hfo2
          have hf : R_lays_61 N g_all g_bestCost g_bestCrosses g_bestPart g_capped g_connected g_size = some res := hf
          exact hJ61 g_bestCost g_bestCrosses g_bestPart g_capped g_connected g_size H locs ls ⟨hP, hD, hS⟩ (lv_sub hl [] rfl) hf
        · have hf := di_f c1 hf
          refine lv_aload_n hx hb d_R_lays_10 rfl (lv_at hl 0 rfl) ?_
          refine lv_iload_n hx hb d_R_lays_11 rfl (lv_at hl 1 rfl) ?_
          obtain ⟨t2, hv3, hf⟩ := db_e hf
          refine call_v (isC := [0, 1, 5, 7]) (run_V (As := [.int x1]) (rest := []) (ci := 12) (q0 := 0) hx hb hml hown htl (c_R_laysSize l G Y  h0 a_all a_text a_saved a_undone a_told a_pile a_open a_size a_capped a_connected a_bestCost a_bestCrosses a_bestPart a_part a_trees a_nodes a_out a_kept f_raised f_undos f_reached f_length f_begin f_sort f_sign f_value f_word f_wrongAt f_badAt f_bad f_read f_side f_piled f_opened f_joins f_had f_treeMany f_nodeMany f_moveNode f_movePart f_moveFirst f_moveThen f_moveOther f_outMany g_all g_capped g_size x1 N t2 hv3) mv_R_laysSize k_1507 (hRk (by decide) (by decide)) hK hsk hS hP hD (isC := [0, 1, 5, 7]) rfl (by decide) rfl rfl rfl hl.1 rfl (lv_room (Nat.le_of_ble_eq_true rfl)) d_R_lays_12) hP hD hS rfl rfl (fun H locs hP hD hS => ?_)
          have hP : va_P G.1 classes [(h0, O_R f_raised a_all a_text a_saved a_undone f_undos f_reached f_length f_begin f_sort f_sign f_value f_word f_wrongAt f_badAt f_bad a_told f_read f_side a_pile f_piled a_open f_opened f_joins f_had a_size a_capped a_connected a_bestCost a_bestCrosses a_bestPart a_part a_trees f_treeMany a_nodes f_nodeMany f_moveNode f_movePart f_moveFirst f_moveThen f_moveOther a_out f_outMany a_kept), (a_all, aI G 1276 g_all), (a_bestCost, aJ G 512 g_bestCost), (a_bestCrosses, aI G 512 g_bestCrosses), (a_bestPart, aI G 512 g_bestPart), (a_capped, aZ G 256 t2.1), (a_connected, aZ G 256 g_connected), (a_size, aJ G 256 t2.2)] H := hP
          have hD : va_D A [(h0, O_R f_raised a_all a_text a_saved a_undone f_undos f_reached f_length f_begin f_sort f_sign f_value f_word f_wrongAt f_badAt f_bad a_told f_read f_side a_pile f_piled a_open f_opened f_joins f_had a_size a_capped a_connected a_bestCost a_bestCrosses a_bestPart a_part a_trees f_treeMany a_nodes f_nodeMany f_moveNode f_movePart f_moveFirst f_moveThen f_moveOther a_out f_outMany a_kept), (a_all, aI G 1276 g_all), (a_bestCost, aJ G 512 g_bestCost), (a_bestCrosses, aI G 512 g_bestCrosses), (a_bestPart, aI G 512 g_bestPart), (a_capped, aZ G 256 t2.1), (a_connected, aZ G 256 g_connected), (a_size, aJ G 256 t2.2)] := hD
          refine lv_aload_n hx hb d_R_lays_15 rfl (lv_at hl 0 rfl) ?_
          refine va_get (D := G.1) (ci := 12) (v := .ref a_connected) (C := n_R) (T := T_R) (N := 44) hx hb htl iw_R hown hK hP 0 rfl rfl 27 (by decide) (htl _ k_1223) (fun _ h9 => h9) rfl d_R_lays_16 ?_
          refine lv_iload_n hx hb d_R_lays_19 rfl (lv_at hl 1 rfl) ?_
          refine lv_iload_n hx hb d_R_lays_20 rfl (lv_at hl 1 rfl) ?_
          refine call_i (isC := []) (run_S (As := [.int x1]) (rest := [.int x1, .ref a_connected]) hx hb hml hown htl (c_R_isOne l G Y  x1 _ rfl) ms_R_isOne k_1520 (hRk (by decide) (by decide)) hK hsk hS hP hD (isC := []) rfl (by decide) rfl hl.1 rfl (lv_room (Nat.le_of_ble_eq_true rfl)) d_R_lays_21) hP hD hS rfl rfl (fun H locs hP hD hS => ?_)
          have hP : va_P G.1 classes [(h0, O_R f_raised a_all a_text a_saved a_undone f_undos f_reached f_length f_begin f_sort f_sign f_value f_word f_wrongAt f_badAt f_bad a_told f_read f_side a_pile f_piled a_open f_opened f_joins f_had a_size a_capped a_connected a_bestCost a_bestCrosses a_bestPart a_part a_trees f_treeMany a_nodes f_nodeMany f_moveNode f_movePart f_moveFirst f_moveThen f_moveOther a_out f_outMany a_kept), (a_all, aI G 1276 g_all), (a_bestCost, aJ G 512 g_bestCost), (a_bestCrosses, aI G 512 g_bestCrosses), (a_bestPart, aI G 512 g_bestPart), (a_capped, aZ G 256 t2.1), (a_connected, aZ G 256 g_connected), (a_size, aJ G 256 t2.2)] H := hP
          have hD : va_D A [(h0, O_R f_raised a_all a_text a_saved a_undone f_undos f_reached f_length f_begin f_sort f_sign f_value f_word f_wrongAt f_badAt f_bad a_told f_read f_side a_pile f_piled a_open f_opened f_joins f_had a_size a_capped a_connected a_bestCost a_bestCrosses a_bestPart a_part a_trees f_treeMany a_nodes f_nodeMany f_moveNode f_movePart f_moveFirst f_moveThen f_moveOther a_out f_outMany a_kept), (a_all, aI G 1276 g_all), (a_bestCost, aJ G 512 g_bestCost), (a_bestCrosses, aI G 512 g_bestCrosses), (a_bestPart, aI G 512 g_bestPart), (a_capped, aZ G 256 t2.1), (a_connected, aZ G 256 g_connected), (a_size, aJ G 256 t2.2)] := hD
          refine lv_if_ne (tgt := 35) hx hb d_R_lays_24 (by decide) (fun c4 => ?_) (fun c4 => ?_)
          · have hf := di_f c4 hf
            exact hJ35 g_bestCost g_bestCrosses g_bestPart t2.1 g_connected t2.2 x1 x1 H locs ls ⟨hP, hD, hS⟩ (lv_sub hl [0, 1] rfl) hf
          · have hf := di_t c4 hf
            refine lv_aload_n hx hb d_R_lays_27 rfl (lv_at hl 0 rfl) ?_
            refine lv_iload_n hx hb d_R_lays_28 rfl (lv_at hl 1 rfl) ?_
            obtain ⟨t5, hv6, hf⟩ := db_e hf
            refine call_i (isC := [0, 1, 6]) (run_V (As := [.int x1]) (rest := [.int x1, .ref a_connected]) (ci := 12) (q0 := 0) hx hb hml hown htl (c_R_pairsOf l G Y  h0 a_all a_text a_saved a_undone a_told a_pile a_open a_size a_capped a_connected a_bestCost a_bestCrosses a_bestPart a_part a_trees a_nodes a_out a_kept f_raised f_undos f_reached f_length f_begin f_sort f_sign f_value f_word f_wrongAt f_badAt f_bad f_read f_side f_piled f_opened f_joins f_had f_treeMany f_nodeMany f_moveNode f_movePart f_moveFirst f_moveThen f_moveOther f_outMany g_all g_connected x1 N t5 hv6) mv_R_pairsOf k_1523 (hRk (by decide) (by decide)) hK hsk hS hP hD (isC := [0, 1, 6]) rfl (by decide) rfl rfl rfl hl.1 rfl (lv_room (Nat.le_of_ble_eq_true rfl)) d_R_lays_29) hP hD hS rfl rfl (fun H locs hP hD hS => ?_)
            have hP : va_P G.1 classes [(h0, O_R f_raised a_all a_text a_saved a_undone f_undos f_reached f_length f_begin f_sort f_sign f_value f_word f_wrongAt f_badAt f_bad a_told f_read f_side a_pile f_piled a_open f_opened f_joins f_had a_size a_capped a_connected a_bestCost a_bestCrosses a_bestPart a_part a_trees f_treeMany a_nodes f_nodeMany f_moveNode f_movePart f_moveFirst f_moveThen f_moveOther a_out f_outMany a_kept), (a_all, aI G 1276 g_all), (a_bestCost, aJ G 512 g_bestCost), (a_bestCrosses, aI G 512 g_bestCrosses), (a_bestPart, aI G 512 g_bestPart), (a_capped, aZ G 256 t2.1), (a_connected, aZ G 256 g_connected), (a_size, aJ G 256 t2.2)] H := hP
            have hD : va_D A [(h0, O_R f_raised a_all a_text a_saved a_undone f_undos f_reached f_length f_begin f_sort f_sign f_value f_word f_wrongAt f_badAt f_bad a_told f_read f_side a_pile f_piled a_open f_opened f_joins f_had a_size a_capped a_connected a_bestCost a_bestCrosses a_bestPart a_part a_trees f_treeMany a_nodes f_nodeMany f_moveNode f_movePart f_moveFirst f_moveThen f_moveOther a_out f_outMany a_kept), (a_all, aI G 1276 g_all), (a_bestCost, aJ G 512 g_bestCost), (a_bestCrosses, aI G 512 g_bestCrosses), (a_bestPart, aI G 512 g_bestPart), (a_capped, aZ G 256 t2.1), (a_connected, aZ G 256 g_connected), (a_size, aJ G 256 t2.2)] := hD
            refine lv_if_le (tgt := 39) hx hb d_R_lays_32 (by decide) (fun c7 => ?_) (fun c7 => ?_)
            · have hf := di_t c7 hf
              refine lv_iconst (v := (0 : Int32)) hx hb d_R_lays_39 (by decide) ?_
              exact hJ40 g_bestCost g_bestCrosses g_bestPart t2.1 g_connected t2.2 x1 x1 (0 : Int32) H locs ls ⟨hP, hD, hS⟩ (lv_sub hl [0, 1] rfl) hf
            · have hf := di_f c7 hf
              exact hJ35 g_bestCost g_bestCrosses g_bestPart t2.1 g_connected t2.2 x1 x1 H locs ls ⟨hP, hD, hS⟩ (lv_sub hl [0, 1] rfl) hf
    exact hL2 N g_bestCost g_bestCrosses g_bestPart g_capped g_connected g_size x1 H locs ls hy2 ⟨hP, hD, hS⟩ hl
  refine lv_iconst (v := (1 : Int32)) hx hb d_R_lays_0 (by decide) ?_
  refine lv_istore_n (lv' := [(1, .int (1 : Int32)), (0, .ref h0)]) hx hb d_R_lays_1 rfl hl (by decide) rfl (fun ls hl => ?_)
  exact hJ2 g_bestCost g_bestCrosses g_bestPart g_capped g_connected g_size (1 : Int32) H locs ls ⟨hP, hD, hS⟩ (lv_sub hl [1, 0] rfl) hf
set_option maxHeartbeats 4000000 in
set_option maxRecDepth 100000 in
theorem c_R_pairMany (l : Launch) (G : va_G × (Nat → ClassId)) (Y : (Nat → Nat) × (Nat → Nat)) (h0 : Nat) (a_all : Nat) (a_text : Nat) (a_saved : Nat) (a_undone : Nat) (a_told : Nat) (a_pile : Nat) (a_open : Nat) (a_size : Nat) (a_capped : Nat) (a_connected : Nat) (a_bestCost : Nat) (a_bestCrosses : Nat) (a_bestPart : Nat) (a_part : Nat) (a_trees : Nat) (a_nodes : Nat) (a_out : Nat) (a_kept : Nat) (f_raised : Int32) (f_undos : Int32) (f_reached : Int32) (f_length : Int32) (f_begin : Int32) (f_sort : Int32) (f_sign : Int32) (f_value : Int32) (f_word : Int64) (f_wrongAt : Int32) (f_badAt : Int32) (f_bad : Int32) (f_read : Int32) (f_side : Int32) (f_piled : Int32) (f_opened : Int32) (f_joins : Int32) (f_had : Int32) (f_treeMany : Int32) (f_nodeMany : Int32) (f_moveNode : Int32) (f_movePart : Int32) (f_moveFirst : Int32) (f_moveThen : Int32) (f_moveOther : Int32) (f_outMany : Int32) (g_all : Nat → Int32) (g_connected : Nat → Int32) (N : Nat) (res : Int32) (hf : R_pairMany N g_all g_connected = some res) : Ci l classes y_R_pairMany b_R_pairMany 3 (some .int) (rmk 4) G.1 (tyL G) Y [.ref h0] [(h0, O_R f_raised a_all a_text a_saved a_undone f_undos f_reached f_length f_begin f_sort f_sign f_value f_word f_wrongAt f_badAt f_bad a_told f_read f_side a_pile f_piled a_open f_opened f_joins f_had a_size a_capped a_connected a_bestCost a_bestCrosses a_bestPart a_part a_trees f_treeMany a_nodes f_nodeMany f_moveNode f_movePart f_moveFirst f_moveThen f_moveOther a_out f_outMany a_kept), (a_all, aI G 1276 g_all), (a_connected, aZ G 256 g_connected)] [(h0, O_R f_raised a_all a_text a_saved a_undone f_undos f_reached f_length f_begin f_sort f_sign f_value f_word f_wrongAt f_badAt f_bad a_told f_read f_side a_pile f_piled a_open f_opened f_joins f_had a_size a_capped a_connected a_bestCost a_bestCrosses a_bestPart a_part a_trees f_treeMany a_nodes f_nodeMany f_moveNode f_movePart f_moveFirst f_moveThen f_moveOther a_out f_outMany a_kept), (a_all, aI G 1276 g_all), (a_connected, aZ G 256 g_connected)] res := by
  refine entI (by decide) (Nat.le_of_ble_eq_true rfl) ?_
  intro p e s m args below meth c ls A Q hx hb hml hown htl hK hsk wq hl hret
  obtain ⟨hP, hD, hS⟩ := wq
  have hl : lv_has ls 3 [(0, .ref h0)] := hl
  have hS : va_S A s.heap s.heap [] := hS
  obtain ⟨H, hH⟩ : ∃ H : Heap, H = s.heap := ⟨_, rfl⟩
  obtain ⟨locs, hlocs⟩ : ∃ z : List Loc, z = [] := ⟨_, rfl⟩
  rw [← hH] at hP
  replace hS : va_S A s.heap H locs := by rw [hH, hlocs]; exact hS
  suffices hgo : W p l e (rmk 4) s m args below meth c H locs 0 0 Q (F0 m 0 ls []) by rw [hH, hlocs] at hgo; exact hgo
  have hJ26 : ∀ (x1 : Int32) (H : Heap) (locs : List Loc) (ls : Array Slot), PDS G.1 classes A s [(h0, O_R f_raised a_all a_text a_saved a_undone f_undos f_reached f_length f_begin f_sort f_sign f_value f_word f_wrongAt f_badAt f_bad a_told f_read f_side a_pile f_piled a_open f_opened f_joins f_had a_size a_capped a_connected a_bestCost a_bestCrosses a_bestPart a_part a_trees f_treeMany a_nodes f_nodeMany f_moveNode f_movePart f_moveFirst f_moveThen f_moveOther a_out f_outMany a_kept), (a_all, aI G 1276 g_all), (a_connected, aZ G 256 g_connected)] H locs → lv_has ls 3 [(1, .int x1)] → R_pairMany_26 N g_all g_connected x1 = some res → W p l e (rmk 4) s m args below meth c H locs 0 0 Q (F0 m 26 ls []) := by
    intro x1 H locs ls wq hl hf
    obtain ⟨hP, hD, hS⟩ := wq
    refine lv_iload_n hx hb d_R_pairMany_26 rfl (lv_at hl 0 rfl) ?_
    cases hf
    exact hret 27 ls H locs hP hS d_R_pairMany_27
  have hJ4 : ∀ (x1 : Int32) (x2 : Int32) (H : Heap) (locs : List Loc) (ls : Array Slot), PDS G.1 classes A s [(h0, O_R f_raised a_all a_text a_saved a_undone f_undos f_reached f_length f_begin f_sort f_sign f_value f_word f_wrongAt f_badAt f_bad a_told f_read f_side a_pile f_piled a_open f_opened f_joins f_had a_size a_capped a_connected a_bestCost a_bestCrosses a_bestPart a_part a_trees f_treeMany a_nodes f_nodeMany f_moveNode f_movePart f_moveFirst f_moveThen f_moveOther a_out f_outMany a_kept), (a_all, aI G 1276 g_all), (a_connected, aZ G 256 g_connected)] H locs → lv_has ls 3 [(0, .ref h0), (1, .int x1), (2, .int x2)] → R_pairMany_4 N g_all g_connected x1 x2 = some res → W p l e (rmk 4) s m args below meth c H locs 0 0 Q (F0 m 4 ls []) := by
    intro x1 x2 H locs ls wq hl hf
    obtain ⟨hP, hD, hS⟩ := wq
    obtain ⟨y4, hy4, hfo4⟩ := db_e hf
    have hL4 : ∀ (n : Nat) (x1 : Int32) (x2 : Int32) (H : Heap) (locs : List Loc) (ls : Array Slot), lp (fun x => R_pairMany_b4 N g_all g_connected x.1 x.2) n (x1, x2) = some y4 → PDS G.1 classes A s [(h0, O_R f_raised a_all a_text a_saved a_undone f_undos f_reached f_length f_begin f_sort f_sign f_value f_word f_wrongAt f_badAt f_bad a_told f_read f_side a_pile f_piled a_open f_opened f_joins f_had a_size a_capped a_connected a_bestCost a_bestCrosses a_bestPart a_part a_trees f_treeMany a_nodes f_nodeMany f_moveNode f_movePart f_moveFirst f_moveThen f_moveOther a_out f_outMany a_kept), (a_all, aI G 1276 g_all), (a_connected, aZ G 256 g_connected)] H locs → lv_has ls 3 [(0, .ref h0), (1, .int x1), (2, .int x2)] → W p l e (rmk 4) s m args below meth c H locs 0 0 Q (F0 m 4 ls []) := by
      intro n
      induction n with
      | zero =>
        intro x1 x2 H locs ls hf
        exact lp_0 hf
      | succ n ih4 =>
        intro x1 x2 H locs ls hf wq hl
        obtain ⟨hP, hD, hS⟩ := wq
        obtain ⟨r4, hf, hk4⟩ := lp_s hf
        have hf : R_pairMany_b4 N g_all g_connected x1 x2 = some r4 := hf
        refine lv_iload_n hx hb d_R_pairMany_4 rfl (lv_at hl 2 rfl) ?_
        refine lv_aload_n hx hb d_R_pairMany_5 rfl (lv_at hl 0 rfl) ?_
        refine call_i (isC := [0, 1]) (run_V (As := []) (rest := [.int x2]) (ci := 12) (q0 := 0) hx hb hml hown htl (c_R_everything l G Y  h0 a_all a_text a_saved a_undone a_told a_pile a_open a_size a_capped a_connected a_bestCost a_bestCrosses a_bestPart a_part a_trees a_nodes a_out a_kept f_raised f_undos f_reached f_length f_begin f_sort f_sign f_value f_word f_wrongAt f_badAt f_bad f_read f_side f_piled f_opened f_joins f_had f_treeMany f_nodeMany f_moveNode f_movePart f_moveFirst f_moveThen f_moveOther f_outMany g_all _ rfl) mv_R_everything k_1466 (hRk (by decide) (by decide)) hK hsk hS hP hD (isC := [0, 1]) rfl (by decide) rfl rfl rfl hl.1 rfl (lv_room (Nat.le_of_ble_eq_true rfl)) d_R_pairMany_6) hP hD hS rfl rfl (fun H locs hP hD hS => ?_)
        have hP : va_P G.1 classes [(h0, O_R f_raised a_all a_text a_saved a_undone f_undos f_reached f_length f_begin f_sort f_sign f_value f_word f_wrongAt f_badAt f_bad a_told f_read f_side a_pile f_piled a_open f_opened f_joins f_had a_size a_capped a_connected a_bestCost a_bestCrosses a_bestPart a_part a_trees f_treeMany a_nodes f_nodeMany f_moveNode f_movePart f_moveFirst f_moveThen f_moveOther a_out f_outMany a_kept), (a_all, aI G 1276 g_all), (a_connected, aZ G 256 g_connected)] H := hP
        have hD : va_D A [(h0, O_R f_raised a_all a_text a_saved a_undone f_undos f_reached f_length f_begin f_sort f_sign f_value f_word f_wrongAt f_badAt f_bad a_told f_read f_side a_pile f_piled a_open f_opened f_joins f_had a_size a_capped a_connected a_bestCost a_bestCrosses a_bestPart a_part a_trees f_treeMany a_nodes f_nodeMany f_moveNode f_movePart f_moveFirst f_moveThen f_moveOther a_out f_outMany a_kept), (a_all, aI G 1276 g_all), (a_connected, aZ G 256 g_connected)] := hD
        refine lv_icmp_gt (tgt := 26) hx hb d_R_pairMany_9 (by decide) (fun c1 => ?_) (fun c1 => ?_)
        · have hf := di_t c1 hf
          have hq4 := lpk_x hf hk4
          have hf := ex_y (f := fun y => R_pairMany_a4 N g_all g_connected y) hq4 hfo4
          have hf : R_pairMany_26 N g_all g_connected x1 = some res := hf
          exact hJ26 x1 H locs ls ⟨hP, hD, hS⟩ (lv_sub hl [1] rfl) hf
        · have hf := di_f c1 hf
          refine lv_iload_n hx hb d_R_pairMany_12 rfl (lv_at hl 1 rfl) ?_
          refine lv_aload_n hx hb d_R_pairMany_13 rfl (lv_at hl 0 rfl) ?_
          refine lv_iload_n hx hb d_R_pairMany_14 rfl (lv_at hl 2 rfl) ?_
          obtain ⟨t2, hv3, hf⟩ := db_e hf
          refine call_i (isC := [0, 1, 2]) (run_V (As := [.int x2]) (rest := [.int x1]) (ci := 12) (q0 := 0) hx hb hml hown htl (c_R_pairsOf l G Y  h0 a_all a_text a_saved a_undone a_told a_pile a_open a_size a_capped a_connected a_bestCost a_bestCrosses a_bestPart a_part a_trees a_nodes a_out a_kept f_raised f_undos f_reached f_length f_begin f_sort f_sign f_value f_word f_wrongAt f_badAt f_bad f_read f_side f_piled f_opened f_joins f_had f_treeMany f_nodeMany f_moveNode f_movePart f_moveFirst f_moveThen f_moveOther f_outMany g_all g_connected x2 N t2 hv3) mv_R_pairsOf k_1523 (hRk (by decide) (by decide)) hK hsk hS hP hD (isC := [0, 1, 2]) rfl (by decide) rfl rfl rfl hl.1 rfl (lv_room (Nat.le_of_ble_eq_true rfl)) d_R_pairMany_15) hP hD hS rfl rfl (fun H locs hP hD hS => ?_)
          have hP : va_P G.1 classes [(h0, O_R f_raised a_all a_text a_saved a_undone f_undos f_reached f_length f_begin f_sort f_sign f_value f_word f_wrongAt f_badAt f_bad a_told f_read f_side a_pile f_piled a_open f_opened f_joins f_had a_size a_capped a_connected a_bestCost a_bestCrosses a_bestPart a_part a_trees f_treeMany a_nodes f_nodeMany f_moveNode f_movePart f_moveFirst f_moveThen f_moveOther a_out f_outMany a_kept), (a_all, aI G 1276 g_all), (a_connected, aZ G 256 g_connected)] H := hP
          have hD : va_D A [(h0, O_R f_raised a_all a_text a_saved a_undone f_undos f_reached f_length f_begin f_sort f_sign f_value f_word f_wrongAt f_badAt f_bad a_told f_read f_side a_pile f_piled a_open f_opened f_joins f_had a_size a_capped a_connected a_bestCost a_bestCrosses a_bestPart a_part a_trees f_treeMany a_nodes f_nodeMany f_moveNode f_movePart f_moveFirst f_moveThen f_moveOther a_out f_outMany a_kept), (a_all, aI G 1276 g_all), (a_connected, aZ G 256 g_connected)] := hD
          refine lv_iadd hx hb d_R_pairMany_18 ?_
          refine lv_topi (fun v4 ev4 => ?_)
          have hf := dn_e ev4 hf
          refine lv_istore_n (lv' := [(1, .int v4), (0, .ref h0), (2, .int x2)]) hx hb d_R_pairMany_19 rfl hl (by decide) rfl (fun ls hl => ?_)
          obtain ⟨v5, ev5⟩ : ∃ z : Int32, z = x2 + (1 : Int32) := ⟨_, rfl⟩
          have hf := dn_e ev5 hf
          refine lv_iinc (v := v5) (lv' := [(2, .int v5), (1, .int v4), (0, .ref h0)]) hx hb d_R_pairMany_20 hl (k := 2) rfl (by rw [ev5]; rfl) (by decide) rfl (fun ls hl => ?_)
          refine lv_goto (tgt := 4) hx hb d_R_pairMany_23 (by decide) ?_
          exact ih4 v4 v5 H locs ls (lpk_i hf hk4) ⟨hP, hD, hS⟩ (lv_sub hl [2, 1, 0] rfl)
    exact hL4 N x1 x2 H locs ls hy4 ⟨hP, hD, hS⟩ hl
  refine lv_iconst (v := (0 : Int32)) hx hb d_R_pairMany_0 (by decide) ?_
  refine lv_istore_n (lv' := [(1, .int (0 : Int32)), (0, .ref h0)]) hx hb d_R_pairMany_1 rfl hl (by decide) rfl (fun ls hl => ?_)
  refine lv_iconst (v := (1 : Int32)) hx hb d_R_pairMany_2 (by decide) ?_
  refine lv_istore_n (lv' := [(2, .int (1 : Int32)), (1, .int (0 : Int32)), (0, .ref h0)]) hx hb d_R_pairMany_3 rfl hl (by decide) rfl (fun ls hl => ?_)
  exact hJ4 (0 : Int32) (1 : Int32) H locs ls ⟨hP, hD, hS⟩ (lv_sub hl [2, 1, 0] rfl) hf
set_option maxHeartbeats 4000000 in
set_option maxRecDepth 100000 in
theorem c_R_noParts (l : Launch) (G : va_G × (Nat → ClassId)) (Y : (Nat → Nat) × (Nat → Nat)) (h0 : Nat) (a_all : Nat) (a_text : Nat) (a_saved : Nat) (a_undone : Nat) (a_told : Nat) (a_pile : Nat) (a_open : Nat) (a_size : Nat) (a_capped : Nat) (a_connected : Nat) (a_bestCost : Nat) (a_bestCrosses : Nat) (a_bestPart : Nat) (a_part : Nat) (a_trees : Nat) (a_nodes : Nat) (a_out : Nat) (a_kept : Nat) (f_raised : Int32) (f_undos : Int32) (f_reached : Int32) (f_length : Int32) (f_begin : Int32) (f_sort : Int32) (f_sign : Int32) (f_value : Int32) (f_word : Int64) (f_wrongAt : Int32) (f_badAt : Int32) (f_bad : Int32) (f_read : Int32) (f_side : Int32) (f_piled : Int32) (f_opened : Int32) (f_joins : Int32) (f_had : Int32) (f_treeMany : Int32) (f_nodeMany : Int32) (f_moveNode : Int32) (f_movePart : Int32) (f_moveFirst : Int32) (f_moveThen : Int32) (f_moveOther : Int32) (f_outMany : Int32) (g_part : Nat → Int32) (N : Nat) (res : (Nat → Int32)) (hf : R_noParts N g_part = some res) : Cv l classes y_R_noParts b_R_noParts 2 none (rmk 0) G.1 (tyL G) Y [.ref h0] [(h0, O_R f_raised a_all a_text a_saved a_undone f_undos f_reached f_length f_begin f_sort f_sign f_value f_word f_wrongAt f_badAt f_bad a_told f_read f_side a_pile f_piled a_open f_opened f_joins f_had a_size a_capped a_connected a_bestCost a_bestCrosses a_bestPart a_part a_trees f_treeMany a_nodes f_nodeMany f_moveNode f_movePart f_moveFirst f_moveThen f_moveOther a_out f_outMany a_kept), (a_part, aI G 256 g_part)] [(h0, O_R f_raised a_all a_text a_saved a_undone f_undos f_reached f_length f_begin f_sort f_sign f_value f_word f_wrongAt f_badAt f_bad a_told f_read f_side a_pile f_piled a_open f_opened f_joins f_had a_size a_capped a_connected a_bestCost a_bestCrosses a_bestPart a_part a_trees f_treeMany a_nodes f_nodeMany f_moveNode f_movePart f_moveFirst f_moveThen f_moveOther a_out f_outMany a_kept), (a_part, aI G 256 res)] := by
  refine entV (by decide) (Nat.le_of_ble_eq_true rfl) ?_
  intro p e s m args below meth c ls A Q hx hb hml hown htl hK hsk wq hl hret
  obtain ⟨hP, hD, hS⟩ := wq
  have hl : lv_has ls 2 [(0, .ref h0)] := hl
  have hS : va_S A s.heap s.heap [] := hS
  obtain ⟨H, hH⟩ : ∃ H : Heap, H = s.heap := ⟨_, rfl⟩
  obtain ⟨locs, hlocs⟩ : ∃ z : List Loc, z = [] := ⟨_, rfl⟩
  rw [← hH] at hP
  replace hS : va_S A s.heap H locs := by rw [hH, hlocs]; exact hS
  suffices hgo : W p l e (rmk 0) s m args below meth c H locs 0 0 Q (F0 m 0 ls []) by rw [hH, hlocs] at hgo; exact hgo
  have hJ22 : ∀ (g_part : Nat → Int32) (H : Heap) (locs : List Loc) (ls : Array Slot), PDS G.1 classes A s [(h0, O_R f_raised a_all a_text a_saved a_undone f_undos f_reached f_length f_begin f_sort f_sign f_value f_word f_wrongAt f_badAt f_bad a_told f_read f_side a_pile f_piled a_open f_opened f_joins f_had a_size a_capped a_connected a_bestCost a_bestCrosses a_bestPart a_part a_trees f_treeMany a_nodes f_nodeMany f_moveNode f_movePart f_moveFirst f_moveThen f_moveOther a_out f_outMany a_kept), (a_part, aI G 256 g_part)] H locs → lv_has ls 2 [] → R_noParts_22 N g_part = some res → W p l e (rmk 0) s m args below meth c H locs 0 0 Q (F0 m 22 ls []) := by
    intro g_part H locs ls wq hl hf
    obtain ⟨hP, hD, hS⟩ := wq
    cases hf
    exact hret 22 ls H locs hP hS d_R_noParts_22
  have hJ2 : ∀ (g_part : Nat → Int32) (x1 : Int32) (H : Heap) (locs : List Loc) (ls : Array Slot), PDS G.1 classes A s [(h0, O_R f_raised a_all a_text a_saved a_undone f_undos f_reached f_length f_begin f_sort f_sign f_value f_word f_wrongAt f_badAt f_bad a_told f_read f_side a_pile f_piled a_open f_opened f_joins f_had a_size a_capped a_connected a_bestCost a_bestCrosses a_bestPart a_part a_trees f_treeMany a_nodes f_nodeMany f_moveNode f_movePart f_moveFirst f_moveThen f_moveOther a_out f_outMany a_kept), (a_part, aI G 256 g_part)] H locs → lv_has ls 2 [(0, .ref h0), (1, .int x1)] → R_noParts_2 N g_part x1 = some res → W p l e (rmk 0) s m args below meth c H locs 0 0 Q (F0 m 2 ls []) := by
    intro g_part x1 H locs ls wq hl hf
    obtain ⟨hP, hD, hS⟩ := wq
    obtain ⟨y2, hy2, hfo2⟩ := db_e hf
    have hL2 : ∀ (n : Nat) (g_part : Nat → Int32) (x1 : Int32) (H : Heap) (locs : List Loc) (ls : Array Slot), lp (fun x => R_noParts_b2 N x.1 x.2) n (g_part, x1) = some y2 → PDS G.1 classes A s [(h0, O_R f_raised a_all a_text a_saved a_undone f_undos f_reached f_length f_begin f_sort f_sign f_value f_word f_wrongAt f_badAt f_bad a_told f_read f_side a_pile f_piled a_open f_opened f_joins f_had a_size a_capped a_connected a_bestCost a_bestCrosses a_bestPart a_part a_trees f_treeMany a_nodes f_nodeMany f_moveNode f_movePart f_moveFirst f_moveThen f_moveOther a_out f_outMany a_kept), (a_part, aI G 256 g_part)] H locs → lv_has ls 2 [(0, .ref h0), (1, .int x1)] → W p l e (rmk 0) s m args below meth c H locs 0 0 Q (F0 m 2 ls []) := by
      intro n
      induction n with
      | zero =>
        intro g_part x1 H locs ls hf
        exact lp_0 hf
      | succ n ih2 =>
        intro g_part x1 H locs ls hf wq hl
        obtain ⟨hP, hD, hS⟩ := wq
        obtain ⟨r2, hf, hk2⟩ := lp_s hf
        have hf : R_noParts_b2 N g_part x1 = some r2 := hf
        refine lv_iload_n hx hb d_R_noParts_2 rfl (lv_at hl 1 rfl) ?_
        refine lv_sipush (v := (256 : Int32)) hx hb d_R_noParts_3 (by decide) ?_
        refine lv_icmp_ge (tgt := 22) hx hb d_R_noParts_6 (by decide) (fun c1 => ?_) (fun c1 => ?_)
        · have hf := di_t c1 hf
          have hq2 := lpk_x hf hk2
          have hf := ex_y (f := fun y => R_noParts_a2 N  y) hq2 hfo2
          have hf : R_noParts_22 N g_part = some res := hf
          exact hJ22 g_part H locs ls ⟨hP, hD, hS⟩ (lv_sub hl [] rfl) hf
        · have hf := di_f c1 hf
          refine lv_aload_n hx hb d_R_noParts_9 rfl (lv_at hl 0 rfl) ?_
          refine va_get (D := G.1) (ci := 12) (v := .ref a_part) (C := n_R) (T := T_R) (N := 44) hx hb htl iw_R hown hK hP 0 rfl rfl 31 (by decide) (htl _ k_1227) (fun _ h9 => h9) rfl d_R_noParts_10 ?_
          refine lv_iload_n hx hb d_R_noParts_13 rfl (lv_at hl 1 rfl) ?_
          refine lv_iconst (v := (0 : Int32)) hx hb d_R_noParts_14 (by decide) ?_
          obtain ⟨c2, hf⟩ := dk_e hf
          refine nx_iast hx hb hK hP hD hS 1 1 rfl rfl c2 d_R_noParts_15 (fun v3 ev3 H locs hP hD hS => ?_)
          have hf := dn_e ev3 hf
          have hP : va_P G.1 classes [(h0, O_R f_raised a_all a_text a_saved a_undone f_undos f_reached f_length f_begin f_sort f_sign f_value f_word f_wrongAt f_badAt f_bad a_told f_read f_side a_pile f_piled a_open f_opened f_joins f_had a_size a_capped a_connected a_bestCost a_bestCrosses a_bestPart a_part a_trees f_treeMany a_nodes f_nodeMany f_moveNode f_movePart f_moveFirst f_moveThen f_moveOther a_out f_outMany a_kept), (a_part, aI G 256 v3)] H := hP
          have hD : va_D A [(h0, O_R f_raised a_all a_text a_saved a_undone f_undos f_reached f_length f_begin f_sort f_sign f_value f_word f_wrongAt f_badAt f_bad a_told f_read f_side a_pile f_piled a_open f_opened f_joins f_had a_size a_capped a_connected a_bestCost a_bestCrosses a_bestPart a_part a_trees f_treeMany a_nodes f_nodeMany f_moveNode f_movePart f_moveFirst f_moveThen f_moveOther a_out f_outMany a_kept), (a_part, aI G 256 v3)] := hD
          obtain ⟨v4, ev4⟩ : ∃ z : Int32, z = x1 + (1 : Int32) := ⟨_, rfl⟩
          have hf := dn_e ev4 hf
          refine lv_iinc (v := v4) (lv' := [(1, .int v4), (0, .ref h0)]) hx hb d_R_noParts_16 hl (k := 1) rfl (by rw [ev4]; rfl) (by decide) rfl (fun ls hl => ?_)
          refine lv_goto (tgt := 2) hx hb d_R_noParts_19 (by decide) ?_
          exact ih2 v3 v4 H locs ls (lpk_i hf hk2) ⟨hP, hD, hS⟩ (lv_sub hl [1, 0] rfl)
    exact hL2 N g_part x1 H locs ls hy2 ⟨hP, hD, hS⟩ hl
  refine lv_iconst (v := (0 : Int32)) hx hb d_R_noParts_0 (by decide) ?_
  refine lv_istore_n (lv' := [(1, .int (0 : Int32)), (0, .ref h0)]) hx hb d_R_noParts_1 rfl hl (by decide) rfl (fun ls hl => ?_)
  exact hJ2 g_part (0 : Int32) H locs ls ⟨hP, hD, hS⟩ (lv_sub hl [1, 0] rfl) hf
set_option maxHeartbeats 4000000 in
set_option maxRecDepth 100000 in
theorem c_R_partsOfBest (l : Launch) (G : va_G × (Nat → ClassId)) (Y : (Nat → Nat) × (Nat → Nat)) (h0 : Nat) (a_all : Nat) (a_text : Nat) (a_saved : Nat) (a_undone : Nat) (a_told : Nat) (a_pile : Nat) (a_open : Nat) (a_size : Nat) (a_capped : Nat) (a_connected : Nat) (a_bestCost : Nat) (a_bestCrosses : Nat) (a_bestPart : Nat) (a_part : Nat) (a_trees : Nat) (a_nodes : Nat) (a_out : Nat) (a_kept : Nat) (f_raised : Int32) (f_undos : Int32) (f_reached : Int32) (f_length : Int32) (f_begin : Int32) (f_sort : Int32) (f_sign : Int32) (f_value : Int32) (f_word : Int64) (f_wrongAt : Int32) (f_badAt : Int32) (f_bad : Int32) (f_read : Int32) (f_side : Int32) (f_piled : Int32) (f_opened : Int32) (f_joins : Int32) (f_had : Int32) (f_treeMany : Int32) (f_nodeMany : Int32) (f_moveNode : Int32) (f_movePart : Int32) (f_moveFirst : Int32) (f_moveThen : Int32) (f_moveOther : Int32) (f_outMany : Int32) (g_bestPart : Nat → Int32) (g_part : Nat → Int32) (x1 : Int32) (N : Nat) (res : (Nat → Int32)) (hf : R_partsOfBest N g_bestPart g_part x1 = some res) : Cv l classes y_R_partsOfBest b_R_partsOfBest 3 none (rmk 1) G.1 (tyL G) Y [.ref h0, .int x1] [(h0, O_R f_raised a_all a_text a_saved a_undone f_undos f_reached f_length f_begin f_sort f_sign f_value f_word f_wrongAt f_badAt f_bad a_told f_read f_side a_pile f_piled a_open f_opened f_joins f_had a_size a_capped a_connected a_bestCost a_bestCrosses a_bestPart a_part a_trees f_treeMany a_nodes f_nodeMany f_moveNode f_movePart f_moveFirst f_moveThen f_moveOther a_out f_outMany a_kept), (a_bestPart, aI G 512 g_bestPart), (a_part, aI G 256 g_part)] [(h0, O_R f_raised a_all a_text a_saved a_undone f_undos f_reached f_length f_begin f_sort f_sign f_value f_word f_wrongAt f_badAt f_bad a_told f_read f_side a_pile f_piled a_open f_opened f_joins f_had a_size a_capped a_connected a_bestCost a_bestCrosses a_bestPart a_part a_trees f_treeMany a_nodes f_nodeMany f_moveNode f_movePart f_moveFirst f_moveThen f_moveOther a_out f_outMany a_kept), (a_bestPart, aI G 512 g_bestPart), (a_part, aI G 256 res)] := by
  refine entV (by decide) (Nat.le_of_ble_eq_true rfl) ?_
  intro p e s m args below meth c ls A Q hx hb hml hown htl hK hsk wq hl hret
  obtain ⟨hP, hD, hS⟩ := wq
  have hl : lv_has ls 3 [(0, .ref h0), (1, .int x1)] := hl
  have hS : va_S A s.heap s.heap [] := hS
  obtain ⟨H, hH⟩ : ∃ H : Heap, H = s.heap := ⟨_, rfl⟩
  obtain ⟨locs, hlocs⟩ : ∃ z : List Loc, z = [] := ⟨_, rfl⟩
  rw [← hH] at hP
  replace hS : va_S A s.heap H locs := by rw [hH, hlocs]; exact hS
  suffices hgo : W p l e (rmk 1) s m args below meth c H locs 0 0 Q (F0 m 0 ls []) by rw [hH, hlocs] at hgo; exact hgo
  have hJ89 : ∀ (g_part : Nat → Int32) (H : Heap) (locs : List Loc) (ls : Array Slot), PDS G.1 classes A s [(h0, O_R f_raised a_all a_text a_saved a_undone f_undos f_reached f_length f_begin f_sort f_sign f_value f_word f_wrongAt f_badAt f_bad a_told f_read f_side a_pile f_piled a_open f_opened f_joins f_had a_size a_capped a_connected a_bestCost a_bestCrosses a_bestPart a_part a_trees f_treeMany a_nodes f_nodeMany f_moveNode f_movePart f_moveFirst f_moveThen f_moveOther a_out f_outMany a_kept), (a_bestPart, aI G 512 g_bestPart), (a_part, aI G 256 g_part)] H locs → lv_has ls 3 [] → R_partsOfBest_89 N g_bestPart g_part = some res → W p l e (rmk 1) s m args below meth c H locs 0 0 Q (F0 m 89 ls []) := by
    intro g_part H locs ls wq hl hf
    obtain ⟨hP, hD, hS⟩ := wq
    cases hf
    exact hret 89 ls H locs hP hS d_R_partsOfBest_89
  have hJ18 : ∀ (g_part : Nat → Int32) (x2 : Int32) (H : Heap) (locs : List Loc) (ls : Array Slot), PDS G.1 classes A s [(h0, O_R f_raised a_all a_text a_saved a_undone f_undos f_reached f_length f_begin f_sort f_sign f_value f_word f_wrongAt f_badAt f_bad a_told f_read f_side a_pile f_piled a_open f_opened f_joins f_had a_size a_capped a_connected a_bestCost a_bestCrosses a_bestPart a_part a_trees f_treeMany a_nodes f_nodeMany f_moveNode f_movePart f_moveFirst f_moveThen f_moveOther a_out f_outMany a_kept), (a_bestPart, aI G 512 g_bestPart), (a_part, aI G 256 g_part)] H locs → lv_has ls 3 [(0, .ref h0), (2, .int x2)] → R_partsOfBest_18 N g_bestPart g_part x2 = some res → W p l e (rmk 1) s m args below meth c H locs 0 0 Q (F0 m 18 ls []) := by
    intro g_part x2 H locs ls wq hl hf
    obtain ⟨hP, hD, hS⟩ := wq
    obtain ⟨y18, hy18, hfo18⟩ := db_e hf
    have hL18 : ∀ (n : Nat) (g_part : Nat → Int32) (x2 : Int32) (H : Heap) (locs : List Loc) (ls : Array Slot), lp (fun x => R_partsOfBest_b18 N g_bestPart x.1 x.2) n (g_part, x2) = some y18 → PDS G.1 classes A s [(h0, O_R f_raised a_all a_text a_saved a_undone f_undos f_reached f_length f_begin f_sort f_sign f_value f_word f_wrongAt f_badAt f_bad a_told f_read f_side a_pile f_piled a_open f_opened f_joins f_had a_size a_capped a_connected a_bestCost a_bestCrosses a_bestPart a_part a_trees f_treeMany a_nodes f_nodeMany f_moveNode f_movePart f_moveFirst f_moveThen f_moveOther a_out f_outMany a_kept), (a_bestPart, aI G 512 g_bestPart), (a_part, aI G 256 g_part)] H locs → lv_has ls 3 [(0, .ref h0), (2, .int x2)] → W p l e (rmk 1) s m args below meth c H locs 0 0 Q (F0 m 18 ls []) := by
      intro n
      induction n with
      | zero =>
        intro g_part x2 H locs ls hf
        exact lp_0 hf
      | succ n ih18 =>
        intro g_part x2 H locs ls hf wq hl
        obtain ⟨hP, hD, hS⟩ := wq
        obtain ⟨r18, hf, hk18⟩ := lp_s hf
        have hf : R_partsOfBest_b18 N g_bestPart g_part x2 = some r18 := hf
        refine lv_iload_n hx hb d_R_partsOfBest_18 rfl (lv_at hl 1 rfl) ?_
        refine lv_if_le (tgt := 89) hx hb d_R_partsOfBest_19 (by decide) (fun c6 => ?_) (fun c6 => ?_)
        · have hf := di_t c6 hf
          have hq18 := lpk_x hf hk18
          have hf := ex_y (f := fun y => R_partsOfBest_a18 N g_bestPart y) hq18 hfo18
          have hf : R_partsOfBest_89 N g_bestPart g_part = some res := hf
          exact hJ89 g_part H locs ls ⟨hP, hD, hS⟩ (lv_sub hl [] rfl) hf
        · have hf := di_f c6 hf
          refine lv_aload_n hx hb d_R_partsOfBest_22 rfl (lv_at hl 0 rfl) ?_
          refine va_get (D := G.1) (ci := 12) (v := .ref a_part) (C := n_R) (T := T_R) (N := 44) hx hb htl iw_R hown hK hP 0 rfl rfl 31 (by decide) (htl _ k_1227) (fun _ h9 => h9) rfl d_R_partsOfBest_23 ?_
          refine lv_iload_n hx hb d_R_partsOfBest_26 rfl (lv_at hl 1 rfl) ?_
          obtain ⟨c7, hf⟩ := dk_e hf
          refine va_iald hx hb hK hP 2 1 rfl rfl c7 d_R_partsOfBest_27 ?_
          refine lv_if_le (tgt := 83) hx hb d_R_partsOfBest_28 (by decide) (fun c8 => ?_) (fun c8 => ?_)
          · have hf := di_t c8 hf
            obtain ⟨v9, ev9⟩ : ∃ z : Int32, z = x2 + (-1 : Int32) := ⟨_, rfl⟩
            have hf := dn_e ev9 hf
            refine lv_iinc (v := v9) (lv' := [(2, .int v9), (0, .ref h0)]) hx hb d_R_partsOfBest_83 hl (k := 1) rfl (by rw [ev9]; rfl) (by decide) rfl (fun ls hl => ?_)
            refine lv_goto (tgt := 18) hx hb d_R_partsOfBest_86 (by decide) ?_
            exact ih18 g_part v9 H locs ls (lpk_i hf hk18) ⟨hP, hD, hS⟩ (lv_sub hl [1, 0] rfl)
          · have hf := di_f c8 hf
            refine lv_aload_n hx hb d_R_partsOfBest_31 rfl (lv_at hl 0 rfl) ?_
            refine va_get (D := G.1) (ci := 12) (v := .ref a_part) (C := n_R) (T := T_R) (N := 44) hx hb htl iw_R hown hK hP 0 rfl rfl 31 (by decide) (htl _ k_1227) (fun _ h9 => h9) rfl d_R_partsOfBest_32 ?_
            refine lv_aload_n hx hb d_R_partsOfBest_35 rfl (lv_at hl 0 rfl) ?_
            refine va_get (D := G.1) (ci := 12) (v := .ref a_part) (C := n_R) (T := T_R) (N := 44) hx hb htl iw_R hown hK hP 0 rfl rfl 31 (by decide) (htl _ k_1227) (fun _ h9 => h9) rfl d_R_partsOfBest_36 ?_
            refine lv_iload_n hx hb d_R_partsOfBest_39 rfl (lv_at hl 1 rfl) ?_
            refine va_iald hx hb hK hP 2 1 rfl rfl c7 d_R_partsOfBest_40 ?_
            refine lv_aload_n hx hb d_R_partsOfBest_41 rfl (lv_at hl 0 rfl) ?_
            refine va_get (D := G.1) (ci := 12) (v := .ref a_bestPart) (C := n_R) (T := T_R) (N := 44) hx hb htl iw_R hown hK hP 0 rfl rfl 30 (by decide) (htl _ k_1226) (fun _ h9 => h9) rfl d_R_partsOfBest_42 ?_
            refine lv_aload_n hx hb d_R_partsOfBest_45 rfl (lv_at hl 0 rfl) ?_
            refine va_get (D := G.1) (ci := 12) (v := .ref a_part) (C := n_R) (T := T_R) (N := 44) hx hb htl iw_R hown hK hP 0 rfl rfl 31 (by decide) (htl _ k_1227) (fun _ h9 => h9) rfl d_R_partsOfBest_46 ?_
            refine lv_iload_n hx hb d_R_partsOfBest_49 rfl (lv_at hl 1 rfl) ?_
            refine va_iald hx hb hK hP 2 1 rfl rfl c7 d_R_partsOfBest_50 ?_
            obtain ⟨c10, hf⟩ := dk_e hf
            refine va_iald hx hb hK hP 1 1 rfl rfl c10 d_R_partsOfBest_51 ?_
            obtain ⟨c11, hf⟩ := dk_e hf
            refine nx_iast hx hb hK hP hD hS 2 1 rfl rfl c11 d_R_partsOfBest_52 (fun v12 ev12 H locs hP hD hS => ?_)
            have hf := dn_e ev12 hf
            have hP : va_P G.1 classes [(h0, O_R f_raised a_all a_text a_saved a_undone f_undos f_reached f_length f_begin f_sort f_sign f_value f_word f_wrongAt f_badAt f_bad a_told f_read f_side a_pile f_piled a_open f_opened f_joins f_had a_size a_capped a_connected a_bestCost a_bestCrosses a_bestPart a_part a_trees f_treeMany a_nodes f_nodeMany f_moveNode f_movePart f_moveFirst f_moveThen f_moveOther a_out f_outMany a_kept), (a_bestPart, aI G 512 g_bestPart), (a_part, aI G 256 v12)] H := hP
            have hD : va_D A [(h0, O_R f_raised a_all a_text a_saved a_undone f_undos f_reached f_length f_begin f_sort f_sign f_value f_word f_wrongAt f_badAt f_bad a_told f_read f_side a_pile f_piled a_open f_opened f_joins f_had a_size a_capped a_connected a_bestCost a_bestCrosses a_bestPart a_part a_trees f_treeMany a_nodes f_nodeMany f_moveNode f_movePart f_moveFirst f_moveThen f_moveOther a_out f_outMany a_kept), (a_bestPart, aI G 512 g_bestPart), (a_part, aI G 256 v12)] := hD
            refine lv_aload_n hx hb d_R_partsOfBest_53 rfl (lv_at hl 0 rfl) ?_
            refine va_get (D := G.1) (ci := 12) (v := .ref a_part) (C := n_R) (T := T_R) (N := 44) hx hb htl iw_R hown hK hP 0 rfl rfl 31 (by decide) (htl _ k_1227) (fun _ h9 => h9) rfl d_R_partsOfBest_54 ?_
            refine lv_iload_n hx hb d_R_partsOfBest_57 rfl (lv_at hl 1 rfl) ?_
            refine lv_aload_n hx hb d_R_partsOfBest_58 rfl (lv_at hl 0 rfl) ?_
            refine va_get (D := G.1) (ci := 12) (v := .ref a_part) (C := n_R) (T := T_R) (N := 44) hx hb htl iw_R hown hK hP 0 rfl rfl 31 (by decide) (htl _ k_1227) (fun _ h9 => h9) rfl d_R_partsOfBest_59 ?_
            refine lv_iload_n hx hb d_R_partsOfBest_62 rfl (lv_at hl 1 rfl) ?_
            refine va_iald hx hb hK hP 2 1 rfl rfl c7 d_R_partsOfBest_63 ?_
            refine lv_iconst (v := (-1 : Int32)) hx hb d_R_partsOfBest_64 (by decide) ?_
            refine lv_ixor hx hb d_R_partsOfBest_65 ?_
            refine lv_iand hx hb d_R_partsOfBest_66 ?_
            refine lv_aload_n hx hb d_R_partsOfBest_67 rfl (lv_at hl 0 rfl) ?_
            refine va_get (D := G.1) (ci := 12) (v := .ref a_bestPart) (C := n_R) (T := T_R) (N := 44) hx hb htl iw_R hown hK hP 0 rfl rfl 30 (by decide) (htl _ k_1226) (fun _ h9 => h9) rfl d_R_partsOfBest_68 ?_
            refine lv_iload_n hx hb d_R_partsOfBest_71 rfl (lv_at hl 1 rfl) ?_
            refine lv_aload_n hx hb d_R_partsOfBest_72 rfl (lv_at hl 0 rfl) ?_
            refine va_get (D := G.1) (ci := 12) (v := .ref a_part) (C := n_R) (T := T_R) (N := 44) hx hb htl iw_R hown hK hP 0 rfl rfl 31 (by decide) (htl _ k_1227) (fun _ h9 => h9) rfl d_R_partsOfBest_73 ?_
            refine lv_iload_n hx hb d_R_partsOfBest_76 rfl (lv_at hl 1 rfl) ?_
            refine va_iald hx hb hK hP 2 1 rfl rfl c7 d_R_partsOfBest_77 ?_
            refine lv_iconst (v := (-1 : Int32)) hx hb d_R_partsOfBest_78 (by decide) ?_
            refine lv_ixor hx hb d_R_partsOfBest_79 ?_
            refine lv_iand hx hb d_R_partsOfBest_80 ?_
            obtain ⟨c13, hf⟩ := dk_e hf
            refine va_iald hx hb hK hP 1 1 rfl rfl c13 d_R_partsOfBest_81 ?_
            obtain ⟨c14, hf⟩ := dk_e hf
            refine nx_iast hx hb hK hP hD hS 2 1 rfl rfl c14 d_R_partsOfBest_82 (fun v15 ev15 H locs hP hD hS => ?_)
            have hf := dn_e ev15 hf
            have hP : va_P G.1 classes [(h0, O_R f_raised a_all a_text a_saved a_undone f_undos f_reached f_length f_begin f_sort f_sign f_value f_word f_wrongAt f_badAt f_bad a_told f_read f_side a_pile f_piled a_open f_opened f_joins f_had a_size a_capped a_connected a_bestCost a_bestCrosses a_bestPart a_part a_trees f_treeMany a_nodes f_nodeMany f_moveNode f_movePart f_moveFirst f_moveThen f_moveOther a_out f_outMany a_kept), (a_bestPart, aI G 512 g_bestPart), (a_part, aI G 256 v15)] H := hP
            have hD : va_D A [(h0, O_R f_raised a_all a_text a_saved a_undone f_undos f_reached f_length f_begin f_sort f_sign f_value f_word f_wrongAt f_badAt f_bad a_told f_read f_side a_pile f_piled a_open f_opened f_joins f_had a_size a_capped a_connected a_bestCost a_bestCrosses a_bestPart a_part a_trees f_treeMany a_nodes f_nodeMany f_moveNode f_movePart f_moveFirst f_moveThen f_moveOther a_out f_outMany a_kept), (a_bestPart, aI G 512 g_bestPart), (a_part, aI G 256 v15)] := hD
            obtain ⟨v16, ev16⟩ : ∃ z : Int32, z = x2 + (-1 : Int32) := ⟨_, rfl⟩
            have hf := dn_e ev16 hf
            refine lv_iinc (v := v16) (lv' := [(2, .int v16), (0, .ref h0)]) hx hb d_R_partsOfBest_83 hl (k := 1) rfl (by rw [ev16]; rfl) (by decide) rfl (fun ls hl => ?_)
            refine lv_goto (tgt := 18) hx hb d_R_partsOfBest_86 (by decide) ?_
            exact ih18 v15 v16 H locs ls (lpk_i hf hk18) ⟨hP, hD, hS⟩ (lv_sub hl [1, 0] rfl)
    exact hL18 N g_part x2 H locs ls hy18 ⟨hP, hD, hS⟩ hl
  refine lv_aload_n hx hb d_R_partsOfBest_0 rfl (lv_at hl 0 rfl) ?_
  obtain ⟨t1, hv2, hf⟩ := db_e hf
  refine call_v (isC := [0, 2]) (run_V (As := []) (rest := []) (ci := 12) (q0 := 0) hx hb hml hown htl (c_R_noParts l G Y  h0 a_all a_text a_saved a_undone a_told a_pile a_open a_size a_capped a_connected a_bestCost a_bestCrosses a_bestPart a_part a_trees a_nodes a_out a_kept f_raised f_undos f_reached f_length f_begin f_sort f_sign f_value f_word f_wrongAt f_badAt f_bad f_read f_side f_piled f_opened f_joins f_had f_treeMany f_nodeMany f_moveNode f_movePart f_moveFirst f_moveThen f_moveOther f_outMany g_part N t1 hv2) mv_R_noParts k_1550 (hRk (by decide) (by decide)) hK hsk hS hP hD (isC := [0, 2]) rfl (by decide) rfl rfl rfl hl.1 rfl (lv_room (Nat.le_of_ble_eq_true rfl)) d_R_partsOfBest_1) hP hD hS rfl rfl (fun H locs hP hD hS => ?_)
  have hP : va_P G.1 classes [(h0, O_R f_raised a_all a_text a_saved a_undone f_undos f_reached f_length f_begin f_sort f_sign f_value f_word f_wrongAt f_badAt f_bad a_told f_read f_side a_pile f_piled a_open f_opened f_joins f_had a_size a_capped a_connected a_bestCost a_bestCrosses a_bestPart a_part a_trees f_treeMany a_nodes f_nodeMany f_moveNode f_movePart f_moveFirst f_moveThen f_moveOther a_out f_outMany a_kept), (a_bestPart, aI G 512 g_bestPart), (a_part, aI G 256 t1)] H := hP
  have hD : va_D A [(h0, O_R f_raised a_all a_text a_saved a_undone f_undos f_reached f_length f_begin f_sort f_sign f_value f_word f_wrongAt f_badAt f_bad a_told f_read f_side a_pile f_piled a_open f_opened f_joins f_had a_size a_capped a_connected a_bestCost a_bestCrosses a_bestPart a_part a_trees f_treeMany a_nodes f_nodeMany f_moveNode f_movePart f_moveFirst f_moveThen f_moveOther a_out f_outMany a_kept), (a_bestPart, aI G 512 g_bestPart), (a_part, aI G 256 t1)] := hD
  refine lv_aload_n hx hb d_R_partsOfBest_4 rfl (lv_at hl 0 rfl) ?_
  refine va_get (D := G.1) (ci := 12) (v := .ref a_part) (C := n_R) (T := T_R) (N := 44) hx hb htl iw_R hown hK hP 0 rfl rfl 31 (by decide) (htl _ k_1227) (fun _ h9 => h9) rfl d_R_partsOfBest_5 ?_
  refine lv_iload_n hx hb d_R_partsOfBest_8 rfl (lv_at hl 1 rfl) ?_
  refine lv_aload_n hx hb d_R_partsOfBest_9 rfl (lv_at hl 0 rfl) ?_
  refine va_get (D := G.1) (ci := 12) (v := .ref a_bestPart) (C := n_R) (T := T_R) (N := 44) hx hb htl iw_R hown hK hP 0 rfl rfl 30 (by decide) (htl _ k_1226) (fun _ h9 => h9) rfl d_R_partsOfBest_10 ?_
  refine lv_iload_n hx hb d_R_partsOfBest_13 rfl (lv_at hl 1 rfl) ?_
  obtain ⟨c3, hf⟩ := dk_e hf
  refine va_iald hx hb hK hP 1 1 rfl rfl c3 d_R_partsOfBest_14 ?_
  obtain ⟨c4, hf⟩ := dk_e hf
  refine nx_iast hx hb hK hP hD hS 2 1 rfl rfl c4 d_R_partsOfBest_15 (fun v5 ev5 H locs hP hD hS => ?_)
  have hf := dn_e ev5 hf
  have hP : va_P G.1 classes [(h0, O_R f_raised a_all a_text a_saved a_undone f_undos f_reached f_length f_begin f_sort f_sign f_value f_word f_wrongAt f_badAt f_bad a_told f_read f_side a_pile f_piled a_open f_opened f_joins f_had a_size a_capped a_connected a_bestCost a_bestCrosses a_bestPart a_part a_trees f_treeMany a_nodes f_nodeMany f_moveNode f_movePart f_moveFirst f_moveThen f_moveOther a_out f_outMany a_kept), (a_bestPart, aI G 512 g_bestPart), (a_part, aI G 256 v5)] H := hP
  have hD : va_D A [(h0, O_R f_raised a_all a_text a_saved a_undone f_undos f_reached f_length f_begin f_sort f_sign f_value f_word f_wrongAt f_badAt f_bad a_told f_read f_side a_pile f_piled a_open f_opened f_joins f_had a_size a_capped a_connected a_bestCost a_bestCrosses a_bestPart a_part a_trees f_treeMany a_nodes f_nodeMany f_moveNode f_movePart f_moveFirst f_moveThen f_moveOther a_out f_outMany a_kept), (a_bestPart, aI G 512 g_bestPart), (a_part, aI G 256 v5)] := hD
  refine lv_iload_n hx hb d_R_partsOfBest_16 rfl (lv_at hl 1 rfl) ?_
  refine lv_istore_n (lv' := [(2, .int x1), (0, .ref h0), (1, .int x1)]) hx hb d_R_partsOfBest_17 rfl hl (by decide) rfl (fun ls hl => ?_)
  exact hJ18 v5 x1 H locs ls ⟨hP, hD, hS⟩ (lv_sub hl [1, 0] rfl) hf
set_option maxHeartbeats 4000000 in
set_option maxRecDepth 100000 in
theorem c_R_costOfParts (l : Launch) (G : va_G × (Nat → ClassId)) (Y : (Nat → Nat) × (Nat → Nat)) (h0 : Nat) (a_all : Nat) (a_text : Nat) (a_saved : Nat) (a_undone : Nat) (a_told : Nat) (a_pile : Nat) (a_open : Nat) (a_size : Nat) (a_capped : Nat) (a_connected : Nat) (a_bestCost : Nat) (a_bestCrosses : Nat) (a_bestPart : Nat) (a_part : Nat) (a_trees : Nat) (a_nodes : Nat) (a_out : Nat) (a_kept : Nat) (f_raised : Int32) (f_undos : Int32) (f_reached : Int32) (f_length : Int32) (f_begin : Int32) (f_sort : Int32) (f_sign : Int32) (f_value : Int32) (f_word : Int64) (f_wrongAt : Int32) (f_badAt : Int32) (f_bad : Int32) (f_read : Int32) (f_side : Int32) (f_piled : Int32) (f_opened : Int32) (f_joins : Int32) (f_had : Int32) (f_treeMany : Int32) (f_nodeMany : Int32) (f_moveNode : Int32) (f_movePart : Int32) (f_moveFirst : Int32) (f_moveThen : Int32) (f_moveOther : Int32) (f_outMany : Int32) (g_part : Nat → Int32) (g_size : Nat → Int64) (x1 : Int32) (N : Nat) (res : Int64) (hf : R_costOfParts N g_part g_size x1 = some res) : Cl l classes y_R_costOfParts b_R_costOfParts 5 (some .long) (rmk 1) G.1 (tyL G) Y [.ref h0, .int x1] [(h0, O_R f_raised a_all a_text a_saved a_undone f_undos f_reached f_length f_begin f_sort f_sign f_value f_word f_wrongAt f_badAt f_bad a_told f_read f_side a_pile f_piled a_open f_opened f_joins f_had a_size a_capped a_connected a_bestCost a_bestCrosses a_bestPart a_part a_trees f_treeMany a_nodes f_nodeMany f_moveNode f_movePart f_moveFirst f_moveThen f_moveOther a_out f_outMany a_kept), (a_part, aI G 256 g_part), (a_size, aJ G 256 g_size)] [(h0, O_R f_raised a_all a_text a_saved a_undone f_undos f_reached f_length f_begin f_sort f_sign f_value f_word f_wrongAt f_badAt f_bad a_told f_read f_side a_pile f_piled a_open f_opened f_joins f_had a_size a_capped a_connected a_bestCost a_bestCrosses a_bestPart a_part a_trees f_treeMany a_nodes f_nodeMany f_moveNode f_movePart f_moveFirst f_moveThen f_moveOther a_out f_outMany a_kept), (a_part, aI G 256 g_part), (a_size, aJ G 256 g_size)] res := by
  refine entL (by decide) (Nat.le_of_ble_eq_true rfl) ?_
  intro p e s m args below meth c ls A Q hx hb hml hown htl hK hsk wq hl hret
  obtain ⟨hP, hD, hS⟩ := wq
  have hl : lv_has ls 5 [(0, .ref h0), (1, .int x1)] := hl
  have hS : va_S A s.heap s.heap [] := hS
  obtain ⟨H, hH⟩ : ∃ H : Heap, H = s.heap := ⟨_, rfl⟩
  obtain ⟨locs, hlocs⟩ : ∃ z : List Loc, z = [] := ⟨_, rfl⟩
  rw [← hH] at hP
  replace hS : va_S A s.heap H locs := by rw [hH, hlocs]; exact hS
  suffices hgo : W p l e (rmk 1) s m args below meth c H locs 0 0 Q (F0 m 0 ls []) by rw [hH, hlocs] at hgo; exact hgo
  have hJ54 : ∀ (x2 : Int64) (H : Heap) (locs : List Loc) (ls : Array Slot), PDS G.1 classes A s [(h0, O_R f_raised a_all a_text a_saved a_undone f_undos f_reached f_length f_begin f_sort f_sign f_value f_word f_wrongAt f_badAt f_bad a_told f_read f_side a_pile f_piled a_open f_opened f_joins f_had a_size a_capped a_connected a_bestCost a_bestCrosses a_bestPart a_part a_trees f_treeMany a_nodes f_nodeMany f_moveNode f_movePart f_moveFirst f_moveThen f_moveOther a_out f_outMany a_kept), (a_part, aI G 256 g_part), (a_size, aJ G 256 g_size)] H locs → lv_has ls 5 [(2, .long x2)] → R_costOfParts_54 N g_part g_size x2 = some res → W p l e (rmk 1) s m args below meth c H locs 0 0 Q (F0 m 54 ls []) := by
    intro x2 H locs ls wq hl hf
    obtain ⟨hP, hD, hS⟩ := wq
    refine lv_lload_n hx hb d_R_costOfParts_54 rfl (lv_at hl 0 rfl) ?_
    cases hf
    exact hret 55 ls H locs hP hS d_R_costOfParts_55
  have hJ5 : ∀ (x2 : Int64) (x4 : Int32) (H : Heap) (locs : List Loc) (ls : Array Slot), PDS G.1 classes A s [(h0, O_R f_raised a_all a_text a_saved a_undone f_undos f_reached f_length f_begin f_sort f_sign f_value f_word f_wrongAt f_badAt f_bad a_told f_read f_side a_pile f_piled a_open f_opened f_joins f_had a_size a_capped a_connected a_bestCost a_bestCrosses a_bestPart a_part a_trees f_treeMany a_nodes f_nodeMany f_moveNode f_movePart f_moveFirst f_moveThen f_moveOther a_out f_outMany a_kept), (a_part, aI G 256 g_part), (a_size, aJ G 256 g_size)] H locs → lv_has ls 5 [(0, .ref h0), (1, .int x1), (2, .long x2), (4, .int x4)] → R_costOfParts_5 N g_part g_size x1 x2 x4 = some res → W p l e (rmk 1) s m args below meth c H locs 0 0 Q (F0 m 5 ls []) := by
    intro x2 x4 H locs ls wq hl hf
    obtain ⟨hP, hD, hS⟩ := wq
    obtain ⟨y5, hy5, hfo5⟩ := db_e hf
    have hL5 : ∀ (n : Nat) (x2 : Int64) (x4 : Int32) (H : Heap) (locs : List Loc) (ls : Array Slot), lp (fun x => R_costOfParts_b5 N g_part g_size x1 x.1 x.2) n (x2, x4) = some y5 → PDS G.1 classes A s [(h0, O_R f_raised a_all a_text a_saved a_undone f_undos f_reached f_length f_begin f_sort f_sign f_value f_word f_wrongAt f_badAt f_bad a_told f_read f_side a_pile f_piled a_open f_opened f_joins f_had a_size a_capped a_connected a_bestCost a_bestCrosses a_bestPart a_part a_trees f_treeMany a_nodes f_nodeMany f_moveNode f_movePart f_moveFirst f_moveThen f_moveOther a_out f_outMany a_kept), (a_part, aI G 256 g_part), (a_size, aJ G 256 g_size)] H locs → lv_has ls 5 [(0, .ref h0), (1, .int x1), (2, .long x2), (4, .int x4)] → W p l e (rmk 1) s m args below meth c H locs 0 0 Q (F0 m 5 ls []) := by
      intro n
      induction n with
      | zero =>
        intro x2 x4 H locs ls hf
        exact lp_0 hf
      | succ n ih5 =>
        intro x2 x4 H locs ls hf wq hl
        obtain ⟨hP, hD, hS⟩ := wq
        obtain ⟨r5, hf, hk5⟩ := lp_s hf
        have hf : R_costOfParts_b5 N g_part g_size x1 x2 x4 = some r5 := hf
        have hJ47 : ∀ (x4 : Int32) (z0 : Int64) (H : Heap) (locs : List Loc) (ls : Array Slot), PDS G.1 classes A s [(h0, O_R f_raised a_all a_text a_saved a_undone f_undos f_reached f_length f_begin f_sort f_sign f_value f_word f_wrongAt f_badAt f_bad a_told f_read f_side a_pile f_piled a_open f_opened f_joins f_had a_size a_capped a_connected a_bestCost a_bestCrosses a_bestPart a_part a_trees f_treeMany a_nodes f_nodeMany f_moveNode f_movePart f_moveFirst f_moveThen f_moveOther a_out f_outMany a_kept), (a_part, aI G 256 g_part), (a_size, aJ G 256 g_size)] H locs → lv_has ls 5 [(0, .ref h0), (1, .int x1), (4, .int x4)] → R_costOfParts_47 N g_part g_size x1 x4 z0 = some r5 → W p l e (rmk 1) s m args below meth c H locs 0 0 Q (F0 m 47 ls [.long z0]) := by
          intro x4 z0 H locs ls wq hl hf
          obtain ⟨hP, hD, hS⟩ := wq
          refine lv_lstore_n (lv' := [(2, .long z0), (0, .ref h0), (1, .int x1), (4, .int x4)]) hx hb d_R_costOfParts_47 rfl hl (by decide) rfl (fun ls hl => ?_)
          obtain ⟨v5, ev5⟩ : ∃ z : Int32, z = x4 + (1 : Int32) := ⟨_, rfl⟩
          have hf := dn_e ev5 hf
          refine lv_iinc (v := v5) (lv' := [(4, .int v5), (2, .long z0), (0, .ref h0), (1, .int x1)]) hx hb d_R_costOfParts_48 hl (k := 3) rfl (by rw [ev5]; rfl) (by decide) rfl (fun ls hl => ?_)
          refine lv_goto (tgt := 5) hx hb d_R_costOfParts_51 (by decide) ?_
          exact ih5 z0 v5 H locs ls (lpk_i hf hk5) ⟨hP, hD, hS⟩ (lv_sub hl [2, 3, 1, 0] rfl)
        have hJ46 : ∀ (x2 : Int64) (x4 : Int32) (H : Heap) (locs : List Loc) (ls : Array Slot), PDS G.1 classes A s [(h0, O_R f_raised a_all a_text a_saved a_undone f_undos f_reached f_length f_begin f_sort f_sign f_value f_word f_wrongAt f_badAt f_bad a_told f_read f_side a_pile f_piled a_open f_opened f_joins f_had a_size a_capped a_connected a_bestCost a_bestCrosses a_bestPart a_part a_trees f_treeMany a_nodes f_nodeMany f_moveNode f_movePart f_moveFirst f_moveThen f_moveOther a_out f_outMany a_kept), (a_part, aI G 256 g_part), (a_size, aJ G 256 g_size)] H locs → lv_has ls 5 [(0, .ref h0), (1, .int x1), (2, .long x2), (4, .int x4)] → R_costOfParts_46 N g_part g_size x1 x2 x4 = some r5 → W p l e (rmk 1) s m args below meth c H locs 0 0 Q (F0 m 46 ls []) := by
          intro x2 x4 H locs ls wq hl hf
          obtain ⟨hP, hD, hS⟩ := wq
          refine lv_lload_n hx hb d_R_costOfParts_46 rfl (lv_at hl 2 rfl) ?_
          exact hJ47 x4 x2 H locs ls ⟨hP, hD, hS⟩ (lv_sub hl [0, 1, 3] rfl) hf
        refine lv_iload hx hb d_R_costOfParts_5 (lv_at hl 3 rfl) ?_
        refine lv_sipush (v := (256 : Int32)) hx hb d_R_costOfParts_7 (by decide) ?_
        refine lv_icmp_ge (tgt := 54) hx hb d_R_costOfParts_10 (by decide) (fun c1 => ?_) (fun c1 => ?_)
        · have hf := di_t c1 hf
          have hq5 := lpk_x hf hk5
          have hf := ex_y (f := fun y => R_costOfParts_a5 N g_part g_size x1 y) hq5 hfo5
          have hf : R_costOfParts_54 N g_part g_size x2 = some res := hf
          exact hJ54 x2 H locs ls ⟨hP, hD, hS⟩ (lv_sub hl [2] rfl) hf
        · have hf := di_f c1 hf
          refine lv_aload_n hx hb d_R_costOfParts_13 rfl (lv_at hl 0 rfl) ?_
          refine va_get (D := G.1) (ci := 12) (v := .ref a_part) (C := n_R) (T := T_R) (N := 44) hx hb htl iw_R hown hK hP 0 rfl rfl 31 (by decide) (htl _ k_1227) (fun _ h9 => h9) rfl d_R_costOfParts_14 ?_
          refine lv_iload hx hb d_R_costOfParts_17 (lv_at hl 3 rfl) ?_
          obtain ⟨c2, hf⟩ := dk_e hf
          refine va_iald hx hb hK hP 1 1 rfl rfl c2 d_R_costOfParts_19 ?_
          refine lv_if_le (tgt := 46) hx hb d_R_costOfParts_20 (by decide) (fun c3 => ?_) (fun c3 => ?_)
          · have hf := di_t c3 hf
            exact hJ46 x2 x4 H locs ls ⟨hP, hD, hS⟩ (lv_sub hl [0, 1, 2, 3] rfl) hf
          · have hf := di_f c3 hf
            refine lv_iload hx hb d_R_costOfParts_23 (lv_at hl 3 rfl) ?_
            refine lv_iload_n hx hb d_R_costOfParts_25 rfl (lv_at hl 1 rfl) ?_
            refine call_i (isC := []) (run_S (As := [.int x4, .int x1]) (rest := []) hx hb hml hown htl (c_R_isIn l G Y  x4 x1 _ rfl) ms_R_isIn k_1470 (hRk (by decide) (by decide)) hK hsk hS hP hD (isC := []) rfl (by decide) rfl hl.1 rfl (lv_room (Nat.le_of_ble_eq_true rfl)) d_R_costOfParts_26) hP hD hS rfl rfl (fun H locs hP hD hS => ?_)
            have hP : va_P G.1 classes [(h0, O_R f_raised a_all a_text a_saved a_undone f_undos f_reached f_length f_begin f_sort f_sign f_value f_word f_wrongAt f_badAt f_bad a_told f_read f_side a_pile f_piled a_open f_opened f_joins f_had a_size a_capped a_connected a_bestCost a_bestCrosses a_bestPart a_part a_trees f_treeMany a_nodes f_nodeMany f_moveNode f_movePart f_moveFirst f_moveThen f_moveOther a_out f_outMany a_kept), (a_part, aI G 256 g_part), (a_size, aJ G 256 g_size)] H := hP
            have hD : va_D A [(h0, O_R f_raised a_all a_text a_saved a_undone f_undos f_reached f_length f_begin f_sort f_sign f_value f_word f_wrongAt f_badAt f_bad a_told f_read f_side a_pile f_piled a_open f_opened f_joins f_had a_size a_capped a_connected a_bestCost a_bestCrosses a_bestPart a_part a_trees f_treeMany a_nodes f_nodeMany f_moveNode f_movePart f_moveFirst f_moveThen f_moveOther a_out f_outMany a_kept), (a_part, aI G 256 g_part), (a_size, aJ G 256 g_size)] := hD
            refine lv_if_eq (tgt := 46) hx hb d_R_costOfParts_29 (by decide) (fun c4 => ?_) (fun c4 => ?_)
            · have hf := di_t c4 hf
              exact hJ46 x2 x4 H locs ls ⟨hP, hD, hS⟩ (lv_sub hl [0, 1, 2, 3] rfl) hf
            · have hf := di_f c4 hf
              refine lv_lload_n hx hb d_R_costOfParts_32 rfl (lv_at hl 2 rfl) ?_
              refine lv_aload_n hx hb d_R_costOfParts_33 rfl (lv_at hl 0 rfl) ?_
              refine va_get (D := G.1) (ci := 12) (v := .ref a_size) (C := n_R) (T := T_R) (N := 44) hx hb htl iw_R hown hK hP 0 rfl rfl 25 (by decide) (htl _ k_1221) (fun _ h9 => h9) rfl d_R_costOfParts_34 ?_
              refine lv_iload hx hb d_R_costOfParts_37 (lv_at hl 3 rfl) ?_
              refine va_lald hx hb hK hP 2 2 rfl rfl c2 d_R_costOfParts_39 ?_
              refine call_l (isC := []) (run_S (As := [.long x2, .long (g_size x4.toNatClampNeg)]) (rest := []) hx hb hml hown htl (c_R_sum l G Y  x2 (g_size x4.toNatClampNeg) _ rfl) ms_R_sum k_1539 (hRk (by decide) (by decide)) hK hsk hS hP hD (isC := []) rfl (by decide) rfl hl.1 rfl (lv_room (Nat.le_of_ble_eq_true rfl)) d_R_costOfParts_40) hP hD hS rfl rfl (fun H locs hP hD hS => ?_)
              have hP : va_P G.1 classes [(h0, O_R f_raised a_all a_text a_saved a_undone f_undos f_reached f_length f_begin f_sort f_sign f_value f_word f_wrongAt f_badAt f_bad a_told f_read f_side a_pile f_piled a_open f_opened f_joins f_had a_size a_capped a_connected a_bestCost a_bestCrosses a_bestPart a_part a_trees f_treeMany a_nodes f_nodeMany f_moveNode f_movePart f_moveFirst f_moveThen f_moveOther a_out f_outMany a_kept), (a_part, aI G 256 g_part), (a_size, aJ G 256 g_size)] H := hP
              have hD : va_D A [(h0, O_R f_raised a_all a_text a_saved a_undone f_undos f_reached f_length f_begin f_sort f_sign f_value f_word f_wrongAt f_badAt f_bad a_told f_read f_side a_pile f_piled a_open f_opened f_joins f_had a_size a_capped a_connected a_bestCost a_bestCrosses a_bestPart a_part a_trees f_treeMany a_nodes f_nodeMany f_moveNode f_movePart f_moveFirst f_moveThen f_moveOther a_out f_outMany a_kept), (a_part, aI G 256 g_part), (a_size, aJ G 256 g_size)] := hD
              refine lv_goto (tgt := 47) hx hb d_R_costOfParts_43 (by decide) ?_
              exact hJ47 x4 (R_sum x2 (g_size x4.toNatClampNeg)) H locs ls ⟨hP, hD, hS⟩ (lv_sub hl [0, 1, 3] rfl) hf
    exact hL5 N x2 x4 H locs ls hy5 ⟨hP, hD, hS⟩ hl
  refine lv_lconst (v := (0 : Int64)) hx hb d_R_costOfParts_0 (by decide) ?_
  refine lv_lstore_n (lv' := [(2, .long (0 : Int64)), (0, .ref h0), (1, .int x1)]) hx hb d_R_costOfParts_1 rfl hl (by decide) rfl (fun ls hl => ?_)
  refine lv_iconst (v := (1 : Int32)) hx hb d_R_costOfParts_2 (by decide) ?_
  refine lv_istore (lv' := [(4, .int (1 : Int32)), (2, .long (0 : Int64)), (0, .ref h0), (1, .int x1)]) hx hb d_R_costOfParts_3 hl (by decide) rfl (fun ls hl => ?_)
  exact hJ5 (0 : Int64) (1 : Int32) H locs ls ⟨hP, hD, hS⟩ (lv_sub hl [2, 3, 1, 0] rfl) hf
set_option maxHeartbeats 4000000 in
set_option maxRecDepth 100000 in
theorem c_R_crossesOfParts (l : Launch) (G : va_G × (Nat → ClassId)) (Y : (Nat → Nat) × (Nat → Nat)) (h0 : Nat) (a_all : Nat) (a_text : Nat) (a_saved : Nat) (a_undone : Nat) (a_told : Nat) (a_pile : Nat) (a_open : Nat) (a_size : Nat) (a_capped : Nat) (a_connected : Nat) (a_bestCost : Nat) (a_bestCrosses : Nat) (a_bestPart : Nat) (a_part : Nat) (a_trees : Nat) (a_nodes : Nat) (a_out : Nat) (a_kept : Nat) (f_raised : Int32) (f_undos : Int32) (f_reached : Int32) (f_length : Int32) (f_begin : Int32) (f_sort : Int32) (f_sign : Int32) (f_value : Int32) (f_word : Int64) (f_wrongAt : Int32) (f_badAt : Int32) (f_bad : Int32) (f_read : Int32) (f_side : Int32) (f_piled : Int32) (f_opened : Int32) (f_joins : Int32) (f_had : Int32) (f_treeMany : Int32) (f_nodeMany : Int32) (f_moveNode : Int32) (f_movePart : Int32) (f_moveFirst : Int32) (f_moveThen : Int32) (f_moveOther : Int32) (f_outMany : Int32) (g_all : Nat → Int32) (g_part : Nat → Int32) (N : Nat) (res : Int32) (hf : R_crossesOfParts N g_all g_part = some res) : Ci l classes y_R_crossesOfParts b_R_crossesOfParts 3 (some .int) (rmk 2) G.1 (tyL G) Y [.ref h0] [(h0, O_R f_raised a_all a_text a_saved a_undone f_undos f_reached f_length f_begin f_sort f_sign f_value f_word f_wrongAt f_badAt f_bad a_told f_read f_side a_pile f_piled a_open f_opened f_joins f_had a_size a_capped a_connected a_bestCost a_bestCrosses a_bestPart a_part a_trees f_treeMany a_nodes f_nodeMany f_moveNode f_movePart f_moveFirst f_moveThen f_moveOther a_out f_outMany a_kept), (a_all, aI G 1276 g_all), (a_part, aI G 256 g_part)] [(h0, O_R f_raised a_all a_text a_saved a_undone f_undos f_reached f_length f_begin f_sort f_sign f_value f_word f_wrongAt f_badAt f_bad a_told f_read f_side a_pile f_piled a_open f_opened f_joins f_had a_size a_capped a_connected a_bestCost a_bestCrosses a_bestPart a_part a_trees f_treeMany a_nodes f_nodeMany f_moveNode f_movePart f_moveFirst f_moveThen f_moveOther a_out f_outMany a_kept), (a_all, aI G 1276 g_all), (a_part, aI G 256 g_part)] res := by
  refine entI (by decide) (Nat.le_of_ble_eq_true rfl) ?_
  intro p e s m args below meth c ls A Q hx hb hml hown htl hK hsk wq hl hret
  obtain ⟨hP, hD, hS⟩ := wq
  have hl : lv_has ls 3 [(0, .ref h0)] := hl
  have hS : va_S A s.heap s.heap [] := hS
  obtain ⟨H, hH⟩ : ∃ H : Heap, H = s.heap := ⟨_, rfl⟩
  obtain ⟨locs, hlocs⟩ : ∃ z : List Loc, z = [] := ⟨_, rfl⟩
  rw [← hH] at hP
  replace hS : va_S A s.heap H locs := by rw [hH, hlocs]; exact hS
  suffices hgo : W p l e (rmk 2) s m args below meth c H locs 0 0 Q (F0 m 0 ls []) by rw [hH, hlocs] at hgo; exact hgo
  have hJ57 : ∀ (x1 : Int32) (H : Heap) (locs : List Loc) (ls : Array Slot), PDS G.1 classes A s [(h0, O_R f_raised a_all a_text a_saved a_undone f_undos f_reached f_length f_begin f_sort f_sign f_value f_word f_wrongAt f_badAt f_bad a_told f_read f_side a_pile f_piled a_open f_opened f_joins f_had a_size a_capped a_connected a_bestCost a_bestCrosses a_bestPart a_part a_trees f_treeMany a_nodes f_nodeMany f_moveNode f_movePart f_moveFirst f_moveThen f_moveOther a_out f_outMany a_kept), (a_all, aI G 1276 g_all), (a_part, aI G 256 g_part)] H locs → lv_has ls 3 [(1, .int x1)] → R_crossesOfParts_57 N g_all g_part x1 = some res → W p l e (rmk 2) s m args below meth c H locs 0 0 Q (F0 m 57 ls []) := by
    intro x1 H locs ls wq hl hf
    obtain ⟨hP, hD, hS⟩ := wq
    refine lv_iload_n hx hb d_R_crossesOfParts_57 rfl (lv_at hl 0 rfl) ?_
    cases hf
    exact hret 58 ls H locs hP hS d_R_crossesOfParts_58
  have hJ4 : ∀ (x1 : Int32) (x2 : Int32) (H : Heap) (locs : List Loc) (ls : Array Slot), PDS G.1 classes A s [(h0, O_R f_raised a_all a_text a_saved a_undone f_undos f_reached f_length f_begin f_sort f_sign f_value f_word f_wrongAt f_badAt f_bad a_told f_read f_side a_pile f_piled a_open f_opened f_joins f_had a_size a_capped a_connected a_bestCost a_bestCrosses a_bestPart a_part a_trees f_treeMany a_nodes f_nodeMany f_moveNode f_movePart f_moveFirst f_moveThen f_moveOther a_out f_outMany a_kept), (a_all, aI G 1276 g_all), (a_part, aI G 256 g_part)] H locs → lv_has ls 3 [(0, .ref h0), (1, .int x1), (2, .int x2)] → R_crossesOfParts_4 N g_all g_part x1 x2 = some res → W p l e (rmk 2) s m args below meth c H locs 0 0 Q (F0 m 4 ls []) := by
    intro x1 x2 H locs ls wq hl hf
    obtain ⟨hP, hD, hS⟩ := wq
    obtain ⟨y4, hy4, hfo4⟩ := db_e hf
    have hL4 : ∀ (n : Nat) (x1 : Int32) (x2 : Int32) (H : Heap) (locs : List Loc) (ls : Array Slot), lp (fun x => R_crossesOfParts_b4 N g_all g_part x.1 x.2) n (x1, x2) = some y4 → PDS G.1 classes A s [(h0, O_R f_raised a_all a_text a_saved a_undone f_undos f_reached f_length f_begin f_sort f_sign f_value f_word f_wrongAt f_badAt f_bad a_told f_read f_side a_pile f_piled a_open f_opened f_joins f_had a_size a_capped a_connected a_bestCost a_bestCrosses a_bestPart a_part a_trees f_treeMany a_nodes f_nodeMany f_moveNode f_movePart f_moveFirst f_moveThen f_moveOther a_out f_outMany a_kept), (a_all, aI G 1276 g_all), (a_part, aI G 256 g_part)] H locs → lv_has ls 3 [(0, .ref h0), (1, .int x1), (2, .int x2)] → W p l e (rmk 2) s m args below meth c H locs 0 0 Q (F0 m 4 ls []) := by
      intro n
      induction n with
      | zero =>
        intro x1 x2 H locs ls hf
        exact lp_0 hf
      | succ n ih4 =>
        intro x1 x2 H locs ls hf wq hl
        obtain ⟨hP, hD, hS⟩ := wq
        obtain ⟨r4, hf, hk4⟩ := lp_s hf
        have hf : R_crossesOfParts_b4 N g_all g_part x1 x2 = some r4 := hf
        have hJ49 : ∀ (x2 : Int32) (z0 : Int32) (z1 : Int32) (H : Heap) (locs : List Loc) (ls : Array Slot), PDS G.1 classes A s [(h0, O_R f_raised a_all a_text a_saved a_undone f_undos f_reached f_length f_begin f_sort f_sign f_value f_word f_wrongAt f_badAt f_bad a_told f_read f_side a_pile f_piled a_open f_opened f_joins f_had a_size a_capped a_connected a_bestCost a_bestCrosses a_bestPart a_part a_trees f_treeMany a_nodes f_nodeMany f_moveNode f_movePart f_moveFirst f_moveThen f_moveOther a_out f_outMany a_kept), (a_all, aI G 1276 g_all), (a_part, aI G 256 g_part)] H locs → lv_has ls 3 [(0, .ref h0), (2, .int x2)] → R_crossesOfParts_49 N g_all g_part x2 z0 z1 = some r4 → W p l e (rmk 2) s m args below meth c H locs 0 0 Q (F0 m 49 ls [.int z1, .int z0]) := by
          intro x2 z0 z1 H locs ls wq hl hf
          obtain ⟨hP, hD, hS⟩ := wq
          refine lv_iadd hx hb d_R_crossesOfParts_49 ?_
          refine lv_topi (fun v7 ev7 => ?_)
          have hf := dn_e ev7 hf
          refine lv_istore_n (lv' := [(1, .int v7), (0, .ref h0), (2, .int x2)]) hx hb d_R_crossesOfParts_50 rfl hl (by decide) rfl (fun ls hl => ?_)
          obtain ⟨v8, ev8⟩ : ∃ z : Int32, z = x2 + (1 : Int32) := ⟨_, rfl⟩
          have hf := dn_e ev8 hf
          refine lv_iinc (v := v8) (lv' := [(2, .int v8), (1, .int v7), (0, .ref h0)]) hx hb d_R_crossesOfParts_51 hl (k := 2) rfl (by rw [ev8]; rfl) (by decide) rfl (fun ls hl => ?_)
          refine lv_goto (tgt := 4) hx hb d_R_crossesOfParts_54 (by decide) ?_
          exact ih4 v7 v8 H locs ls (lpk_i hf hk4) ⟨hP, hD, hS⟩ (lv_sub hl [2, 1, 0] rfl)
        have hJ48 : ∀ (x2 : Int32) (z0 : Int32) (H : Heap) (locs : List Loc) (ls : Array Slot), PDS G.1 classes A s [(h0, O_R f_raised a_all a_text a_saved a_undone f_undos f_reached f_length f_begin f_sort f_sign f_value f_word f_wrongAt f_badAt f_bad a_told f_read f_side a_pile f_piled a_open f_opened f_joins f_had a_size a_capped a_connected a_bestCost a_bestCrosses a_bestPart a_part a_trees f_treeMany a_nodes f_nodeMany f_moveNode f_movePart f_moveFirst f_moveThen f_moveOther a_out f_outMany a_kept), (a_all, aI G 1276 g_all), (a_part, aI G 256 g_part)] H locs → lv_has ls 3 [(0, .ref h0), (2, .int x2)] → R_crossesOfParts_48 N g_all g_part x2 z0 = some r4 → W p l e (rmk 2) s m args below meth c H locs 0 0 Q (F0 m 48 ls [.int z0]) := by
          intro x2 z0 H locs ls wq hl hf
          obtain ⟨hP, hD, hS⟩ := wq
          refine lv_iconst (v := (0 : Int32)) hx hb d_R_crossesOfParts_48 (by decide) ?_
          exact hJ49 x2 z0 (0 : Int32) H locs ls ⟨hP, hD, hS⟩ (lv_sub hl [0, 1] rfl) hf
        refine lv_iload_n hx hb d_R_crossesOfParts_4 rfl (lv_at hl 2 rfl) ?_
        refine lv_sipush (v := (256 : Int32)) hx hb d_R_crossesOfParts_5 (by decide) ?_
        refine lv_icmp_ge (tgt := 57) hx hb d_R_crossesOfParts_8 (by decide) (fun c1 => ?_) (fun c1 => ?_)
        · have hf := di_t c1 hf
          have hq4 := lpk_x hf hk4
          have hf := ex_y (f := fun y => R_crossesOfParts_a4 N g_all g_part y) hq4 hfo4
          have hf : R_crossesOfParts_57 N g_all g_part x1 = some res := hf
          exact hJ57 x1 H locs ls ⟨hP, hD, hS⟩ (lv_sub hl [1] rfl) hf
        · have hf := di_f c1 hf
          refine lv_iload_n hx hb d_R_crossesOfParts_11 rfl (lv_at hl 1 rfl) ?_
          refine lv_aload_n hx hb d_R_crossesOfParts_12 rfl (lv_at hl 0 rfl) ?_
          refine va_get (D := G.1) (ci := 12) (v := .ref a_part) (C := n_R) (T := T_R) (N := 44) hx hb htl iw_R hown hK hP 0 rfl rfl 31 (by decide) (htl _ k_1227) (fun _ h9 => h9) rfl d_R_crossesOfParts_13 ?_
          refine lv_iload_n hx hb d_R_crossesOfParts_16 rfl (lv_at hl 2 rfl) ?_
          obtain ⟨c2, hf⟩ := dk_e hf
          refine va_iald hx hb hK hP 2 1 rfl rfl c2 d_R_crossesOfParts_17 ?_
          refine lv_if_le (tgt := 48) hx hb d_R_crossesOfParts_18 (by decide) (fun c3 => ?_) (fun c3 => ?_)
          · have hf := di_t c3 hf
            exact hJ48 x2 x1 H locs ls ⟨hP, hD, hS⟩ (lv_sub hl [0, 2] rfl) hf
          · have hf := di_f c3 hf
            refine lv_aload_n hx hb d_R_crossesOfParts_21 rfl (lv_at hl 0 rfl) ?_
            refine lv_aload_n hx hb d_R_crossesOfParts_22 rfl (lv_at hl 0 rfl) ?_
            refine va_get (D := G.1) (ci := 12) (v := .ref a_part) (C := n_R) (T := T_R) (N := 44) hx hb htl iw_R hown hK hP 0 rfl rfl 31 (by decide) (htl _ k_1227) (fun _ h9 => h9) rfl d_R_crossesOfParts_23 ?_
            refine lv_iload_n hx hb d_R_crossesOfParts_26 rfl (lv_at hl 2 rfl) ?_
            refine va_iald hx hb hK hP 2 1 rfl rfl c2 d_R_crossesOfParts_27 ?_
            refine lv_iload_n hx hb d_R_crossesOfParts_28 rfl (lv_at hl 2 rfl) ?_
            refine lv_aload_n hx hb d_R_crossesOfParts_29 rfl (lv_at hl 0 rfl) ?_
            refine va_get (D := G.1) (ci := 12) (v := .ref a_part) (C := n_R) (T := T_R) (N := 44) hx hb htl iw_R hown hK hP 0 rfl rfl 31 (by decide) (htl _ k_1227) (fun _ h9 => h9) rfl d_R_crossesOfParts_30 ?_
            refine lv_iload_n hx hb d_R_crossesOfParts_33 rfl (lv_at hl 2 rfl) ?_
            refine va_iald hx hb hK hP 2 1 rfl rfl c2 d_R_crossesOfParts_34 ?_
            refine lv_iconst (v := (-1 : Int32)) hx hb d_R_crossesOfParts_35 (by decide) ?_
            refine lv_ixor hx hb d_R_crossesOfParts_36 ?_
            refine lv_iand hx hb d_R_crossesOfParts_37 ?_
            obtain ⟨t4, hv5, hf⟩ := db_e hf
            refine call_i (isC := [0, 1]) (run_V (As := [.int (g_part x2.toNatClampNeg), .int (x2 &&& ((g_part x2.toNatClampNeg) ^^^ (-1 : Int32)))]) (rest := [.int x1]) (ci := 12) (q0 := 0) hx hb hml hown htl (c_R_isJoined l G Y  h0 a_all a_text a_saved a_undone a_told a_pile a_open a_size a_capped a_connected a_bestCost a_bestCrosses a_bestPart a_part a_trees a_nodes a_out a_kept f_raised f_undos f_reached f_length f_begin f_sort f_sign f_value f_word f_wrongAt f_badAt f_bad f_read f_side f_piled f_opened f_joins f_had f_treeMany f_nodeMany f_moveNode f_movePart f_moveFirst f_moveThen f_moveOther f_outMany g_all (g_part x2.toNatClampNeg) (x2 &&& ((g_part x2.toNatClampNeg) ^^^ (-1 : Int32))) N t4 hv5) mv_R_isJoined k_1531 (hRk (by decide) (by decide)) hK hsk hS hP hD (isC := [0, 1]) rfl (by decide) rfl rfl rfl hl.1 rfl (lv_room (Nat.le_of_ble_eq_true rfl)) d_R_crossesOfParts_38) hP hD hS rfl rfl (fun H locs hP hD hS => ?_)
            have hP : va_P G.1 classes [(h0, O_R f_raised a_all a_text a_saved a_undone f_undos f_reached f_length f_begin f_sort f_sign f_value f_word f_wrongAt f_badAt f_bad a_told f_read f_side a_pile f_piled a_open f_opened f_joins f_had a_size a_capped a_connected a_bestCost a_bestCrosses a_bestPart a_part a_trees f_treeMany a_nodes f_nodeMany f_moveNode f_movePart f_moveFirst f_moveThen f_moveOther a_out f_outMany a_kept), (a_all, aI G 1276 g_all), (a_part, aI G 256 g_part)] H := hP
            have hD : va_D A [(h0, O_R f_raised a_all a_text a_saved a_undone f_undos f_reached f_length f_begin f_sort f_sign f_value f_word f_wrongAt f_badAt f_bad a_told f_read f_side a_pile f_piled a_open f_opened f_joins f_had a_size a_capped a_connected a_bestCost a_bestCrosses a_bestPart a_part a_trees f_treeMany a_nodes f_nodeMany f_moveNode f_movePart f_moveFirst f_moveThen f_moveOther a_out f_outMany a_kept), (a_all, aI G 1276 g_all), (a_part, aI G 256 g_part)] := hD
            refine lv_if_ne (tgt := 48) hx hb d_R_crossesOfParts_41 (by decide) (fun c6 => ?_) (fun c6 => ?_)
            · have hf := di_f c6 hf
              exact hJ48 x2 x1 H locs ls ⟨hP, hD, hS⟩ (lv_sub hl [0, 2] rfl) hf
            · have hf := di_t c6 hf
              refine lv_iconst (v := (1 : Int32)) hx hb d_R_crossesOfParts_44 (by decide) ?_
              refine lv_goto (tgt := 49) hx hb d_R_crossesOfParts_45 (by decide) ?_
              exact hJ49 x2 x1 (1 : Int32) H locs ls ⟨hP, hD, hS⟩ (lv_sub hl [0, 2] rfl) hf
    exact hL4 N x1 x2 H locs ls hy4 ⟨hP, hD, hS⟩ hl
  refine lv_iconst (v := (0 : Int32)) hx hb d_R_crossesOfParts_0 (by decide) ?_
  refine lv_istore_n (lv' := [(1, .int (0 : Int32)), (0, .ref h0)]) hx hb d_R_crossesOfParts_1 rfl hl (by decide) rfl (fun ls hl => ?_)
  refine lv_iconst (v := (1 : Int32)) hx hb d_R_crossesOfParts_2 (by decide) ?_
  refine lv_istore_n (lv' := [(2, .int (1 : Int32)), (1, .int (0 : Int32)), (0, .ref h0)]) hx hb d_R_crossesOfParts_3 rfl hl (by decide) rfl (fun ls hl => ?_)
  exact hJ4 (0 : Int32) (1 : Int32) H locs ls ⟨hP, hD, hS⟩ (lv_sub hl [2, 1, 0] rfl) hf
set_option maxHeartbeats 4000000 in
set_option maxRecDepth 100000 in
theorem c_R_isLess (l : Launch) (G : va_G × (Nat → ClassId)) (Y : (Nat → Nat) × (Nat → Nat)) (h0 : Nat) (a_all : Nat) (a_text : Nat) (a_saved : Nat) (a_undone : Nat) (a_told : Nat) (a_pile : Nat) (a_open : Nat) (a_size : Nat) (a_capped : Nat) (a_connected : Nat) (a_bestCost : Nat) (a_bestCrosses : Nat) (a_bestPart : Nat) (a_part : Nat) (a_trees : Nat) (a_nodes : Nat) (a_out : Nat) (a_kept : Nat) (f_raised : Int32) (f_undos : Int32) (f_reached : Int32) (f_length : Int32) (f_begin : Int32) (f_sort : Int32) (f_sign : Int32) (f_value : Int32) (f_word : Int64) (f_wrongAt : Int32) (f_badAt : Int32) (f_bad : Int32) (f_read : Int32) (f_side : Int32) (f_piled : Int32) (f_opened : Int32) (f_joins : Int32) (f_had : Int32) (f_treeMany : Int32) (f_nodeMany : Int32) (f_moveNode : Int32) (f_movePart : Int32) (f_moveFirst : Int32) (f_moveThen : Int32) (f_moveOther : Int32) (f_outMany : Int32) (g_size : Nat → Int64) (x1 : Int32) (x2 : Int32) (x3 : Int32) (x4 : Int32) (res : Int32) (hf : R_isLess g_size x1 x2 x3 x4 = some res) : Ci l classes y_R_isLess b_R_isLess 7 (some .boolean) (rmk 0) G.1 (tyL G) Y [.ref h0, .int x1, .int x2, .int x3, .int x4] [(h0, O_R f_raised a_all a_text a_saved a_undone f_undos f_reached f_length f_begin f_sort f_sign f_value f_word f_wrongAt f_badAt f_bad a_told f_read f_side a_pile f_piled a_open f_opened f_joins f_had a_size a_capped a_connected a_bestCost a_bestCrosses a_bestPart a_part a_trees f_treeMany a_nodes f_nodeMany f_moveNode f_movePart f_moveFirst f_moveThen f_moveOther a_out f_outMany a_kept), (a_size, aJ G 256 g_size)] [(h0, O_R f_raised a_all a_text a_saved a_undone f_undos f_reached f_length f_begin f_sort f_sign f_value f_word f_wrongAt f_badAt f_bad a_told f_read f_side a_pile f_piled a_open f_opened f_joins f_had a_size a_capped a_connected a_bestCost a_bestCrosses a_bestPart a_part a_trees f_treeMany a_nodes f_nodeMany f_moveNode f_movePart f_moveFirst f_moveThen f_moveOther a_out f_outMany a_kept), (a_size, aJ G 256 g_size)] res := by
  refine entZ (by decide) (Nat.le_of_ble_eq_true rfl) ?_
  intro p e s m args below meth c ls A Q hx hb hml hown htl hK hsk wq hl hret
  obtain ⟨hP, hD, hS⟩ := wq
  have hl : lv_has ls 7 [(0, .ref h0), (1, .int x1), (2, .int x2), (3, .int x3), (4, .int x4)] := hl
  have hS : va_S A s.heap s.heap [] := hS
  obtain ⟨H, hH⟩ : ∃ H : Heap, H = s.heap := ⟨_, rfl⟩
  obtain ⟨locs, hlocs⟩ : ∃ z : List Loc, z = [] := ⟨_, rfl⟩
  rw [← hH] at hP
  replace hS : va_S A s.heap H locs := by rw [hH, hlocs]; exact hS
  suffices hgo : W p l e (rmk 0) s m args below meth c H locs 0 0 Q (F0 m 0 ls []) by rw [hH, hlocs] at hgo; exact hgo
  refine lv_aload_n hx hb d_R_isLess_0 rfl (lv_at hl 0 rfl) ?_
  refine va_get (D := G.1) (ci := 12) (v := .ref a_size) (C := n_R) (T := T_R) (N := 44) hx hb htl iw_R hown hK hP 0 rfl rfl 25 (by decide) (htl _ k_1221) (fun _ h9 => h9) rfl d_R_isLess_1 ?_
  refine lv_iload_n hx hb d_R_isLess_4 rfl (lv_at hl 1 rfl) ?_
  refine lv_iload_n hx hb d_R_isLess_5 rfl (lv_at hl 2 rfl) ?_
  refine lv_ior hx hb d_R_isLess_6 ?_
  obtain ⟨c1, hf⟩ := dk_e hf
  refine va_lald hx hb hK hP 1 2 rfl rfl c1 d_R_isLess_7 ?_
  refine lv_aload_n hx hb d_R_isLess_8 rfl (lv_at hl 0 rfl) ?_
  refine va_get (D := G.1) (ci := 12) (v := .ref a_size) (C := n_R) (T := T_R) (N := 44) hx hb htl iw_R hown hK hP 0 rfl rfl 25 (by decide) (htl _ k_1221) (fun _ h9 => h9) rfl d_R_isLess_9 ?_
  refine lv_iload_n hx hb d_R_isLess_12 rfl (lv_at hl 3 rfl) ?_
  refine lv_iload hx hb d_R_isLess_13 (lv_at hl 4 rfl) ?_
  refine lv_ior hx hb d_R_isLess_15 ?_
  obtain ⟨c2, hf⟩ := dk_e hf
  refine va_lald hx hb hK hP 1 2 rfl rfl c2 d_R_isLess_16 ?_
  refine lv_lsub hx hb d_R_isLess_17 ?_
  refine lv_topl (fun v3 ev3 => ?_)
  have hf := dn_e ev3 hf
  refine lv_lstore (lv' := [(5, .long v3), (0, .ref h0), (1, .int x1), (2, .int x2), (3, .int x3), (4, .int x4)]) hx hb d_R_isLess_18 hl (by decide) rfl (fun ls hl => ?_)
  refine lv_lload hx hb d_R_isLess_20 (lv_at hl 0 rfl) ?_
  refine lv_lconst (v := (0 : Int64)) hx hb d_R_isLess_22 (by decide) ?_
  refine lx_eq (tgt := 42) hx hb d_R_isLess_23 d_R_isLess_24 (by decide) (fun c4 => ?_) (fun c4 => ?_)
  · have hf := di_t c4 hf
    refine lv_iload_n hx hb d_R_isLess_42 rfl (lv_at hl 2 rfl) ?_
    refine lv_iload_n hx hb d_R_isLess_43 rfl (lv_at hl 4 rfl) ?_
    refine lv_icmp_eq (tgt := 60) hx hb d_R_isLess_44 (by decide) (fun c5 => ?_) (fun c5 => ?_)
    · have hf := di_t c5 hf
      refine lv_iload_n hx hb d_R_isLess_60 rfl (lv_at hl 3 rfl) ?_
      refine lv_iload hx hb d_R_isLess_61 (lv_at hl 5 rfl) ?_
      refine lv_icmp_ge (tgt := 70) hx hb d_R_isLess_63 (by decide) (fun c6 => ?_) (fun c6 => ?_)
      · have hf := di_t c6 hf
        refine lv_iconst (v := (0 : Int32)) hx hb d_R_isLess_70 (by decide) ?_
        cases hf
        exact hret 71 ls H locs z_0 hP hS d_R_isLess_71
      · have hf := di_f c6 hf
        refine lv_iconst (v := (1 : Int32)) hx hb d_R_isLess_66 (by decide) ?_
        refine lv_goto (tgt := 71) hx hb d_R_isLess_67 (by decide) ?_
        cases hf
        exact hret 71 ls H locs z_1 hP hS d_R_isLess_71
    · have hf := di_f c5 hf
      refine lv_iload_n hx hb d_R_isLess_47 rfl (lv_at hl 2 rfl) ?_
      refine lv_iload_n hx hb d_R_isLess_48 rfl (lv_at hl 4 rfl) ?_
      refine lv_icmp_ge (tgt := 56) hx hb d_R_isLess_49 (by decide) (fun c7 => ?_) (fun c7 => ?_)
      · have hf := di_t c7 hf
        refine lv_iconst (v := (0 : Int32)) hx hb d_R_isLess_56 (by decide) ?_
        refine lv_goto (tgt := 71) hx hb d_R_isLess_57 (by decide) ?_
        cases hf
        exact hret 71 ls H locs z_0 hP hS d_R_isLess_71
      · have hf := di_f c7 hf
        refine lv_iconst (v := (1 : Int32)) hx hb d_R_isLess_52 (by decide) ?_
        refine lv_goto (tgt := 71) hx hb d_R_isLess_53 (by decide) ?_
        cases hf
        exact hret 71 ls H locs z_1 hP hS d_R_isLess_71
  · have hf := di_f c4 hf
    refine lv_lload hx hb d_R_isLess_27 (lv_at hl 0 rfl) ?_
    refine lv_lconst (v := (0 : Int64)) hx hb d_R_isLess_29 (by decide) ?_
    refine lx_ge (tgt := 38) hx hb d_R_isLess_30 d_R_isLess_31 (by decide) (fun c8 => ?_) (fun c8 => ?_)
    · have hf := di_f c8 hf
      refine lv_iconst (v := (0 : Int32)) hx hb d_R_isLess_38 (by decide) ?_
      refine lv_goto (tgt := 71) hx hb d_R_isLess_39 (by decide) ?_
      cases hf
      exact hret 71 ls H locs z_0 hP hS d_R_isLess_71
    · have hf := di_t c8 hf
      refine lv_iconst (v := (1 : Int32)) hx hb d_R_isLess_34 (by decide) ?_
      refine lv_goto (tgt := 71) hx hb d_R_isLess_35 (by decide) ?_
      cases hf
      exact hret 71 ls H locs z_1 hP hS d_R_isLess_71
set_option maxHeartbeats 4000000 in
set_option maxRecDepth 100000 in
theorem c_R_joinsGreedily (l : Launch) (G : va_G × (Nat → ClassId)) (Y : (Nat → Nat) × (Nat → Nat)) (h0 : Nat) (a_all : Nat) (a_text : Nat) (a_saved : Nat) (a_undone : Nat) (a_told : Nat) (a_pile : Nat) (a_open : Nat) (a_size : Nat) (a_capped : Nat) (a_connected : Nat) (a_bestCost : Nat) (a_bestCrosses : Nat) (a_bestPart : Nat) (a_part : Nat) (a_trees : Nat) (a_nodes : Nat) (a_out : Nat) (a_kept : Nat) (f_raised : Int32) (f_undos : Int32) (f_reached : Int32) (f_length : Int32) (f_begin : Int32) (f_sort : Int32) (f_sign : Int32) (f_value : Int32) (f_word : Int64) (f_wrongAt : Int32) (f_badAt : Int32) (f_bad : Int32) (f_read : Int32) (f_side : Int32) (f_piled : Int32) (f_opened : Int32) (f_joins : Int32) (f_had : Int32) (f_treeMany : Int32) (f_nodeMany : Int32) (f_moveNode : Int32) (f_movePart : Int32) (f_moveFirst : Int32) (f_moveThen : Int32) (f_moveOther : Int32) (f_outMany : Int32) (g_all : Nat → Int32) (g_part : Nat → Int32) (g_size : Nat → Int64) (g_trees : Nat → Int32) (N : Nat) (res : Int32 × (Nat → Int32) × (Nat → Int32)) (hf : R_joinsGreedily N f_treeMany g_all g_part g_size g_trees = some res) : Cv l classes y_R_joinsGreedily b_R_joinsGreedily 9 none (rmk 2) G.1 (tyL G) Y [.ref h0] [(h0, O_R f_raised a_all a_text a_saved a_undone f_undos f_reached f_length f_begin f_sort f_sign f_value f_word f_wrongAt f_badAt f_bad a_told f_read f_side a_pile f_piled a_open f_opened f_joins f_had a_size a_capped a_connected a_bestCost a_bestCrosses a_bestPart a_part a_trees f_treeMany a_nodes f_nodeMany f_moveNode f_movePart f_moveFirst f_moveThen f_moveOther a_out f_outMany a_kept), (a_all, aI G 1276 g_all), (a_part, aI G 256 g_part), (a_size, aJ G 256 g_size), (a_trees, aI G 8 g_trees)] [(h0, O_R f_raised a_all a_text a_saved a_undone f_undos f_reached f_length f_begin f_sort f_sign f_value f_word f_wrongAt f_badAt f_bad a_told f_read f_side a_pile f_piled a_open f_opened f_joins f_had a_size a_capped a_connected a_bestCost a_bestCrosses a_bestPart a_part a_trees res.1 a_nodes f_nodeMany f_moveNode f_movePart f_moveFirst f_moveThen f_moveOther a_out f_outMany a_kept), (a_all, aI G 1276 g_all), (a_part, aI G 256 res.2.1), (a_size, aJ G 256 g_size), (a_trees, aI G 8 res.2.2)] := by
  refine entV (by decide) (Nat.le_of_ble_eq_true rfl) ?_
  intro p e s m args below meth c ls A Q hx hb hml hown htl hK hsk wq hl hret
  obtain ⟨hP, hD, hS⟩ := wq
  have hl : lv_has ls 9 [(0, .ref h0)] := hl
  have hS : va_S A s.heap s.heap [] := hS
  obtain ⟨H, hH⟩ : ∃ H : Heap, H = s.heap := ⟨_, rfl⟩
  obtain ⟨locs, hlocs⟩ : ∃ z : List Loc, z = [] := ⟨_, rfl⟩
  rw [← hH] at hP
  replace hS : va_S A s.heap H locs := by rw [hH, hlocs]; exact hS
  suffices hgo : W p l e (rmk 2) s m args below meth c H locs 0 0 Q (F0 m 0 ls []) by rw [hH, hlocs] at hgo; exact hgo
  have hJ219 : ∀ (f_treeMany : Int32) (g_part : Nat → Int32) (g_trees : Nat → Int32) (x1 : Int32) (x2 : Int32) (x4 : Int32) (H : Heap) (locs : List Loc) (ls : Array Slot), PDS G.1 classes A s [(h0, O_R f_raised a_all a_text a_saved a_undone f_undos f_reached f_length f_begin f_sort f_sign f_value f_word f_wrongAt f_badAt f_bad a_told f_read f_side a_pile f_piled a_open f_opened f_joins f_had a_size a_capped a_connected a_bestCost a_bestCrosses a_bestPart a_part a_trees f_treeMany a_nodes f_nodeMany f_moveNode f_movePart f_moveFirst f_moveThen f_moveOther a_out f_outMany a_kept), (a_all, aI G 1276 g_all), (a_part, aI G 256 g_part), (a_size, aJ G 256 g_size), (a_trees, aI G 8 g_trees)] H locs → lv_has ls 9 [(0, .ref h0), (1, .int x1), (2, .int x2), (4, .int x4)] → R_joinsGreedily_219 N f_treeMany g_all g_part g_size g_trees x1 x2 x4 = some res → W p l e (rmk 2) s m args below meth c H locs 0 0 Q (F0 m 219 ls []) := by
    intro f_treeMany g_part g_trees x1 x2 x4 H locs ls wq hl hf
    obtain ⟨hP, hD, hS⟩ := wq
    refine lv_aload_n hx hb d_R_joinsGreedily_219 rfl (lv_at hl 0 rfl) ?_
    refine va_get (D := G.1) (ci := 12) (v := .ref a_trees) (C := n_R) (T := T_R) (N := 44) hx hb htl iw_R hown hK hP 0 rfl rfl 32 (by decide) (htl _ k_1228) (fun _ h9 => h9) rfl d_R_joinsGreedily_220 ?_
    refine lv_iload hx hb d_R_joinsGreedily_223 (lv_at hl 3 rfl) ?_
    refine lv_iload_n hx hb d_R_joinsGreedily_225 rfl (lv_at hl 1 rfl) ?_
    refine lv_iload_n hx hb d_R_joinsGreedily_226 rfl (lv_at hl 2 rfl) ?_
    refine lv_ior hx hb d_R_joinsGreedily_227 ?_
    obtain ⟨c36, hf⟩ := dk_e hf
    refine nx_iast hx hb hK hP hD hS 4 1 rfl rfl c36 d_R_joinsGreedily_228 (fun v37 ev37 H locs hP hD hS => ?_)
    have hf := dn_e ev37 hf
    have hP : va_P G.1 classes [(h0, O_R f_raised a_all a_text a_saved a_undone f_undos f_reached f_length f_begin f_sort f_sign f_value f_word f_wrongAt f_badAt f_bad a_told f_read f_side a_pile f_piled a_open f_opened f_joins f_had a_size a_capped a_connected a_bestCost a_bestCrosses a_bestPart a_part a_trees f_treeMany a_nodes f_nodeMany f_moveNode f_movePart f_moveFirst f_moveThen f_moveOther a_out f_outMany a_kept), (a_all, aI G 1276 g_all), (a_part, aI G 256 g_part), (a_size, aJ G 256 g_size), (a_trees, aI G 8 v37)] H := hP
    have hD : va_D A [(h0, O_R f_raised a_all a_text a_saved a_undone f_undos f_reached f_length f_begin f_sort f_sign f_value f_word f_wrongAt f_badAt f_bad a_told f_read f_side a_pile f_piled a_open f_opened f_joins f_had a_size a_capped a_connected a_bestCost a_bestCrosses a_bestPart a_part a_trees f_treeMany a_nodes f_nodeMany f_moveNode f_movePart f_moveFirst f_moveThen f_moveOther a_out f_outMany a_kept), (a_all, aI G 1276 g_all), (a_part, aI G 256 g_part), (a_size, aJ G 256 g_size), (a_trees, aI G 8 v37)] := hD
    refine lv_aload_n hx hb d_R_joinsGreedily_229 rfl (lv_at hl 0 rfl) ?_
    refine lv_iload hx hb d_R_joinsGreedily_230 (lv_at hl 3 rfl) ?_
    refine lv_iconst (v := (1 : Int32)) hx hb d_R_joinsGreedily_232 (by decide) ?_
    refine lv_iadd hx hb d_R_joinsGreedily_233 ?_
    refine lv_topi (fun v38 ev38 => ?_)
    have hf := dn_e ev38 hf
    refine va_put (D := G.1) (ci := 12) (v := .int v38) (ty := .int) (C := n_R) (T := T_R) (N := 44) hx hb htl iw_R ty_R ty_R_ok nm_R hown hK hP hD hS 0 rfl rfl 33 (by decide) (htl _ k_1229) (fun _ h9 => h9) rfl (by decide +kernel) rfl rfl (Nat.le_of_ble_eq_true rfl) d_R_joinsGreedily_234 (fun H locs hP hD hS => ?_)
    have hP : va_P G.1 classes [(h0, O_R f_raised a_all a_text a_saved a_undone f_undos f_reached f_length f_begin f_sort f_sign f_value f_word f_wrongAt f_badAt f_bad a_told f_read f_side a_pile f_piled a_open f_opened f_joins f_had a_size a_capped a_connected a_bestCost a_bestCrosses a_bestPart a_part a_trees v38 a_nodes f_nodeMany f_moveNode f_movePart f_moveFirst f_moveThen f_moveOther a_out f_outMany a_kept), (a_all, aI G 1276 g_all), (a_part, aI G 256 g_part), (a_size, aJ G 256 g_size), (a_trees, aI G 8 v37)] H := hP
    have hD : va_D A [(h0, O_R f_raised a_all a_text a_saved a_undone f_undos f_reached f_length f_begin f_sort f_sign f_value f_word f_wrongAt f_badAt f_bad a_told f_read f_side a_pile f_piled a_open f_opened f_joins f_had a_size a_capped a_connected a_bestCost a_bestCrosses a_bestPart a_part a_trees v38 a_nodes f_nodeMany f_moveNode f_movePart f_moveFirst f_moveThen f_moveOther a_out f_outMany a_kept), (a_all, aI G 1276 g_all), (a_part, aI G 256 g_part), (a_size, aJ G 256 g_size), (a_trees, aI G 8 v37)] := hD
    cases hf
    exact hret 237 ls H locs hP hS d_R_joinsGreedily_237
  have hJ146 : ∀ (f_treeMany : Int32) (g_part : Nat → Int32) (g_trees : Nat → Int32) (x1 : Int32) (x2 : Int32) (x4 : Int32) (x5 : Int32) (H : Heap) (locs : List Loc) (ls : Array Slot), PDS G.1 classes A s [(h0, O_R f_raised a_all a_text a_saved a_undone f_undos f_reached f_length f_begin f_sort f_sign f_value f_word f_wrongAt f_badAt f_bad a_told f_read f_side a_pile f_piled a_open f_opened f_joins f_had a_size a_capped a_connected a_bestCost a_bestCrosses a_bestPart a_part a_trees f_treeMany a_nodes f_nodeMany f_moveNode f_movePart f_moveFirst f_moveThen f_moveOther a_out f_outMany a_kept), (a_all, aI G 1276 g_all), (a_part, aI G 256 g_part), (a_size, aJ G 256 g_size), (a_trees, aI G 8 g_trees)] H locs → lv_has ls 9 [(0, .ref h0), (1, .int x1), (2, .int x2), (4, .int x4), (5, .int x5)] → R_joinsGreedily_146 N f_treeMany g_all g_part g_size g_trees x1 x2 x4 x5 = some res → W p l e (rmk 2) s m args below meth c H locs 0 0 Q (F0 m 146 ls []) := by
    intro f_treeMany g_part g_trees x1 x2 x4 x5 H locs ls wq hl hf
    obtain ⟨hP, hD, hS⟩ := wq
    obtain ⟨y146, hy146, hfo146⟩ := db_e hf
    have hL146 : ∀ (n : Nat) (g_trees : Nat → Int32) (x4 : Int32) (x5 : Int32) (H : Heap) (locs : List Loc) (ls : Array Slot), lp (fun x => R_joinsGreedily_b146 N f_treeMany g_all g_part g_size x.1 x1 x2 x.2.1 x.2.2) n (g_trees, x4, x5) = some y146 → PDS G.1 classes A s [(h0, O_R f_raised a_all a_text a_saved a_undone f_undos f_reached f_length f_begin f_sort f_sign f_value f_word f_wrongAt f_badAt f_bad a_told f_read f_side a_pile f_piled a_open f_opened f_joins f_had a_size a_capped a_connected a_bestCost a_bestCrosses a_bestPart a_part a_trees f_treeMany a_nodes f_nodeMany f_moveNode f_movePart f_moveFirst f_moveThen f_moveOther a_out f_outMany a_kept), (a_all, aI G 1276 g_all), (a_part, aI G 256 g_part), (a_size, aJ G 256 g_size), (a_trees, aI G 8 g_trees)] H locs → lv_has ls 9 [(0, .ref h0), (1, .int x1), (2, .int x2), (4, .int x4), (5, .int x5)] → W p l e (rmk 2) s m args below meth c H locs 0 0 Q (F0 m 146 ls []) := by
      intro n
      induction n with
      | zero =>
        intro g_trees x4 x5 H locs ls hf
        exact lp_0 hf
      | succ n ih146 =>
        intro g_trees x4 x5 H locs ls hf wq hl
        obtain ⟨hP, hD, hS⟩ := wq
        obtain ⟨r146, hf, hk146⟩ := lp_s hf
        have hf : R_joinsGreedily_b146 N f_treeMany g_all g_part g_size g_trees x1 x2 x4 x5 = some r146 := hf
        have hJ210 : ∀ (g_trees : Nat → Int32) (x5 : Int32) (z0 : Int32) (z1 : Int32) (H : Heap) (locs : List Loc) (ls : Array Slot), PDS G.1 classes A s [(h0, O_R f_raised a_all a_text a_saved a_undone f_undos f_reached f_length f_begin f_sort f_sign f_value f_word f_wrongAt f_badAt f_bad a_told f_read f_side a_pile f_piled a_open f_opened f_joins f_had a_size a_capped a_connected a_bestCost a_bestCrosses a_bestPart a_part a_trees f_treeMany a_nodes f_nodeMany f_moveNode f_movePart f_moveFirst f_moveThen f_moveOther a_out f_outMany a_kept), (a_all, aI G 1276 g_all), (a_part, aI G 256 g_part), (a_size, aJ G 256 g_size), (a_trees, aI G 8 g_trees)] H locs → lv_has ls 9 [(0, .ref h0), (1, .int x1), (2, .int x2), (5, .int x5)] → R_joinsGreedily_210 N f_treeMany g_all g_part g_size g_trees x1 x2 x5 z0 z1 = some r146 → W p l e (rmk 2) s m args below meth c H locs 0 0 Q (F0 m 210 ls [.int z1, .int z0]) := by
          intro g_trees x5 z0 z1 H locs ls wq hl hf
          obtain ⟨hP, hD, hS⟩ := wq
          refine lv_iadd hx hb d_R_joinsGreedily_210 ?_
          refine lv_topi (fun v34 ev34 => ?_)
          have hf := dn_e ev34 hf
          refine lv_istore (lv' := [(4, .int v34), (0, .ref h0), (1, .int x1), (2, .int x2), (5, .int x5)]) hx hb d_R_joinsGreedily_211 hl (by decide) rfl (fun ls hl => ?_)
          obtain ⟨v35, ev35⟩ : ∃ z : Int32, z = x5 + (1 : Int32) := ⟨_, rfl⟩
          have hf := dn_e ev35 hf
          refine lv_iinc (v := v35) (lv' := [(5, .int v35), (4, .int v34), (0, .ref h0), (1, .int x1), (2, .int x2)]) hx hb d_R_joinsGreedily_213 hl (k := 4) rfl (by rw [ev35]; rfl) (by decide) rfl (fun ls hl => ?_)
          refine lv_goto (tgt := 146) hx hb d_R_joinsGreedily_216 (by decide) ?_
          exact ih146 g_trees v34 v35 H locs ls (lpk_i hf hk146) ⟨hP, hD, hS⟩ (lv_sub hl [2, 3, 4, 1, 0] rfl)
        have hJ182 : ∀ (g_trees : Nat → Int32) (x4 : Int32) (x5 : Int32) (z0 : Int32) (H : Heap) (locs : List Loc) (ls : Array Slot), PDS G.1 classes A s [(h0, O_R f_raised a_all a_text a_saved a_undone f_undos f_reached f_length f_begin f_sort f_sign f_value f_word f_wrongAt f_badAt f_bad a_told f_read f_side a_pile f_piled a_open f_opened f_joins f_had a_size a_capped a_connected a_bestCost a_bestCrosses a_bestPart a_part a_trees f_treeMany a_nodes f_nodeMany f_moveNode f_movePart f_moveFirst f_moveThen f_moveOther a_out f_outMany a_kept), (a_all, aI G 1276 g_all), (a_part, aI G 256 g_part), (a_size, aJ G 256 g_size), (a_trees, aI G 8 g_trees)] H locs → lv_has ls 9 [(0, .ref h0), (1, .int x1), (2, .int x2), (4, .int x4), (5, .int x5)] → R_joinsGreedily_182 N f_treeMany g_all g_part g_size g_trees x1 x2 x4 x5 z0 = some r146 → W p l e (rmk 2) s m args below meth c H locs 0 0 Q (F0 m 182 ls [.int z0]) := by
          intro g_trees x4 x5 z0 H locs ls wq hl hf
          obtain ⟨hP, hD, hS⟩ := wq
          refine lv_istore (lv' := [(6, .int z0), (0, .ref h0), (1, .int x1), (2, .int x2), (4, .int x4), (5, .int x5)]) hx hb d_R_joinsGreedily_182 hl (by decide) rfl (fun ls hl => ?_)
          refine lv_aload_n hx hb d_R_joinsGreedily_184 rfl (lv_at hl 1 rfl) ?_
          refine va_get (D := G.1) (ci := 12) (v := .ref a_trees) (C := n_R) (T := T_R) (N := 44) hx hb htl iw_R hown hK hP 0 rfl rfl 32 (by decide) (htl _ k_1228) (fun _ h9 => h9) rfl d_R_joinsGreedily_185 ?_
          refine lv_iload hx hb d_R_joinsGreedily_188 (lv_at hl 4 rfl) ?_
          refine lv_aload_n hx hb d_R_joinsGreedily_190 rfl (lv_at hl 1 rfl) ?_
          refine va_get (D := G.1) (ci := 12) (v := .ref a_trees) (C := n_R) (T := T_R) (N := 44) hx hb htl iw_R hown hK hP 0 rfl rfl 32 (by decide) (htl _ k_1228) (fun _ h9 => h9) rfl d_R_joinsGreedily_191 ?_
          refine lv_iload hx hb d_R_joinsGreedily_194 (lv_at hl 5 rfl) ?_
          obtain ⟨c30, hf⟩ := dk_e hf
          refine va_iald hx hb hK hP 4 1 rfl rfl c30 d_R_joinsGreedily_196 ?_
          obtain ⟨c31, hf⟩ := dk_e hf
          refine nx_iast hx hb hK hP hD hS 4 1 rfl rfl c31 d_R_joinsGreedily_197 (fun v32 ev32 H locs hP hD hS => ?_)
          have hf := dn_e ev32 hf
          have hP : va_P G.1 classes [(h0, O_R f_raised a_all a_text a_saved a_undone f_undos f_reached f_length f_begin f_sort f_sign f_value f_word f_wrongAt f_badAt f_bad a_told f_read f_side a_pile f_piled a_open f_opened f_joins f_had a_size a_capped a_connected a_bestCost a_bestCrosses a_bestPart a_part a_trees f_treeMany a_nodes f_nodeMany f_moveNode f_movePart f_moveFirst f_moveThen f_moveOther a_out f_outMany a_kept), (a_all, aI G 1276 g_all), (a_part, aI G 256 g_part), (a_size, aJ G 256 g_size), (a_trees, aI G 8 v32)] H := hP
          have hD : va_D A [(h0, O_R f_raised a_all a_text a_saved a_undone f_undos f_reached f_length f_begin f_sort f_sign f_value f_word f_wrongAt f_badAt f_bad a_told f_read f_side a_pile f_piled a_open f_opened f_joins f_had a_size a_capped a_connected a_bestCost a_bestCrosses a_bestPart a_part a_trees f_treeMany a_nodes f_nodeMany f_moveNode f_movePart f_moveFirst f_moveThen f_moveOther a_out f_outMany a_kept), (a_all, aI G 1276 g_all), (a_part, aI G 256 g_part), (a_size, aJ G 256 g_size), (a_trees, aI G 8 v32)] := hD
          refine lv_iload hx hb d_R_joinsGreedily_198 (lv_at hl 4 rfl) ?_
          refine lv_iload hx hb d_R_joinsGreedily_200 (lv_at hl 0 rfl) ?_
          refine lv_if_eq (tgt := 209) hx hb d_R_joinsGreedily_202 (by decide) (fun c33 => ?_) (fun c33 => ?_)
          · have hf := di_t c33 hf
            refine lv_iconst (v := (0 : Int32)) hx hb d_R_joinsGreedily_209 (by decide) ?_
            exact hJ210 v32 x5 x4 (0 : Int32) H locs ls ⟨hP, hD, hS⟩ (lv_sub hl [1, 2, 3, 5] rfl) hf
          · have hf := di_f c33 hf
            refine lv_iconst (v := (1 : Int32)) hx hb d_R_joinsGreedily_205 (by decide) ?_
            refine lv_goto (tgt := 210) hx hb d_R_joinsGreedily_206 (by decide) ?_
            exact hJ210 v32 x5 x4 (1 : Int32) H locs ls ⟨hP, hD, hS⟩ (lv_sub hl [1, 2, 3, 5] rfl) hf
        have hJ181 : ∀ (g_trees : Nat → Int32) (x4 : Int32) (x5 : Int32) (H : Heap) (locs : List Loc) (ls : Array Slot), PDS G.1 classes A s [(h0, O_R f_raised a_all a_text a_saved a_undone f_undos f_reached f_length f_begin f_sort f_sign f_value f_word f_wrongAt f_badAt f_bad a_told f_read f_side a_pile f_piled a_open f_opened f_joins f_had a_size a_capped a_connected a_bestCost a_bestCrosses a_bestPart a_part a_trees f_treeMany a_nodes f_nodeMany f_moveNode f_movePart f_moveFirst f_moveThen f_moveOther a_out f_outMany a_kept), (a_all, aI G 1276 g_all), (a_part, aI G 256 g_part), (a_size, aJ G 256 g_size), (a_trees, aI G 8 g_trees)] H locs → lv_has ls 9 [(0, .ref h0), (1, .int x1), (2, .int x2), (4, .int x4), (5, .int x5)] → R_joinsGreedily_181 N f_treeMany g_all g_part g_size g_trees x1 x2 x4 x5 = some r146 → W p l e (rmk 2) s m args below meth c H locs 0 0 Q (F0 m 181 ls []) := by
          intro g_trees x4 x5 H locs ls wq hl hf
          obtain ⟨hP, hD, hS⟩ := wq
          refine lv_iconst (v := (0 : Int32)) hx hb d_R_joinsGreedily_181 (by decide) ?_
          exact hJ182 g_trees x4 x5 (0 : Int32) H locs ls ⟨hP, hD, hS⟩ (lv_sub hl [0, 1, 2, 3, 4] rfl) hf
        refine lv_iload hx hb d_R_joinsGreedily_146 (lv_at hl 4 rfl) ?_
        refine lv_aload_n hx hb d_R_joinsGreedily_148 rfl (lv_at hl 0 rfl) ?_
        refine va_get (D := G.1) (ci := 12) (v := .int f_treeMany) (C := n_R) (T := T_R) (N := 44) hx hb htl iw_R hown hK hP 0 rfl rfl 33 (by decide) (htl _ k_1229) (fun _ h9 => h9) rfl d_R_joinsGreedily_149 ?_
        refine lv_icmp_ge (tgt := 219) hx hb d_R_joinsGreedily_152 (by decide) (fun c26 => ?_) (fun c26 => ?_)
        · have hf := di_t c26 hf
          have hq146 := lpk_x hf hk146
          have hf := ex_y (f := fun y => R_joinsGreedily_a146 N f_treeMany g_all g_part g_size x1 x2 y) hq146 hfo146
          have hf : R_joinsGreedily_219 N f_treeMany g_all g_part g_size g_trees x1 x2 x4 = some res := hf
          exact hJ219 f_treeMany g_part g_trees x1 x2 x4 H locs ls ⟨hP, hD, hS⟩ (lv_sub hl [0, 1, 2, 3] rfl) hf
        · have hf := di_f c26 hf
          refine lv_aload_n hx hb d_R_joinsGreedily_155 rfl (lv_at hl 0 rfl) ?_
          refine va_get (D := G.1) (ci := 12) (v := .ref a_trees) (C := n_R) (T := T_R) (N := 44) hx hb htl iw_R hown hK hP 0 rfl rfl 32 (by decide) (htl _ k_1228) (fun _ h9 => h9) rfl d_R_joinsGreedily_156 ?_
          refine lv_iload hx hb d_R_joinsGreedily_159 (lv_at hl 4 rfl) ?_
          obtain ⟨c27, hf⟩ := dk_e hf
          refine va_iald hx hb hK hP 4 1 rfl rfl c27 d_R_joinsGreedily_161 ?_
          refine lv_iload_n hx hb d_R_joinsGreedily_162 rfl (lv_at hl 1 rfl) ?_
          refine lv_icmp_eq (tgt := 181) hx hb d_R_joinsGreedily_163 (by decide) (fun c28 => ?_) (fun c28 => ?_)
          · have hf := di_t c28 hf
            exact hJ181 g_trees x4 x5 H locs ls ⟨hP, hD, hS⟩ (lv_sub hl [0, 1, 2, 3, 4] rfl) hf
          · have hf := di_f c28 hf
            refine lv_aload_n hx hb d_R_joinsGreedily_166 rfl (lv_at hl 0 rfl) ?_
            refine va_get (D := G.1) (ci := 12) (v := .ref a_trees) (C := n_R) (T := T_R) (N := 44) hx hb htl iw_R hown hK hP 0 rfl rfl 32 (by decide) (htl _ k_1228) (fun _ h9 => h9) rfl d_R_joinsGreedily_167 ?_
            refine lv_iload hx hb d_R_joinsGreedily_170 (lv_at hl 4 rfl) ?_
            refine va_iald hx hb hK hP 4 1 rfl rfl c27 d_R_joinsGreedily_172 ?_
            refine lv_iload_n hx hb d_R_joinsGreedily_173 rfl (lv_at hl 2 rfl) ?_
            refine lv_icmp_eq (tgt := 181) hx hb d_R_joinsGreedily_174 (by decide) (fun c29 => ?_) (fun c29 => ?_)
            · have hf := di_t c29 hf
              exact hJ181 g_trees x4 x5 H locs ls ⟨hP, hD, hS⟩ (lv_sub hl [0, 1, 2, 3, 4] rfl) hf
            · have hf := di_f c29 hf
              refine lv_iconst (v := (1 : Int32)) hx hb d_R_joinsGreedily_177 (by decide) ?_
              refine lv_goto (tgt := 182) hx hb d_R_joinsGreedily_178 (by decide) ?_
              exact hJ182 g_trees x4 x5 (1 : Int32) H locs ls ⟨hP, hD, hS⟩ (lv_sub hl [0, 1, 2, 3, 4] rfl) hf
    exact hL146 N g_trees x4 x5 H locs ls hy146 ⟨hP, hD, hS⟩ hl
  have hJ131 : ∀ (f_treeMany : Int32) (g_part : Nat → Int32) (g_trees : Nat → Int32) (x1 : Int32) (x2 : Int32) (H : Heap) (locs : List Loc) (ls : Array Slot), PDS G.1 classes A s [(h0, O_R f_raised a_all a_text a_saved a_undone f_undos f_reached f_length f_begin f_sort f_sign f_value f_word f_wrongAt f_badAt f_bad a_told f_read f_side a_pile f_piled a_open f_opened f_joins f_had a_size a_capped a_connected a_bestCost a_bestCrosses a_bestPart a_part a_trees f_treeMany a_nodes f_nodeMany f_moveNode f_movePart f_moveFirst f_moveThen f_moveOther a_out f_outMany a_kept), (a_all, aI G 1276 g_all), (a_part, aI G 256 g_part), (a_size, aJ G 256 g_size), (a_trees, aI G 8 g_trees)] H locs → lv_has ls 9 [(0, .ref h0), (1, .int x1), (2, .int x2)] → R_joinsGreedily_131 N f_treeMany g_all g_part g_size g_trees x1 x2 = some res → W p l e (rmk 2) s m args below meth c H locs 0 0 Q (F0 m 131 ls []) := by
    intro f_treeMany g_part g_trees x1 x2 H locs ls wq hl hf
    obtain ⟨hP, hD, hS⟩ := wq
    refine lv_aload_n hx hb d_R_joinsGreedily_131 rfl (lv_at hl 0 rfl) ?_
    refine va_get (D := G.1) (ci := 12) (v := .ref a_part) (C := n_R) (T := T_R) (N := 44) hx hb htl iw_R hown hK hP 0 rfl rfl 31 (by decide) (htl _ k_1227) (fun _ h9 => h9) rfl d_R_joinsGreedily_132 ?_
    refine lv_iload_n hx hb d_R_joinsGreedily_135 rfl (lv_at hl 1 rfl) ?_
    refine lv_iload_n hx hb d_R_joinsGreedily_136 rfl (lv_at hl 2 rfl) ?_
    refine lv_ior hx hb d_R_joinsGreedily_137 ?_
    refine lv_iload_n hx hb d_R_joinsGreedily_138 rfl (lv_at hl 1 rfl) ?_
    obtain ⟨c24, hf⟩ := dk_e hf
    refine nx_iast hx hb hK hP hD hS 2 1 rfl rfl c24 d_R_joinsGreedily_139 (fun v25 ev25 H locs hP hD hS => ?_)
    have hf := dn_e ev25 hf
    have hP : va_P G.1 classes [(h0, O_R f_raised a_all a_text a_saved a_undone f_undos f_reached f_length f_begin f_sort f_sign f_value f_word f_wrongAt f_badAt f_bad a_told f_read f_side a_pile f_piled a_open f_opened f_joins f_had a_size a_capped a_connected a_bestCost a_bestCrosses a_bestPart a_part a_trees f_treeMany a_nodes f_nodeMany f_moveNode f_movePart f_moveFirst f_moveThen f_moveOther a_out f_outMany a_kept), (a_all, aI G 1276 g_all), (a_part, aI G 256 v25), (a_size, aJ G 256 g_size), (a_trees, aI G 8 g_trees)] H := hP
    have hD : va_D A [(h0, O_R f_raised a_all a_text a_saved a_undone f_undos f_reached f_length f_begin f_sort f_sign f_value f_word f_wrongAt f_badAt f_bad a_told f_read f_side a_pile f_piled a_open f_opened f_joins f_had a_size a_capped a_connected a_bestCost a_bestCrosses a_bestPart a_part a_trees f_treeMany a_nodes f_nodeMany f_moveNode f_movePart f_moveFirst f_moveThen f_moveOther a_out f_outMany a_kept), (a_all, aI G 1276 g_all), (a_part, aI G 256 v25), (a_size, aJ G 256 g_size), (a_trees, aI G 8 g_trees)] := hD
    refine lv_iconst (v := (0 : Int32)) hx hb d_R_joinsGreedily_140 (by decide) ?_
    refine lv_istore (lv' := [(4, .int (0 : Int32)), (0, .ref h0), (1, .int x1), (2, .int x2)]) hx hb d_R_joinsGreedily_141 hl (by decide) rfl (fun ls hl => ?_)
    refine lv_iconst (v := (0 : Int32)) hx hb d_R_joinsGreedily_143 (by decide) ?_
    refine lv_istore (lv' := [(5, .int (0 : Int32)), (4, .int (0 : Int32)), (0, .ref h0), (1, .int x1), (2, .int x2)]) hx hb d_R_joinsGreedily_144 hl (by decide) rfl (fun ls hl => ?_)
    exact hJ146 f_treeMany v25 g_trees x1 x2 (0 : Int32) (0 : Int32) H locs ls ⟨hP, hD, hS⟩ (lv_sub hl [2, 3, 4, 1, 0] rfl) hf
  have hJ9 : ∀ (f_treeMany : Int32) (g_part : Nat → Int32) (g_trees : Nat → Int32) (x1 : Int32) (x2 : Int32) (x3 : Int32) (x4 : Int32) (H : Heap) (locs : List Loc) (ls : Array Slot), PDS G.1 classes A s [(h0, O_R f_raised a_all a_text a_saved a_undone f_undos f_reached f_length f_begin f_sort f_sign f_value f_word f_wrongAt f_badAt f_bad a_told f_read f_side a_pile f_piled a_open f_opened f_joins f_had a_size a_capped a_connected a_bestCost a_bestCrosses a_bestPart a_part a_trees f_treeMany a_nodes f_nodeMany f_moveNode f_movePart f_moveFirst f_moveThen f_moveOther a_out f_outMany a_kept), (a_all, aI G 1276 g_all), (a_part, aI G 256 g_part), (a_size, aJ G 256 g_size), (a_trees, aI G 8 g_trees)] H locs → lv_has ls 9 [(0, .ref h0), (1, .int x1), (2, .int x2), (3, .int x3), (4, .int x4)] → R_joinsGreedily_9 N f_treeMany g_all g_part g_size g_trees x1 x2 x3 x4 = some res → W p l e (rmk 2) s m args below meth c H locs 0 0 Q (F0 m 9 ls []) := by
    intro f_treeMany g_part g_trees x1 x2 x3 x4 H locs ls wq hl hf
    obtain ⟨hP, hD, hS⟩ := wq
    obtain ⟨y9, hy9, hfo9⟩ := db_e hf
    have hL9 : ∀ (n : Nat) (x1 : Int32) (x2 : Int32) (x3 : Int32) (x4 : Int32) (H : Heap) (locs : List Loc) (ls : Array Slot), lp (fun x => R_joinsGreedily_b9 N f_treeMany g_all g_part g_size g_trees x.1 x.2.1 x.2.2.1 x.2.2.2) n (x1, x2, x3, x4) = some y9 → PDS G.1 classes A s [(h0, O_R f_raised a_all a_text a_saved a_undone f_undos f_reached f_length f_begin f_sort f_sign f_value f_word f_wrongAt f_badAt f_bad a_told f_read f_side a_pile f_piled a_open f_opened f_joins f_had a_size a_capped a_connected a_bestCost a_bestCrosses a_bestPart a_part a_trees f_treeMany a_nodes f_nodeMany f_moveNode f_movePart f_moveFirst f_moveThen f_moveOther a_out f_outMany a_kept), (a_all, aI G 1276 g_all), (a_part, aI G 256 g_part), (a_size, aJ G 256 g_size), (a_trees, aI G 8 g_trees)] H locs → lv_has ls 9 [(0, .ref h0), (1, .int x1), (2, .int x2), (3, .int x3), (4, .int x4)] → W p l e (rmk 2) s m args below meth c H locs 0 0 Q (F0 m 9 ls []) := by
      intro n
      induction n with
      | zero =>
        intro x1 x2 x3 x4 H locs ls hf
        exact lp_0 hf
      | succ n ih9 =>
        intro x1 x2 x3 x4 H locs ls hf wq hl
        obtain ⟨hP, hD, hS⟩ := wq
        obtain ⟨r9, hf, hk9⟩ := lp_s hf
        have hf : R_joinsGreedily_b9 N f_treeMany g_all g_part g_size g_trees x1 x2 x3 x4 = some r9 := hf
        have hJ125 : ∀ (x1 : Int32) (x2 : Int32) (x3 : Int32) (x4 : Int32) (H : Heap) (locs : List Loc) (ls : Array Slot), PDS G.1 classes A s [(h0, O_R f_raised a_all a_text a_saved a_undone f_undos f_reached f_length f_begin f_sort f_sign f_value f_word f_wrongAt f_badAt f_bad a_told f_read f_side a_pile f_piled a_open f_opened f_joins f_had a_size a_capped a_connected a_bestCost a_bestCrosses a_bestPart a_part a_trees f_treeMany a_nodes f_nodeMany f_moveNode f_movePart f_moveFirst f_moveThen f_moveOther a_out f_outMany a_kept), (a_all, aI G 1276 g_all), (a_part, aI G 256 g_part), (a_size, aJ G 256 g_size), (a_trees, aI G 8 g_trees)] H locs → lv_has ls 9 [(0, .ref h0), (1, .int x1), (2, .int x2), (3, .int x3), (4, .int x4)] → R_joinsGreedily_125 N f_treeMany g_all g_part g_size g_trees x1 x2 x3 x4 = some r9 → W p l e (rmk 2) s m args below meth c H locs 0 0 Q (F0 m 125 ls []) := by
          intro x1 x2 x3 x4 H locs ls wq hl hf
          obtain ⟨hP, hD, hS⟩ := wq
          obtain ⟨v23, ev23⟩ : ∃ z : Int32, z = x4 + (1 : Int32) := ⟨_, rfl⟩
          have hf := dn_e ev23 hf
          refine lv_iinc (v := v23) (lv' := [(4, .int v23), (0, .ref h0), (1, .int x1), (2, .int x2), (3, .int x3)]) hx hb d_R_joinsGreedily_125 hl (k := 4) rfl (by rw [ev23]; rfl) (by decide) rfl (fun ls hl => ?_)
          refine lv_goto (tgt := 9) hx hb d_R_joinsGreedily_128 (by decide) ?_
          exact ih9 x1 x2 x3 v23 H locs ls (lpk_i hf hk9) ⟨hP, hD, hS⟩ (lv_sub hl [1, 2, 3, 4, 0] rfl)
        have hJ21 : ∀ (x1 : Int32) (x2 : Int32) (x3 : Int32) (x4 : Int32) (x5 : Int32) (H : Heap) (locs : List Loc) (ls : Array Slot), PDS G.1 classes A s [(h0, O_R f_raised a_all a_text a_saved a_undone f_undos f_reached f_length f_begin f_sort f_sign f_value f_word f_wrongAt f_badAt f_bad a_told f_read f_side a_pile f_piled a_open f_opened f_joins f_had a_size a_capped a_connected a_bestCost a_bestCrosses a_bestPart a_part a_trees f_treeMany a_nodes f_nodeMany f_moveNode f_movePart f_moveFirst f_moveThen f_moveOther a_out f_outMany a_kept), (a_all, aI G 1276 g_all), (a_part, aI G 256 g_part), (a_size, aJ G 256 g_size), (a_trees, aI G 8 g_trees)] H locs → lv_has ls 9 [(0, .ref h0), (1, .int x1), (2, .int x2), (3, .int x3), (4, .int x4), (5, .int x5)] → R_joinsGreedily_21 N f_treeMany g_all g_part g_size g_trees x1 x2 x3 x4 x5 = some r9 → W p l e (rmk 2) s m args below meth c H locs 0 0 Q (F0 m 21 ls []) := by
          intro x1 x2 x3 x4 x5 H locs ls wq hl hf
          obtain ⟨hP, hD, hS⟩ := wq
          obtain ⟨y21, hy21, hfo21⟩ := db_e hf
          have hL21 : ∀ (n : Nat) (x1 : Int32) (x2 : Int32) (x3 : Int32) (x5 : Int32) (H : Heap) (locs : List Loc) (ls : Array Slot), lp (fun x => R_joinsGreedily_b21 N f_treeMany g_all g_part g_size g_trees x.1 x.2.1 x.2.2.1 x4 x.2.2.2) n (x1, x2, x3, x5) = some y21 → PDS G.1 classes A s [(h0, O_R f_raised a_all a_text a_saved a_undone f_undos f_reached f_length f_begin f_sort f_sign f_value f_word f_wrongAt f_badAt f_bad a_told f_read f_side a_pile f_piled a_open f_opened f_joins f_had a_size a_capped a_connected a_bestCost a_bestCrosses a_bestPart a_part a_trees f_treeMany a_nodes f_nodeMany f_moveNode f_movePart f_moveFirst f_moveThen f_moveOther a_out f_outMany a_kept), (a_all, aI G 1276 g_all), (a_part, aI G 256 g_part), (a_size, aJ G 256 g_size), (a_trees, aI G 8 g_trees)] H locs → lv_has ls 9 [(0, .ref h0), (1, .int x1), (2, .int x2), (3, .int x3), (4, .int x4), (5, .int x5)] → W p l e (rmk 2) s m args below meth c H locs 0 0 Q (F0 m 21 ls []) := by
            intro n
            induction n with
            | zero =>
              intro x1 x2 x3 x5 H locs ls hf
              exact lp_0 hf
            | succ n ih21 =>
              intro x1 x2 x3 x5 H locs ls hf wq hl
              obtain ⟨hP, hD, hS⟩ := wq
              obtain ⟨r21, hf, hk21⟩ := lp_s hf
              have hf : R_joinsGreedily_b21 N f_treeMany g_all g_part g_size g_trees x1 x2 x3 x4 x5 = some r21 := hf
              have hJ110 : ∀ (x5 : Int32) (x6 : Int32) (x7 : Int32) (x8 : Int32) (H : Heap) (locs : List Loc) (ls : Array Slot), PDS G.1 classes A s [(h0, O_R f_raised a_all a_text a_saved a_undone f_undos f_reached f_length f_begin f_sort f_sign f_value f_word f_wrongAt f_badAt f_bad a_told f_read f_side a_pile f_piled a_open f_opened f_joins f_had a_size a_capped a_connected a_bestCost a_bestCrosses a_bestPart a_part a_trees f_treeMany a_nodes f_nodeMany f_moveNode f_movePart f_moveFirst f_moveThen f_moveOther a_out f_outMany a_kept), (a_all, aI G 1276 g_all), (a_part, aI G 256 g_part), (a_size, aJ G 256 g_size), (a_trees, aI G 8 g_trees)] H locs → lv_has ls 9 [(0, .ref h0), (4, .int x4), (5, .int x5), (6, .int x6), (7, .int x7), (8, .int x8)] → R_joinsGreedily_110 N f_treeMany g_all g_part g_size g_trees x4 x5 x6 x7 x8 = some r21 → W p l e (rmk 2) s m args below meth c H locs 0 0 Q (F0 m 110 ls []) := by
                intro x5 x6 x7 x8 H locs ls wq hl hf
                obtain ⟨hP, hD, hS⟩ := wq
                refine lv_iload hx hb d_R_joinsGreedily_110 (lv_at hl 3 rfl) ?_
                refine lv_istore_n (lv' := [(1, .int x6), (0, .ref h0), (4, .int x4), (5, .int x5), (6, .int x6), (7, .int x7), (8, .int x8)]) hx hb d_R_joinsGreedily_112 rfl hl (by decide) rfl (fun ls hl => ?_)
                refine lv_iload hx hb d_R_joinsGreedily_113 (lv_at hl 5 rfl) ?_
                refine lv_istore_n (lv' := [(2, .int x7), (1, .int x6), (0, .ref h0), (4, .int x4), (5, .int x5), (6, .int x6), (7, .int x7), (8, .int x8)]) hx hb d_R_joinsGreedily_115 rfl hl (by decide) rfl (fun ls hl => ?_)
                refine lv_iload hx hb d_R_joinsGreedily_116 (lv_at hl 7 rfl) ?_
                refine lv_istore_n (lv' := [(3, .int x8), (2, .int x7), (1, .int x6), (0, .ref h0), (4, .int x4), (5, .int x5), (6, .int x6), (7, .int x7), (8, .int x8)]) hx hb d_R_joinsGreedily_118 rfl hl (by decide) rfl (fun ls hl => ?_)
                obtain ⟨v16, ev16⟩ : ∃ z : Int32, z = x5 + (1 : Int32) := ⟨_, rfl⟩
                have hf := dn_e ev16 hf
                refine lv_iinc (v := v16) (lv' := [(5, .int v16), (3, .int x8), (2, .int x7), (1, .int x6), (0, .ref h0), (4, .int x4), (6, .int x6), (7, .int x7), (8, .int x8)]) hx hb d_R_joinsGreedily_119 hl (k := 5) rfl (by rw [ev16]; rfl) (by decide) rfl (fun ls hl => ?_)
                refine lv_goto (tgt := 21) hx hb d_R_joinsGreedily_122 (by decide) ?_
                exact ih21 x6 x7 x8 v16 H locs ls (lpk_i hf hk21) ⟨hP, hD, hS⟩ (lv_sub hl [4, 3, 2, 1, 5, 0] rfl)
              have hJ91 : ∀ (x1 : Int32) (x2 : Int32) (x3 : Int32) (x5 : Int32) (x6 : Int32) (x7 : Int32) (x8 : Int32) (H : Heap) (locs : List Loc) (ls : Array Slot), PDS G.1 classes A s [(h0, O_R f_raised a_all a_text a_saved a_undone f_undos f_reached f_length f_begin f_sort f_sign f_value f_word f_wrongAt f_badAt f_bad a_told f_read f_side a_pile f_piled a_open f_opened f_joins f_had a_size a_capped a_connected a_bestCost a_bestCrosses a_bestPart a_part a_trees f_treeMany a_nodes f_nodeMany f_moveNode f_movePart f_moveFirst f_moveThen f_moveOther a_out f_outMany a_kept), (a_all, aI G 1276 g_all), (a_part, aI G 256 g_part), (a_size, aJ G 256 g_size), (a_trees, aI G 8 g_trees)] H locs → lv_has ls 9 [(0, .ref h0), (1, .int x1), (2, .int x2), (3, .int x3), (4, .int x4), (5, .int x5), (6, .int x6), (7, .int x7), (8, .int x8)] → R_joinsGreedily_91 N f_treeMany g_all g_part g_size g_trees x1 x2 x3 x4 x5 x6 x7 x8 = some r21 → W p l e (rmk 2) s m args below meth c H locs 0 0 Q (F0 m 91 ls []) := by
                intro x1 x2 x3 x5 x6 x7 x8 H locs ls wq hl hf
                obtain ⟨hP, hD, hS⟩ := wq
                refine lv_iload hx hb d_R_joinsGreedily_91 (lv_at hl 8 rfl) ?_
                refine lv_iload_n hx hb d_R_joinsGreedily_93 rfl (lv_at hl 3 rfl) ?_
                refine lv_icmp_ne (tgt := 119) hx hb d_R_joinsGreedily_94 (by decide) (fun c17 => ?_) (fun c17 => ?_)
                · have hf := di_f c17 hf
                  obtain ⟨v18, ev18⟩ : ∃ z : Int32, z = x5 + (1 : Int32) := ⟨_, rfl⟩
                  have hf := dn_e ev18 hf
                  refine lv_iinc (v := v18) (lv' := [(5, .int v18), (0, .ref h0), (1, .int x1), (2, .int x2), (3, .int x3), (4, .int x4), (6, .int x6), (7, .int x7), (8, .int x8)]) hx hb d_R_joinsGreedily_119 hl (k := 5) rfl (by rw [ev18]; rfl) (by decide) rfl (fun ls hl => ?_)
                  refine lv_goto (tgt := 21) hx hb d_R_joinsGreedily_122 (by decide) ?_
                  exact ih21 x1 x2 x3 v18 H locs ls (lpk_i hf hk21) ⟨hP, hD, hS⟩ (lv_sub hl [1, 2, 3, 4, 5, 0] rfl)
                · have hf := di_t c17 hf
                  refine lv_aload_n hx hb d_R_joinsGreedily_97 rfl (lv_at hl 0 rfl) ?_
                  refine lv_iload hx hb d_R_joinsGreedily_98 (lv_at hl 6 rfl) ?_
                  refine lv_iload hx hb d_R_joinsGreedily_100 (lv_at hl 7 rfl) ?_
                  refine lv_iload_n hx hb d_R_joinsGreedily_102 rfl (lv_at hl 1 rfl) ?_
                  refine lv_iload_n hx hb d_R_joinsGreedily_103 rfl (lv_at hl 2 rfl) ?_
                  obtain ⟨t19, hv20, hf⟩ := db_e hf
                  refine call_i (isC := [0, 3]) (run_V (As := [.int x6, .int x7, .int x1, .int x2]) (rest := []) (ci := 12) (q0 := 0) hx hb hml hown htl (c_R_isLess l G Y  h0 a_all a_text a_saved a_undone a_told a_pile a_open a_size a_capped a_connected a_bestCost a_bestCrosses a_bestPart a_part a_trees a_nodes a_out a_kept f_raised f_undos f_reached f_length f_begin f_sort f_sign f_value f_word f_wrongAt f_badAt f_bad f_read f_side f_piled f_opened f_joins f_had f_treeMany f_nodeMany f_moveNode f_movePart f_moveFirst f_moveThen f_moveOther f_outMany g_size x6 x7 x1 x2 t19 hv20) mv_R_isLess k_1558 (hRk (by decide) (by decide)) hK hsk hS hP hD (isC := [0, 3]) rfl (by decide) rfl rfl rfl hl.1 rfl (lv_room (Nat.le_of_ble_eq_true rfl)) d_R_joinsGreedily_104) hP hD hS rfl rfl (fun H locs hP hD hS => ?_)
                  have hP : va_P G.1 classes [(h0, O_R f_raised a_all a_text a_saved a_undone f_undos f_reached f_length f_begin f_sort f_sign f_value f_word f_wrongAt f_badAt f_bad a_told f_read f_side a_pile f_piled a_open f_opened f_joins f_had a_size a_capped a_connected a_bestCost a_bestCrosses a_bestPart a_part a_trees f_treeMany a_nodes f_nodeMany f_moveNode f_movePart f_moveFirst f_moveThen f_moveOther a_out f_outMany a_kept), (a_all, aI G 1276 g_all), (a_part, aI G 256 g_part), (a_size, aJ G 256 g_size), (a_trees, aI G 8 g_trees)] H := hP
                  have hD : va_D A [(h0, O_R f_raised a_all a_text a_saved a_undone f_undos f_reached f_length f_begin f_sort f_sign f_value f_word f_wrongAt f_badAt f_bad a_told f_read f_side a_pile f_piled a_open f_opened f_joins f_had a_size a_capped a_connected a_bestCost a_bestCrosses a_bestPart a_part a_trees f_treeMany a_nodes f_nodeMany f_moveNode f_movePart f_moveFirst f_moveThen f_moveOther a_out f_outMany a_kept), (a_all, aI G 1276 g_all), (a_part, aI G 256 g_part), (a_size, aJ G 256 g_size), (a_trees, aI G 8 g_trees)] := hD
                  refine lv_if_eq (tgt := 119) hx hb d_R_joinsGreedily_107 (by decide) (fun c21 => ?_) (fun c21 => ?_)
                  · have hf := di_t c21 hf
                    obtain ⟨v22, ev22⟩ : ∃ z : Int32, z = x5 + (1 : Int32) := ⟨_, rfl⟩
                    have hf := dn_e ev22 hf
                    refine lv_iinc (v := v22) (lv' := [(5, .int v22), (0, .ref h0), (1, .int x1), (2, .int x2), (3, .int x3), (4, .int x4), (6, .int x6), (7, .int x7), (8, .int x8)]) hx hb d_R_joinsGreedily_119 hl (k := 5) rfl (by rw [ev22]; rfl) (by decide) rfl (fun ls hl => ?_)
                    refine lv_goto (tgt := 21) hx hb d_R_joinsGreedily_122 (by decide) ?_
                    exact ih21 x1 x2 x3 v22 H locs ls (lpk_i hf hk21) ⟨hP, hD, hS⟩ (lv_sub hl [1, 2, 3, 4, 5, 0] rfl)
                  · have hf := di_f c21 hf
                    exact hJ110 x5 x6 x7 x8 H locs ls ⟨hP, hD, hS⟩ (lv_sub hl [0, 4, 5, 6, 7, 8] rfl) hf
              refine lv_iload hx hb d_R_joinsGreedily_21 (lv_at hl 5 rfl) ?_
              refine lv_aload_n hx hb d_R_joinsGreedily_23 rfl (lv_at hl 0 rfl) ?_
              refine va_get (D := G.1) (ci := 12) (v := .int f_treeMany) (C := n_R) (T := T_R) (N := 44) hx hb htl iw_R hown hK hP 0 rfl rfl 33 (by decide) (htl _ k_1229) (fun _ h9 => h9) rfl d_R_joinsGreedily_24 ?_
              refine lv_icmp_ge (tgt := 125) hx hb d_R_joinsGreedily_27 (by decide) (fun c2 => ?_) (fun c2 => ?_)
              · have hf := di_t c2 hf
                have hq21 := lpk_x hf hk21
                have hf := ex_y (f := fun y => R_joinsGreedily_a21 N f_treeMany g_all g_part g_size g_trees x4 y) hq21 hfo21
                have hf : R_joinsGreedily_125 N f_treeMany g_all g_part g_size g_trees x1 x2 x3 x4 = some r9 := hf
                exact hJ125 x1 x2 x3 x4 H locs ls ⟨hP, hD, hS⟩ (lv_sub hl [0, 1, 2, 3, 4] rfl) hf
              · have hf := di_f c2 hf
                refine lv_aload_n hx hb d_R_joinsGreedily_30 rfl (lv_at hl 0 rfl) ?_
                refine va_get (D := G.1) (ci := 12) (v := .ref a_trees) (C := n_R) (T := T_R) (N := 44) hx hb htl iw_R hown hK hP 0 rfl rfl 32 (by decide) (htl _ k_1228) (fun _ h9 => h9) rfl d_R_joinsGreedily_31 ?_
                refine lv_iload hx hb d_R_joinsGreedily_34 (lv_at hl 4 rfl) ?_
                obtain ⟨c3, hf⟩ := dk_e hf
                refine va_iald hx hb hK hP 4 1 rfl rfl c3 d_R_joinsGreedily_36 ?_
                refine lv_topi (fun v4 ev4 => ?_)
                have hf := dn_e ev4 hf
                refine lv_istore (lv' := [(6, .int v4), (0, .ref h0), (1, .int x1), (2, .int x2), (3, .int x3), (4, .int x4), (5, .int x5)]) hx hb d_R_joinsGreedily_37 hl (by decide) rfl (fun ls hl => ?_)
                refine lv_aload_n hx hb d_R_joinsGreedily_39 rfl (lv_at hl 1 rfl) ?_
                refine va_get (D := G.1) (ci := 12) (v := .ref a_trees) (C := n_R) (T := T_R) (N := 44) hx hb htl iw_R hown hK hP 0 rfl rfl 32 (by decide) (htl _ k_1228) (fun _ h9 => h9) rfl d_R_joinsGreedily_40 ?_
                refine lv_iload hx hb d_R_joinsGreedily_43 (lv_at hl 6 rfl) ?_
                obtain ⟨c5, hf⟩ := dk_e hf
                refine va_iald hx hb hK hP 4 1 rfl rfl c5 d_R_joinsGreedily_45 ?_
                refine lv_topi (fun v6 ev6 => ?_)
                have hf := dn_e ev6 hf
                refine lv_istore (lv' := [(7, .int v6), (6, .int v4), (0, .ref h0), (1, .int x1), (2, .int x2), (3, .int x3), (4, .int x4), (5, .int x5)]) hx hb d_R_joinsGreedily_46 hl (by decide) rfl (fun ls hl => ?_)
                refine lv_iload hx hb d_R_joinsGreedily_48 (lv_at hl 6 rfl) ?_
                refine lv_iload hx hb d_R_joinsGreedily_50 (lv_at hl 7 rfl) ?_
                refine lv_icmp_eq (tgt := 119) hx hb d_R_joinsGreedily_52 (by decide) (fun c7 => ?_) (fun c7 => ?_)
                · have hf := di_t c7 hf
                  obtain ⟨v8, ev8⟩ : ∃ z : Int32, z = x5 + (1 : Int32) := ⟨_, rfl⟩
                  have hf := dn_e ev8 hf
                  refine lv_iinc (v := v8) (lv' := [(5, .int v8), (7, .int v6), (6, .int v4), (0, .ref h0), (1, .int x1), (2, .int x2), (3, .int x3), (4, .int x4)]) hx hb d_R_joinsGreedily_119 hl (k := 7) rfl (by rw [ev8]; rfl) (by decide) rfl (fun ls hl => ?_)
                  refine lv_goto (tgt := 21) hx hb d_R_joinsGreedily_122 (by decide) ?_
                  exact ih21 x1 x2 x3 v8 H locs ls (lpk_i hf hk21) ⟨hP, hD, hS⟩ (lv_sub hl [3, 4, 5, 6, 7, 0] rfl)
                · have hf := di_f c7 hf
                  refine lv_iload hx hb d_R_joinsGreedily_55 (lv_at hl 1 rfl) ?_
                  refine lv_iload hx hb d_R_joinsGreedily_57 (lv_at hl 0 rfl) ?_
                  refine call_i (isC := []) (run_S (As := [.int v4, .int v6]) (rest := []) hx hb hml hown htl (c_R_isAheadOf l G Y  v4 v6 _ rfl) ms_R_isAheadOf k_1431 (hRk (by decide) (by decide)) hK hsk hS hP hD (isC := []) rfl (by decide) rfl hl.1 rfl (lv_room (Nat.le_of_ble_eq_true rfl)) d_R_joinsGreedily_59) hP hD hS rfl rfl (fun H locs hP hD hS => ?_)
                  have hP : va_P G.1 classes [(h0, O_R f_raised a_all a_text a_saved a_undone f_undos f_reached f_length f_begin f_sort f_sign f_value f_word f_wrongAt f_badAt f_bad a_told f_read f_side a_pile f_piled a_open f_opened f_joins f_had a_size a_capped a_connected a_bestCost a_bestCrosses a_bestPart a_part a_trees f_treeMany a_nodes f_nodeMany f_moveNode f_movePart f_moveFirst f_moveThen f_moveOther a_out f_outMany a_kept), (a_all, aI G 1276 g_all), (a_part, aI G 256 g_part), (a_size, aJ G 256 g_size), (a_trees, aI G 8 g_trees)] H := hP
                  have hD : va_D A [(h0, O_R f_raised a_all a_text a_saved a_undone f_undos f_reached f_length f_begin f_sort f_sign f_value f_word f_wrongAt f_badAt f_bad a_told f_read f_side a_pile f_piled a_open f_opened f_joins f_had a_size a_capped a_connected a_bestCost a_bestCrosses a_bestPart a_part a_trees f_treeMany a_nodes f_nodeMany f_moveNode f_movePart f_moveFirst f_moveThen f_moveOther a_out f_outMany a_kept), (a_all, aI G 1276 g_all), (a_part, aI G 256 g_part), (a_size, aJ G 256 g_size), (a_trees, aI G 8 g_trees)] := hD
                  refine lv_if_ne (tgt := 68) hx hb d_R_joinsGreedily_62 (by decide) (fun c9 => ?_) (fun c9 => ?_)
                  · have hf := di_f c9 hf
                    refine lv_aload_n hx hb d_R_joinsGreedily_68 rfl (lv_at hl 2 rfl) ?_
                    refine lv_iload hx hb d_R_joinsGreedily_69 (lv_at hl 1 rfl) ?_
                    refine lv_iload hx hb d_R_joinsGreedily_71 (lv_at hl 0 rfl) ?_
                    obtain ⟨t10, hv11, hf⟩ := db_e hf
                    refine call_i (isC := [0, 1]) (run_V (As := [.int v4, .int v6]) (rest := []) (ci := 12) (q0 := 0) hx hb hml hown htl (c_R_isJoined l G Y  h0 a_all a_text a_saved a_undone a_told a_pile a_open a_size a_capped a_connected a_bestCost a_bestCrosses a_bestPart a_part a_trees a_nodes a_out a_kept f_raised f_undos f_reached f_length f_begin f_sort f_sign f_value f_word f_wrongAt f_badAt f_bad f_read f_side f_piled f_opened f_joins f_had f_treeMany f_nodeMany f_moveNode f_movePart f_moveFirst f_moveThen f_moveOther f_outMany g_all v4 v6 N t10 hv11) mv_R_isJoined k_1531 (hRk (by decide) (by decide)) hK hsk hS hP hD (isC := [0, 1]) rfl (by decide) rfl rfl rfl hl.1 rfl (lv_room (Nat.le_of_ble_eq_true rfl)) d_R_joinsGreedily_73) hP hD hS rfl rfl (fun H locs hP hD hS => ?_)
                    have hP : va_P G.1 classes [(h0, O_R f_raised a_all a_text a_saved a_undone f_undos f_reached f_length f_begin f_sort f_sign f_value f_word f_wrongAt f_badAt f_bad a_told f_read f_side a_pile f_piled a_open f_opened f_joins f_had a_size a_capped a_connected a_bestCost a_bestCrosses a_bestPart a_part a_trees f_treeMany a_nodes f_nodeMany f_moveNode f_movePart f_moveFirst f_moveThen f_moveOther a_out f_outMany a_kept), (a_all, aI G 1276 g_all), (a_part, aI G 256 g_part), (a_size, aJ G 256 g_size), (a_trees, aI G 8 g_trees)] H := hP
                    have hD : va_D A [(h0, O_R f_raised a_all a_text a_saved a_undone f_undos f_reached f_length f_begin f_sort f_sign f_value f_word f_wrongAt f_badAt f_bad a_told f_read f_side a_pile f_piled a_open f_opened f_joins f_had a_size a_capped a_connected a_bestCost a_bestCrosses a_bestPart a_part a_trees f_treeMany a_nodes f_nodeMany f_moveNode f_movePart f_moveFirst f_moveThen f_moveOther a_out f_outMany a_kept), (a_all, aI G 1276 g_all), (a_part, aI G 256 g_part), (a_size, aJ G 256 g_size), (a_trees, aI G 8 g_trees)] := hD
                    refine lv_istore (lv' := [(8, .int t10), (7, .int v6), (6, .int v4), (0, .ref h0), (1, .int x1), (2, .int x2), (3, .int x3), (4, .int x4), (5, .int x5)]) hx hb d_R_joinsGreedily_76 hl (by decide) rfl (fun ls hl => ?_)
                    refine lv_iload_n hx hb d_R_joinsGreedily_78 rfl (lv_at hl 4 rfl) ?_
                    refine lv_if_eq (tgt := 110) hx hb d_R_joinsGreedily_79 (by decide) (fun c12 => ?_) (fun c12 => ?_)
                    · have hf := di_t c12 hf
                      exact hJ110 x5 v4 v6 t10 H locs ls ⟨hP, hD, hS⟩ (lv_sub hl [3, 7, 8, 2, 1, 0] rfl) hf
                    · have hf := di_f c12 hf
                      refine lv_iload hx hb d_R_joinsGreedily_82 (lv_at hl 0 rfl) ?_
                      refine lv_if_eq (tgt := 91) hx hb d_R_joinsGreedily_84 (by decide) (fun c13 => ?_) (fun c13 => ?_)
                      · have hf := di_t c13 hf
                        exact hJ91 x1 x2 x3 x5 v4 v6 t10 H locs ls ⟨hP, hD, hS⟩ (lv_sub hl [3, 4, 5, 6, 7, 8, 2, 1, 0] rfl) hf
                      · have hf := di_f c13 hf
                        refine lv_iload_n hx hb d_R_joinsGreedily_87 rfl (lv_at hl 6 rfl) ?_
                        refine lv_if_eq (tgt := 110) hx hb d_R_joinsGreedily_88 (by decide) (fun c14 => ?_) (fun c14 => ?_)
                        · have hf := di_t c14 hf
                          exact hJ110 x5 v4 v6 t10 H locs ls ⟨hP, hD, hS⟩ (lv_sub hl [3, 7, 8, 2, 1, 0] rfl) hf
                        · have hf := di_f c14 hf
                          exact hJ91 x1 x2 x3 x5 v4 v6 t10 H locs ls ⟨hP, hD, hS⟩ (lv_sub hl [3, 4, 5, 6, 7, 8, 2, 1, 0] rfl) hf
                  · have hf := di_t c9 hf
                    refine lv_goto (tgt := 119) hx hb d_R_joinsGreedily_65 (by decide) ?_
                    obtain ⟨v15, ev15⟩ : ∃ z : Int32, z = x5 + (1 : Int32) := ⟨_, rfl⟩
                    have hf := dn_e ev15 hf
                    refine lv_iinc (v := v15) (lv' := [(5, .int v15), (7, .int v6), (6, .int v4), (0, .ref h0), (1, .int x1), (2, .int x2), (3, .int x3), (4, .int x4)]) hx hb d_R_joinsGreedily_119 hl (k := 7) rfl (by rw [ev15]; rfl) (by decide) rfl (fun ls hl => ?_)
                    refine lv_goto (tgt := 21) hx hb d_R_joinsGreedily_122 (by decide) ?_
                    exact ih21 x1 x2 x3 v15 H locs ls (lpk_i hf hk21) ⟨hP, hD, hS⟩ (lv_sub hl [3, 4, 5, 6, 7, 0] rfl)
          exact hL21 N x1 x2 x3 x5 H locs ls hy21 ⟨hP, hD, hS⟩ hl
        refine lv_iload hx hb d_R_joinsGreedily_9 (lv_at hl 4 rfl) ?_
        refine lv_aload_n hx hb d_R_joinsGreedily_11 rfl (lv_at hl 0 rfl) ?_
        refine va_get (D := G.1) (ci := 12) (v := .int f_treeMany) (C := n_R) (T := T_R) (N := 44) hx hb htl iw_R hown hK hP 0 rfl rfl 33 (by decide) (htl _ k_1229) (fun _ h9 => h9) rfl d_R_joinsGreedily_12 ?_
        refine lv_icmp_ge (tgt := 131) hx hb d_R_joinsGreedily_15 (by decide) (fun c1 => ?_) (fun c1 => ?_)
        · have hf := di_t c1 hf
          have hq9 := lpk_x hf hk9
          have hf := ex_y (f := fun y => R_joinsGreedily_a9 N f_treeMany g_all g_part g_size g_trees y) hq9 hfo9
          have hf : R_joinsGreedily_131 N f_treeMany g_all g_part g_size g_trees x1 x2 = some res := hf
          exact hJ131 f_treeMany g_part g_trees x1 x2 H locs ls ⟨hP, hD, hS⟩ (lv_sub hl [0, 1, 2] rfl) hf
        · have hf := di_f c1 hf
          refine lv_iconst (v := (0 : Int32)) hx hb d_R_joinsGreedily_18 (by decide) ?_
          refine lv_istore (lv' := [(5, .int (0 : Int32)), (0, .ref h0), (1, .int x1), (2, .int x2), (3, .int x3), (4, .int x4)]) hx hb d_R_joinsGreedily_19 hl (by decide) rfl (fun ls hl => ?_)
          exact hJ21 x1 x2 x3 x4 (0 : Int32) H locs ls ⟨hP, hD, hS⟩ (lv_sub hl [1, 2, 3, 4, 5, 0] rfl) hf
    exact hL9 N x1 x2 x3 x4 H locs ls hy9 ⟨hP, hD, hS⟩ hl
  refine lv_iconst (v := (0 : Int32)) hx hb d_R_joinsGreedily_0 (by decide) ?_
  refine lv_istore_n (lv' := [(1, .int (0 : Int32)), (0, .ref h0)]) hx hb d_R_joinsGreedily_1 rfl hl (by decide) rfl (fun ls hl => ?_)
  refine lv_iconst (v := (0 : Int32)) hx hb d_R_joinsGreedily_2 (by decide) ?_
  refine lv_istore_n (lv' := [(2, .int (0 : Int32)), (1, .int (0 : Int32)), (0, .ref h0)]) hx hb d_R_joinsGreedily_3 rfl hl (by decide) rfl (fun ls hl => ?_)
  refine lv_iconst (v := (0 : Int32)) hx hb d_R_joinsGreedily_4 (by decide) ?_
  refine lv_istore_n (lv' := [(3, .int (0 : Int32)), (2, .int (0 : Int32)), (1, .int (0 : Int32)), (0, .ref h0)]) hx hb d_R_joinsGreedily_5 rfl hl (by decide) rfl (fun ls hl => ?_)
  refine lv_iconst (v := (0 : Int32)) hx hb d_R_joinsGreedily_6 (by decide) ?_
  refine lv_istore (lv' := [(4, .int (0 : Int32)), (3, .int (0 : Int32)), (2, .int (0 : Int32)), (1, .int (0 : Int32)), (0, .ref h0)]) hx hb d_R_joinsGreedily_7 hl (by decide) rfl (fun ls hl => ?_)
  exact hJ9 f_treeMany g_part g_trees (0 : Int32) (0 : Int32) (0 : Int32) (0 : Int32) H locs ls ⟨hP, hD, hS⟩ (lv_sub hl [4, 3, 2, 1, 0] rfl) hf
