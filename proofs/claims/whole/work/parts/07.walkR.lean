set_option maxHeartbeats 4000000 in
set_option maxRecDepth 100000 in
theorem c_R_thrown (l : Launch) (G : va_G × (Nat → ClassId)) (Y : (Nat → Nat) × (Nat → Nat)) (h0 : Nat) (a_all : Nat) (a_text : Nat) (a_saved : Nat) (a_undone : Nat) (a_told : Nat) (a_pile : Nat) (a_open : Nat) (a_size : Nat) (a_capped : Nat) (a_connected : Nat) (a_bestCost : Nat) (a_bestCrosses : Nat) (a_bestPart : Nat) (a_part : Nat) (a_trees : Nat) (a_nodes : Nat) (a_out : Nat) (a_kept : Nat) (f_raised : Int32) (f_undos : Int32) (f_reached : Int32) (f_length : Int32) (f_begin : Int32) (f_sort : Int32) (f_sign : Int32) (f_value : Int32) (f_word : Int64) (f_wrongAt : Int32) (f_badAt : Int32) (f_bad : Int32) (f_read : Int32) (f_side : Int32) (f_piled : Int32) (f_opened : Int32) (f_joins : Int32) (f_had : Int32) (f_treeMany : Int32) (f_nodeMany : Int32) (f_moveNode : Int32) (f_movePart : Int32) (f_moveFirst : Int32) (f_moveThen : Int32) (f_moveOther : Int32) (f_outMany : Int32) (res : Int32) (hf : R_thrown f_raised = res) : Ci l classes y_R_thrown b_R_thrown 1 (some .int) (rmk 0) G.1 (tyL G) Y [.ref h0] [(h0, O_R f_raised a_all a_text a_saved a_undone f_undos f_reached f_length f_begin f_sort f_sign f_value f_word f_wrongAt f_badAt f_bad a_told f_read f_side a_pile f_piled a_open f_opened f_joins f_had a_size a_capped a_connected a_bestCost a_bestCrosses a_bestPart a_part a_trees f_treeMany a_nodes f_nodeMany f_moveNode f_movePart f_moveFirst f_moveThen f_moveOther a_out f_outMany a_kept)] [(h0, O_R f_raised a_all a_text a_saved a_undone f_undos f_reached f_length f_begin f_sort f_sign f_value f_word f_wrongAt f_badAt f_bad a_told f_read f_side a_pile f_piled a_open f_opened f_joins f_had a_size a_capped a_connected a_bestCost a_bestCrosses a_bestPart a_part a_trees f_treeMany a_nodes f_nodeMany f_moveNode f_movePart f_moveFirst f_moveThen f_moveOther a_out f_outMany a_kept)] res := by
  refine entI (by decide) (Nat.le_of_ble_eq_true rfl) ?_
  intro p e s m args below meth c ls A Q hx hb hml hown htl hK hsk wq hl hret
  obtain ⟨hP, hD, hS⟩ := wq
  have hl : lv_has ls 1 [(0, .ref h0)] := hl
  have hS : va_S A s.heap s.heap [] := hS
  obtain ⟨H, hH⟩ : ∃ H : Heap, H = s.heap := ⟨_, rfl⟩
  obtain ⟨locs, hlocs⟩ : ∃ z : List Loc, z = [] := ⟨_, rfl⟩
  rw [← hH] at hP
  replace hS : va_S A s.heap H locs := by rw [hH, hlocs]; exact hS
  suffices hgo : W p l e (rmk 0) s m args below meth c H locs 0 0 Q (F0 m 0 ls []) by rw [hH, hlocs] at hgo; exact hgo
  refine lv_aload_n hx hb d_R_thrown_0 rfl (lv_at hl 0 rfl) ?_
  refine va_get (D := G.1) (ci := 12) (v := .int f_raised) (C := n_R) (T := T_R) (N := 44) hx hb htl iw_R hown hK hP 0 rfl rfl 0 (by decide) (htl _ k_1196) (fun _ h9 => h9) rfl d_R_thrown_1 ?_
  cases hf
  exact hret 4 ls H locs hP hS d_R_thrown_4
set_option maxHeartbeats 4000000 in
set_option maxRecDepth 100000 in
theorem c_R_in (l : Launch) (G : va_G × (Nat → ClassId)) (Y : (Nat → Nat) × (Nat → Nat)) (x0 : Int64) (x2 : Int64) (x4 : Int64) (res : Int32) (hf : R_in x0 x2 x4 = res) : Ci l classes y_R_in b_R_in 6 (some .boolean) (rmk 0) G.1 (tyL G) Y [.long x0, .long x2, .long x4] [] [] res := by
  refine entZ (by decide) (Nat.le_of_ble_eq_true rfl) ?_
  intro p e s m args below meth c ls A Q hx hb hml hown htl hK hsk wq hl hret
  obtain ⟨hP, hD, hS⟩ := wq
  have hl : lv_has ls 6 [(0, .long x0), (2, .long x2), (4, .long x4)] := hl
  have hS : va_S A s.heap s.heap [] := hS
  obtain ⟨H, hH⟩ : ∃ H : Heap, H = s.heap := ⟨_, rfl⟩
  obtain ⟨locs, hlocs⟩ : ∃ z : List Loc, z = [] := ⟨_, rfl⟩
  rw [← hH] at hP
  replace hS : va_S A s.heap H locs := by rw [hH, hlocs]; exact hS
  suffices hgo : W p l e (rmk 0) s m args below meth c H locs 0 0 Q (F0 m 0 ls []) by rw [hH, hlocs] at hgo; exact hgo
  refine lv_lload_n hx hb d_R_in_0 rfl (lv_at hl 0 rfl) ?_
  refine lv_lload_n hx hb d_R_in_1 rfl (lv_at hl 1 rfl) ?_
  refine lx_lt (tgt := 17) hx hb d_R_in_2 d_R_in_3 (by decide) (fun c1 => ?_) (fun c1 => ?_)
  · have hf := di_t c1 hf
    refine lv_iconst (v := (0 : Int32)) hx hb d_R_in_17 (by decide) ?_
    cases hf
    exact hret 18 ls H locs z_0 hP hS d_R_in_18
  · have hf := di_f c1 hf
    refine lv_lload_n hx hb d_R_in_6 rfl (lv_at hl 0 rfl) ?_
    refine lv_lload hx hb d_R_in_7 (lv_at hl 2 rfl) ?_
    refine lx_gt (tgt := 17) hx hb d_R_in_9 d_R_in_10 (by decide) (fun c2 => ?_) (fun c2 => ?_)
    · have hf := di_t c2 hf
      refine lv_iconst (v := (0 : Int32)) hx hb d_R_in_17 (by decide) ?_
      cases hf
      exact hret 18 ls H locs z_0 hP hS d_R_in_18
    · have hf := di_f c2 hf
      refine lv_iconst (v := (1 : Int32)) hx hb d_R_in_13 (by decide) ?_
      refine lv_goto (tgt := 18) hx hb d_R_in_14 (by decide) ?_
      cases hf
      exact hret 18 ls H locs z_1 hP hS d_R_in_18
set_option maxHeartbeats 4000000 in
set_option maxRecDepth 100000 in
theorem c_R_everything (l : Launch) (G : va_G × (Nat → ClassId)) (Y : (Nat → Nat) × (Nat → Nat)) (h0 : Nat) (a_all : Nat) (a_text : Nat) (a_saved : Nat) (a_undone : Nat) (a_told : Nat) (a_pile : Nat) (a_open : Nat) (a_size : Nat) (a_capped : Nat) (a_connected : Nat) (a_bestCost : Nat) (a_bestCrosses : Nat) (a_bestPart : Nat) (a_part : Nat) (a_trees : Nat) (a_nodes : Nat) (a_out : Nat) (a_kept : Nat) (f_raised : Int32) (f_undos : Int32) (f_reached : Int32) (f_length : Int32) (f_begin : Int32) (f_sort : Int32) (f_sign : Int32) (f_value : Int32) (f_word : Int64) (f_wrongAt : Int32) (f_badAt : Int32) (f_bad : Int32) (f_read : Int32) (f_side : Int32) (f_piled : Int32) (f_opened : Int32) (f_joins : Int32) (f_had : Int32) (f_treeMany : Int32) (f_nodeMany : Int32) (f_moveNode : Int32) (f_movePart : Int32) (f_moveFirst : Int32) (f_moveThen : Int32) (f_moveOther : Int32) (f_outMany : Int32) (g_all : Nat → Int32) (res : Int32) (hf : R_everything g_all = res) : Ci l classes y_R_everything b_R_everything 1 (some .int) (rmk 0) G.1 (tyL G) Y [.ref h0] [(h0, O_R f_raised a_all a_text a_saved a_undone f_undos f_reached f_length f_begin f_sort f_sign f_value f_word f_wrongAt f_badAt f_bad a_told f_read f_side a_pile f_piled a_open f_opened f_joins f_had a_size a_capped a_connected a_bestCost a_bestCrosses a_bestPart a_part a_trees f_treeMany a_nodes f_nodeMany f_moveNode f_movePart f_moveFirst f_moveThen f_moveOther a_out f_outMany a_kept), (a_all, aI G 1276 g_all)] [(h0, O_R f_raised a_all a_text a_saved a_undone f_undos f_reached f_length f_begin f_sort f_sign f_value f_word f_wrongAt f_badAt f_bad a_told f_read f_side a_pile f_piled a_open f_opened f_joins f_had a_size a_capped a_connected a_bestCost a_bestCrosses a_bestPart a_part a_trees f_treeMany a_nodes f_nodeMany f_moveNode f_movePart f_moveFirst f_moveThen f_moveOther a_out f_outMany a_kept), (a_all, aI G 1276 g_all)] res := by
  refine entI (by decide) (Nat.le_of_ble_eq_true rfl) ?_
  intro p e s m args below meth c ls A Q hx hb hml hown htl hK hsk wq hl hret
  obtain ⟨hP, hD, hS⟩ := wq
  have hl : lv_has ls 1 [(0, .ref h0)] := hl
  have hS : va_S A s.heap s.heap [] := hS
  obtain ⟨H, hH⟩ : ∃ H : Heap, H = s.heap := ⟨_, rfl⟩
  obtain ⟨locs, hlocs⟩ : ∃ z : List Loc, z = [] := ⟨_, rfl⟩
  rw [← hH] at hP
  replace hS : va_S A s.heap H locs := by rw [hH, hlocs]; exact hS
  suffices hgo : W p l e (rmk 0) s m args below meth c H locs 0 0 Q (F0 m 0 ls []) by rw [hH, hlocs] at hgo; exact hgo
  refine lv_iconst (v := (1 : Int32)) hx hb d_R_everything_0 (by decide) ?_
  refine lv_aload_n hx hb d_R_everything_1 rfl (lv_at hl 0 rfl) ?_
  refine va_get (D := G.1) (ci := 12) (v := .ref a_all) (C := n_R) (T := T_R) (N := 44) hx hb htl iw_R hown hK hP 0 rfl rfl 1 (by decide) (htl _ k_1197) (fun _ h9 => h9) rfl d_R_everything_2 ?_
  refine lv_iconst (v := (0 : Int32)) hx hb d_R_everything_5 (by decide) ?_
  refine va_iald hx hb hK hP 1 1 rfl rfl (vp_lit (by decide)) d_R_everything_6 ?_
  refine lv_ishl hx hb d_R_everything_7 ?_
  refine lv_iconst (v := (1 : Int32)) hx hb d_R_everything_8 (by decide) ?_
  refine lv_isub hx hb d_R_everything_9 ?_
  cases hf
  exact hret 10 ls H locs hP hS d_R_everything_10
set_option maxHeartbeats 4000000 in
set_option maxRecDepth 100000 in
theorem c_R_isOne (l : Launch) (G : va_G × (Nat → ClassId)) (Y : (Nat → Nat) × (Nat → Nat)) (x0 : Int32) (res : Int32) (hf : R_isOne x0 = res) : Ci l classes y_R_isOne b_R_isOne 1 (some .boolean) (rmk 0) G.1 (tyL G) Y [.int x0] [] [] res := by
  refine entZ (by decide) (Nat.le_of_ble_eq_true rfl) ?_
  intro p e s m args below meth c ls A Q hx hb hml hown htl hK hsk wq hl hret
  obtain ⟨hP, hD, hS⟩ := wq
  have hl : lv_has ls 1 [(0, .int x0)] := hl
  have hS : va_S A s.heap s.heap [] := hS
  obtain ⟨H, hH⟩ : ∃ H : Heap, H = s.heap := ⟨_, rfl⟩
  obtain ⟨locs, hlocs⟩ : ∃ z : List Loc, z = [] := ⟨_, rfl⟩
  rw [← hH] at hP
  replace hS : va_S A s.heap H locs := by rw [hH, hlocs]; exact hS
  suffices hgo : W p l e (rmk 0) s m args below meth c H locs 0 0 Q (F0 m 0 ls []) by rw [hH, hlocs] at hgo; exact hgo
  refine lv_iload_n hx hb d_R_isOne_0 rfl (lv_at hl 0 rfl) ?_
  refine lv_if_eq (tgt := 16) hx hb d_R_isOne_1 (by decide) (fun c1 => ?_) (fun c1 => ?_)
  · have hf := di_t c1 hf
    refine lv_iconst (v := (0 : Int32)) hx hb d_R_isOne_16 (by decide) ?_
    cases hf
    exact hret 17 ls H locs z_0 hP hS d_R_isOne_17
  · have hf := di_f c1 hf
    refine lv_iload_n hx hb d_R_isOne_4 rfl (lv_at hl 0 rfl) ?_
    refine lv_iload_n hx hb d_R_isOne_5 rfl (lv_at hl 0 rfl) ?_
    refine lv_iconst (v := (1 : Int32)) hx hb d_R_isOne_6 (by decide) ?_
    refine lv_isub hx hb d_R_isOne_7 ?_
    refine lv_iand hx hb d_R_isOne_8 ?_
    refine lv_if_ne (tgt := 16) hx hb d_R_isOne_9 (by decide) (fun c2 => ?_) (fun c2 => ?_)
    · have hf := di_f c2 hf
      refine lv_iconst (v := (0 : Int32)) hx hb d_R_isOne_16 (by decide) ?_
      cases hf
      exact hret 17 ls H locs z_0 hP hS d_R_isOne_17
    · have hf := di_t c2 hf
      refine lv_iconst (v := (1 : Int32)) hx hb d_R_isOne_12 (by decide) ?_
      refine lv_goto (tgt := 17) hx hb d_R_isOne_13 (by decide) ?_
      cases hf
      exact hret 17 ls H locs z_1 hP hS d_R_isOne_17
set_option maxHeartbeats 4000000 in
set_option maxRecDepth 100000 in
theorem c_R_least (l : Launch) (G : va_G × (Nat → ClassId)) (Y : (Nat → Nat) × (Nat → Nat)) (x0 : Int32) (res : Int32) (hf : R_least x0 = res) : Ci l classes y_R_least b_R_least 1 (some .int) (rmk 0) G.1 (tyL G) Y [.int x0] [] [] res := by
  refine entI (by decide) (Nat.le_of_ble_eq_true rfl) ?_
  intro p e s m args below meth c ls A Q hx hb hml hown htl hK hsk wq hl hret
  obtain ⟨hP, hD, hS⟩ := wq
  have hl : lv_has ls 1 [(0, .int x0)] := hl
  have hS : va_S A s.heap s.heap [] := hS
  obtain ⟨H, hH⟩ : ∃ H : Heap, H = s.heap := ⟨_, rfl⟩
  obtain ⟨locs, hlocs⟩ : ∃ z : List Loc, z = [] := ⟨_, rfl⟩
  rw [← hH] at hP
  replace hS : va_S A s.heap H locs := by rw [hH, hlocs]; exact hS
  suffices hgo : W p l e (rmk 0) s m args below meth c H locs 0 0 Q (F0 m 0 ls []) by rw [hH, hlocs] at hgo; exact hgo
  refine lv_iload_n hx hb d_R_least_0 rfl (lv_at hl 0 rfl) ?_
  refine lv_iload_n hx hb d_R_least_1 rfl (lv_at hl 0 rfl) ?_
  refine lv_ineg hx hb d_R_least_2 ?_
  refine lv_iand hx hb d_R_least_3 ?_
  cases hf
  exact hret 4 ls H locs hP hS d_R_least_4
set_option maxHeartbeats 4000000 in
set_option maxRecDepth 100000 in
theorem c_R_isIn (l : Launch) (G : va_G × (Nat → ClassId)) (Y : (Nat → Nat) × (Nat → Nat)) (x0 : Int32) (x1 : Int32) (res : Int32) (hf : R_isIn x0 x1 = res) : Ci l classes y_R_isIn b_R_isIn 2 (some .boolean) (rmk 0) G.1 (tyL G) Y [.int x0, .int x1] [] [] res := by
  refine entZ (by decide) (Nat.le_of_ble_eq_true rfl) ?_
  intro p e s m args below meth c ls A Q hx hb hml hown htl hK hsk wq hl hret
  obtain ⟨hP, hD, hS⟩ := wq
  have hl : lv_has ls 2 [(0, .int x0), (1, .int x1)] := hl
  have hS : va_S A s.heap s.heap [] := hS
  obtain ⟨H, hH⟩ : ∃ H : Heap, H = s.heap := ⟨_, rfl⟩
  obtain ⟨locs, hlocs⟩ : ∃ z : List Loc, z = [] := ⟨_, rfl⟩
  rw [← hH] at hP
  replace hS : va_S A s.heap H locs := by rw [hH, hlocs]; exact hS
  suffices hgo : W p l e (rmk 0) s m args below meth c H locs 0 0 Q (F0 m 0 ls []) by rw [hH, hlocs] at hgo; exact hgo
  refine lv_iload_n hx hb d_R_isIn_0 rfl (lv_at hl 0 rfl) ?_
  refine lv_iload_n hx hb d_R_isIn_1 rfl (lv_at hl 1 rfl) ?_
  refine lv_iconst (v := (-1 : Int32)) hx hb d_R_isIn_2 (by decide) ?_
  refine lv_ixor hx hb d_R_isIn_3 ?_
  refine lv_iand hx hb d_R_isIn_4 ?_
  refine lv_if_ne (tgt := 12) hx hb d_R_isIn_5 (by decide) (fun c1 => ?_) (fun c1 => ?_)
  · have hf := di_f c1 hf
    refine lv_iconst (v := (0 : Int32)) hx hb d_R_isIn_12 (by decide) ?_
    cases hf
    exact hret 13 ls H locs z_0 hP hS d_R_isIn_13
  · have hf := di_t c1 hf
    refine lv_iconst (v := (1 : Int32)) hx hb d_R_isIn_8 (by decide) ?_
    refine lv_goto (tgt := 13) hx hb d_R_isIn_9 (by decide) ?_
    cases hf
    exact hret 13 ls H locs z_1 hP hS d_R_isIn_13
set_option maxHeartbeats 4000000 in
set_option maxRecDepth 100000 in
theorem c_R_isSet (l : Launch) (G : va_G × (Nat → ClassId)) (Y : (Nat → Nat) × (Nat → Nat)) (h0 : Nat) (a_all : Nat) (a_text : Nat) (a_saved : Nat) (a_undone : Nat) (a_told : Nat) (a_pile : Nat) (a_open : Nat) (a_size : Nat) (a_capped : Nat) (a_connected : Nat) (a_bestCost : Nat) (a_bestCrosses : Nat) (a_bestPart : Nat) (a_part : Nat) (a_trees : Nat) (a_nodes : Nat) (a_out : Nat) (a_kept : Nat) (f_raised : Int32) (f_undos : Int32) (f_reached : Int32) (f_length : Int32) (f_begin : Int32) (f_sort : Int32) (f_sign : Int32) (f_value : Int32) (f_word : Int64) (f_wrongAt : Int32) (f_badAt : Int32) (f_bad : Int32) (f_read : Int32) (f_side : Int32) (f_piled : Int32) (f_opened : Int32) (f_joins : Int32) (f_had : Int32) (f_treeMany : Int32) (f_nodeMany : Int32) (f_moveNode : Int32) (f_movePart : Int32) (f_moveFirst : Int32) (f_moveThen : Int32) (f_moveOther : Int32) (f_outMany : Int32) (g_all : Nat → Int32) (x1 : Int32) (res : Int32) (hf : R_isSet g_all x1 = res) : Ci l classes y_R_isSet b_R_isSet 2 (some .boolean) (rmk 1) G.1 (tyL G) Y [.ref h0, .int x1] [(h0, O_R f_raised a_all a_text a_saved a_undone f_undos f_reached f_length f_begin f_sort f_sign f_value f_word f_wrongAt f_badAt f_bad a_told f_read f_side a_pile f_piled a_open f_opened f_joins f_had a_size a_capped a_connected a_bestCost a_bestCrosses a_bestPart a_part a_trees f_treeMany a_nodes f_nodeMany f_moveNode f_movePart f_moveFirst f_moveThen f_moveOther a_out f_outMany a_kept), (a_all, aI G 1276 g_all)] [(h0, O_R f_raised a_all a_text a_saved a_undone f_undos f_reached f_length f_begin f_sort f_sign f_value f_word f_wrongAt f_badAt f_bad a_told f_read f_side a_pile f_piled a_open f_opened f_joins f_had a_size a_capped a_connected a_bestCost a_bestCrosses a_bestPart a_part a_trees f_treeMany a_nodes f_nodeMany f_moveNode f_movePart f_moveFirst f_moveThen f_moveOther a_out f_outMany a_kept), (a_all, aI G 1276 g_all)] res := by
  refine entZ (by decide) (Nat.le_of_ble_eq_true rfl) ?_
  intro p e s m args below meth c ls A Q hx hb hml hown htl hK hsk wq hl hret
  obtain ⟨hP, hD, hS⟩ := wq
  have hl : lv_has ls 2 [(0, .ref h0), (1, .int x1)] := hl
  have hS : va_S A s.heap s.heap [] := hS
  obtain ⟨H, hH⟩ : ∃ H : Heap, H = s.heap := ⟨_, rfl⟩
  obtain ⟨locs, hlocs⟩ : ∃ z : List Loc, z = [] := ⟨_, rfl⟩
  rw [← hH] at hP
  replace hS : va_S A s.heap H locs := by rw [hH, hlocs]; exact hS
  suffices hgo : W p l e (rmk 1) s m args below meth c H locs 0 0 Q (F0 m 0 ls []) by rw [hH, hlocs] at hgo; exact hgo
  refine lv_iload_n hx hb d_R_isSet_0 rfl (lv_at hl 1 rfl) ?_
  refine lv_if_eq (tgt := 19) hx hb d_R_isSet_1 (by decide) (fun c1 => ?_) (fun c1 => ?_)
  · have hf := di_t c1 hf
    refine lv_iconst (v := (0 : Int32)) hx hb d_R_isSet_19 (by decide) ?_
    cases hf
    exact hret 20 ls H locs z_0 hP hS d_R_isSet_20
  · have hf := di_f c1 hf
    refine lv_iload_n hx hb d_R_isSet_4 rfl (lv_at hl 1 rfl) ?_
    refine lv_aload_n hx hb d_R_isSet_5 rfl (lv_at hl 0 rfl) ?_
    refine call_i (isC := [0, 1]) (run_V (As := []) (rest := [.int x1]) (ci := 12) (q0 := 0) hx hb hml hown htl (c_R_everything l G Y  h0 a_all a_text a_saved a_undone a_told a_pile a_open a_size a_capped a_connected a_bestCost a_bestCrosses a_bestPart a_part a_trees a_nodes a_out a_kept f_raised f_undos f_reached f_length f_begin f_sort f_sign f_value f_word f_wrongAt f_badAt f_bad f_read f_side f_piled f_opened f_joins f_had f_treeMany f_nodeMany f_moveNode f_movePart f_moveFirst f_moveThen f_moveOther f_outMany g_all _ rfl) mv_R_everything k_1466 (hRk (by decide) (by decide)) hK hsk hS hP hD (isC := [0, 1]) rfl (by decide) rfl rfl rfl hl.1 rfl (lv_room (Nat.le_of_ble_eq_true rfl)) d_R_isSet_6) hP hD hS rfl rfl (fun H locs hP hD hS => ?_)
    have hP : va_P G.1 classes [(h0, O_R f_raised a_all a_text a_saved a_undone f_undos f_reached f_length f_begin f_sort f_sign f_value f_word f_wrongAt f_badAt f_bad a_told f_read f_side a_pile f_piled a_open f_opened f_joins f_had a_size a_capped a_connected a_bestCost a_bestCrosses a_bestPart a_part a_trees f_treeMany a_nodes f_nodeMany f_moveNode f_movePart f_moveFirst f_moveThen f_moveOther a_out f_outMany a_kept), (a_all, aI G 1276 g_all)] H := hP
    have hD : va_D A [(h0, O_R f_raised a_all a_text a_saved a_undone f_undos f_reached f_length f_begin f_sort f_sign f_value f_word f_wrongAt f_badAt f_bad a_told f_read f_side a_pile f_piled a_open f_opened f_joins f_had a_size a_capped a_connected a_bestCost a_bestCrosses a_bestPart a_part a_trees f_treeMany a_nodes f_nodeMany f_moveNode f_movePart f_moveFirst f_moveThen f_moveOther a_out f_outMany a_kept), (a_all, aI G 1276 g_all)] := hD
    refine call_i (isC := []) (run_S (As := [.int x1, .int (R_everything g_all)]) (rest := []) hx hb hml hown htl (c_R_isIn l G Y  x1 (R_everything g_all) _ rfl) ms_R_isIn k_1470 (hRk (by decide) (by decide)) hK hsk hS hP hD (isC := []) rfl (by decide) rfl hl.1 rfl (lv_room (Nat.le_of_ble_eq_true rfl)) d_R_isSet_9) hP hD hS rfl rfl (fun H locs hP hD hS => ?_)
    have hP : va_P G.1 classes [(h0, O_R f_raised a_all a_text a_saved a_undone f_undos f_reached f_length f_begin f_sort f_sign f_value f_word f_wrongAt f_badAt f_bad a_told f_read f_side a_pile f_piled a_open f_opened f_joins f_had a_size a_capped a_connected a_bestCost a_bestCrosses a_bestPart a_part a_trees f_treeMany a_nodes f_nodeMany f_moveNode f_movePart f_moveFirst f_moveThen f_moveOther a_out f_outMany a_kept), (a_all, aI G 1276 g_all)] H := hP
    have hD : va_D A [(h0, O_R f_raised a_all a_text a_saved a_undone f_undos f_reached f_length f_begin f_sort f_sign f_value f_word f_wrongAt f_badAt f_bad a_told f_read f_side a_pile f_piled a_open f_opened f_joins f_had a_size a_capped a_connected a_bestCost a_bestCrosses a_bestPart a_part a_trees f_treeMany a_nodes f_nodeMany f_moveNode f_movePart f_moveFirst f_moveThen f_moveOther a_out f_outMany a_kept), (a_all, aI G 1276 g_all)] := hD
    refine lv_if_eq (tgt := 19) hx hb d_R_isSet_12 (by decide) (fun c2 => ?_) (fun c2 => ?_)
    · have hf := di_t c2 hf
      refine lv_iconst (v := (0 : Int32)) hx hb d_R_isSet_19 (by decide) ?_
      cases hf
      exact hret 20 ls H locs z_0 hP hS d_R_isSet_20
    · have hf := di_f c2 hf
      refine lv_iconst (v := (1 : Int32)) hx hb d_R_isSet_15 (by decide) ?_
      refine lv_goto (tgt := 20) hx hb d_R_isSet_16 (by decide) ?_
      cases hf
      exact hret 20 ls H locs z_1 hP hS d_R_isSet_20
set_option maxHeartbeats 4000000 in
set_option maxRecDepth 100000 in
theorem c_R_leftOf (l : Launch) (G : va_G × (Nat → ClassId)) (Y : (Nat → Nat) × (Nat → Nat)) (h0 : Nat) (a_all : Nat) (a_text : Nat) (a_saved : Nat) (a_undone : Nat) (a_told : Nat) (a_pile : Nat) (a_open : Nat) (a_size : Nat) (a_capped : Nat) (a_connected : Nat) (a_bestCost : Nat) (a_bestCrosses : Nat) (a_bestPart : Nat) (a_part : Nat) (a_trees : Nat) (a_nodes : Nat) (a_out : Nat) (a_kept : Nat) (f_raised : Int32) (f_undos : Int32) (f_reached : Int32) (f_length : Int32) (f_begin : Int32) (f_sort : Int32) (f_sign : Int32) (f_value : Int32) (f_word : Int64) (f_wrongAt : Int32) (f_badAt : Int32) (f_bad : Int32) (f_read : Int32) (f_side : Int32) (f_piled : Int32) (f_opened : Int32) (f_joins : Int32) (f_had : Int32) (f_treeMany : Int32) (f_nodeMany : Int32) (f_moveNode : Int32) (f_movePart : Int32) (f_moveFirst : Int32) (f_moveThen : Int32) (f_moveOther : Int32) (f_outMany : Int32) (g_all : Nat → Int32) (x1 : Int32) (res : Int32) (hf : R_leftOf g_all x1 = some res) : Ci l classes y_R_leftOf b_R_leftOf 2 (some .int) (rmk 0) G.1 (tyL G) Y [.ref h0, .int x1] [(h0, O_R f_raised a_all a_text a_saved a_undone f_undos f_reached f_length f_begin f_sort f_sign f_value f_word f_wrongAt f_badAt f_bad a_told f_read f_side a_pile f_piled a_open f_opened f_joins f_had a_size a_capped a_connected a_bestCost a_bestCrosses a_bestPart a_part a_trees f_treeMany a_nodes f_nodeMany f_moveNode f_movePart f_moveFirst f_moveThen f_moveOther a_out f_outMany a_kept), (a_all, aI G 1276 g_all)] [(h0, O_R f_raised a_all a_text a_saved a_undone f_undos f_reached f_length f_begin f_sort f_sign f_value f_word f_wrongAt f_badAt f_bad a_told f_read f_side a_pile f_piled a_open f_opened f_joins f_had a_size a_capped a_connected a_bestCost a_bestCrosses a_bestPart a_part a_trees f_treeMany a_nodes f_nodeMany f_moveNode f_movePart f_moveFirst f_moveThen f_moveOther a_out f_outMany a_kept), (a_all, aI G 1276 g_all)] res := by
  refine entI (by decide) (Nat.le_of_ble_eq_true rfl) ?_
  intro p e s m args below meth c ls A Q hx hb hml hown htl hK hsk wq hl hret
  obtain ⟨hP, hD, hS⟩ := wq
  have hl : lv_has ls 2 [(0, .ref h0), (1, .int x1)] := hl
  have hS : va_S A s.heap s.heap [] := hS
  obtain ⟨H, hH⟩ : ∃ H : Heap, H = s.heap := ⟨_, rfl⟩
  obtain ⟨locs, hlocs⟩ : ∃ z : List Loc, z = [] := ⟨_, rfl⟩
  rw [← hH] at hP
  replace hS : va_S A s.heap H locs := by rw [hH, hlocs]; exact hS
  suffices hgo : W p l e (rmk 0) s m args below meth c H locs 0 0 Q (F0 m 0 ls []) by rw [hH, hlocs] at hgo; exact hgo
  refine lv_aload_n hx hb d_R_leftOf_0 rfl (lv_at hl 0 rfl) ?_
  refine va_get (D := G.1) (ci := 12) (v := .ref a_all) (C := n_R) (T := T_R) (N := 44) hx hb htl iw_R hown hK hP 0 rfl rfl 1 (by decide) (htl _ k_1197) (fun _ h9 => h9) rfl d_R_leftOf_1 ?_
  refine lv_bipush (v := (10 : Int32)) hx hb d_R_leftOf_4 (by decide) ?_
  refine lv_iconst (v := (3 : Int32)) hx hb d_R_leftOf_6 (by decide) ?_
  refine lv_iload_n hx hb d_R_leftOf_7 rfl (lv_at hl 1 rfl) ?_
  refine lv_imul hx hb d_R_leftOf_8 ?_
  refine lv_iadd hx hb d_R_leftOf_9 ?_
  obtain ⟨c1, hf⟩ := dk_e hf
  refine va_iald hx hb hK hP 1 1 rfl rfl c1 d_R_leftOf_10 ?_
  cases hf
  exact hret 11 ls H locs hP hS d_R_leftOf_11
set_option maxHeartbeats 4000000 in
set_option maxRecDepth 100000 in
theorem c_R_rightOf (l : Launch) (G : va_G × (Nat → ClassId)) (Y : (Nat → Nat) × (Nat → Nat)) (h0 : Nat) (a_all : Nat) (a_text : Nat) (a_saved : Nat) (a_undone : Nat) (a_told : Nat) (a_pile : Nat) (a_open : Nat) (a_size : Nat) (a_capped : Nat) (a_connected : Nat) (a_bestCost : Nat) (a_bestCrosses : Nat) (a_bestPart : Nat) (a_part : Nat) (a_trees : Nat) (a_nodes : Nat) (a_out : Nat) (a_kept : Nat) (f_raised : Int32) (f_undos : Int32) (f_reached : Int32) (f_length : Int32) (f_begin : Int32) (f_sort : Int32) (f_sign : Int32) (f_value : Int32) (f_word : Int64) (f_wrongAt : Int32) (f_badAt : Int32) (f_bad : Int32) (f_read : Int32) (f_side : Int32) (f_piled : Int32) (f_opened : Int32) (f_joins : Int32) (f_had : Int32) (f_treeMany : Int32) (f_nodeMany : Int32) (f_moveNode : Int32) (f_movePart : Int32) (f_moveFirst : Int32) (f_moveThen : Int32) (f_moveOther : Int32) (f_outMany : Int32) (g_all : Nat → Int32) (x1 : Int32) (res : Int32) (hf : R_rightOf g_all x1 = some res) : Ci l classes y_R_rightOf b_R_rightOf 2 (some .int) (rmk 0) G.1 (tyL G) Y [.ref h0, .int x1] [(h0, O_R f_raised a_all a_text a_saved a_undone f_undos f_reached f_length f_begin f_sort f_sign f_value f_word f_wrongAt f_badAt f_bad a_told f_read f_side a_pile f_piled a_open f_opened f_joins f_had a_size a_capped a_connected a_bestCost a_bestCrosses a_bestPart a_part a_trees f_treeMany a_nodes f_nodeMany f_moveNode f_movePart f_moveFirst f_moveThen f_moveOther a_out f_outMany a_kept), (a_all, aI G 1276 g_all)] [(h0, O_R f_raised a_all a_text a_saved a_undone f_undos f_reached f_length f_begin f_sort f_sign f_value f_word f_wrongAt f_badAt f_bad a_told f_read f_side a_pile f_piled a_open f_opened f_joins f_had a_size a_capped a_connected a_bestCost a_bestCrosses a_bestPart a_part a_trees f_treeMany a_nodes f_nodeMany f_moveNode f_movePart f_moveFirst f_moveThen f_moveOther a_out f_outMany a_kept), (a_all, aI G 1276 g_all)] res := by
  refine entI (by decide) (Nat.le_of_ble_eq_true rfl) ?_
  intro p e s m args below meth c ls A Q hx hb hml hown htl hK hsk wq hl hret
  obtain ⟨hP, hD, hS⟩ := wq
  have hl : lv_has ls 2 [(0, .ref h0), (1, .int x1)] := hl
  have hS : va_S A s.heap s.heap [] := hS
  obtain ⟨H, hH⟩ : ∃ H : Heap, H = s.heap := ⟨_, rfl⟩
  obtain ⟨locs, hlocs⟩ : ∃ z : List Loc, z = [] := ⟨_, rfl⟩
  rw [← hH] at hP
  replace hS : va_S A s.heap H locs := by rw [hH, hlocs]; exact hS
  suffices hgo : W p l e (rmk 0) s m args below meth c H locs 0 0 Q (F0 m 0 ls []) by rw [hH, hlocs] at hgo; exact hgo
  refine lv_aload_n hx hb d_R_rightOf_0 rfl (lv_at hl 0 rfl) ?_
  refine va_get (D := G.1) (ci := 12) (v := .ref a_all) (C := n_R) (T := T_R) (N := 44) hx hb htl iw_R hown hK hP 0 rfl rfl 1 (by decide) (htl _ k_1197) (fun _ h9 => h9) rfl d_R_rightOf_1 ?_
  refine lv_bipush (v := (10 : Int32)) hx hb d_R_rightOf_4 (by decide) ?_
  refine lv_iconst (v := (3 : Int32)) hx hb d_R_rightOf_6 (by decide) ?_
  refine lv_iload_n hx hb d_R_rightOf_7 rfl (lv_at hl 1 rfl) ?_
  refine lv_imul hx hb d_R_rightOf_8 ?_
  refine lv_iadd hx hb d_R_rightOf_9 ?_
  refine lv_iconst (v := (1 : Int32)) hx hb d_R_rightOf_10 (by decide) ?_
  refine lv_iadd hx hb d_R_rightOf_11 ?_
  obtain ⟨c1, hf⟩ := dk_e hf
  refine va_iald hx hb hK hP 1 1 rfl rfl c1 d_R_rightOf_12 ?_
  cases hf
  exact hret 13 ls H locs hP hS d_R_rightOf_13
set_option maxHeartbeats 4000000 in
set_option maxRecDepth 100000 in
theorem c_R_byOf (l : Launch) (G : va_G × (Nat → ClassId)) (Y : (Nat → Nat) × (Nat → Nat)) (h0 : Nat) (a_all : Nat) (a_text : Nat) (a_saved : Nat) (a_undone : Nat) (a_told : Nat) (a_pile : Nat) (a_open : Nat) (a_size : Nat) (a_capped : Nat) (a_connected : Nat) (a_bestCost : Nat) (a_bestCrosses : Nat) (a_bestPart : Nat) (a_part : Nat) (a_trees : Nat) (a_nodes : Nat) (a_out : Nat) (a_kept : Nat) (f_raised : Int32) (f_undos : Int32) (f_reached : Int32) (f_length : Int32) (f_begin : Int32) (f_sort : Int32) (f_sign : Int32) (f_value : Int32) (f_word : Int64) (f_wrongAt : Int32) (f_badAt : Int32) (f_bad : Int32) (f_read : Int32) (f_side : Int32) (f_piled : Int32) (f_opened : Int32) (f_joins : Int32) (f_had : Int32) (f_treeMany : Int32) (f_nodeMany : Int32) (f_moveNode : Int32) (f_movePart : Int32) (f_moveFirst : Int32) (f_moveThen : Int32) (f_moveOther : Int32) (f_outMany : Int32) (g_all : Nat → Int32) (x1 : Int32) (res : Int32) (hf : R_byOf g_all x1 = some res) : Ci l classes y_R_byOf b_R_byOf 2 (some .int) (rmk 0) G.1 (tyL G) Y [.ref h0, .int x1] [(h0, O_R f_raised a_all a_text a_saved a_undone f_undos f_reached f_length f_begin f_sort f_sign f_value f_word f_wrongAt f_badAt f_bad a_told f_read f_side a_pile f_piled a_open f_opened f_joins f_had a_size a_capped a_connected a_bestCost a_bestCrosses a_bestPart a_part a_trees f_treeMany a_nodes f_nodeMany f_moveNode f_movePart f_moveFirst f_moveThen f_moveOther a_out f_outMany a_kept), (a_all, aI G 1276 g_all)] [(h0, O_R f_raised a_all a_text a_saved a_undone f_undos f_reached f_length f_begin f_sort f_sign f_value f_word f_wrongAt f_badAt f_bad a_told f_read f_side a_pile f_piled a_open f_opened f_joins f_had a_size a_capped a_connected a_bestCost a_bestCrosses a_bestPart a_part a_trees f_treeMany a_nodes f_nodeMany f_moveNode f_movePart f_moveFirst f_moveThen f_moveOther a_out f_outMany a_kept), (a_all, aI G 1276 g_all)] res := by
  refine entI (by decide) (Nat.le_of_ble_eq_true rfl) ?_
  intro p e s m args below meth c ls A Q hx hb hml hown htl hK hsk wq hl hret
  obtain ⟨hP, hD, hS⟩ := wq
  have hl : lv_has ls 2 [(0, .ref h0), (1, .int x1)] := hl
  have hS : va_S A s.heap s.heap [] := hS
  obtain ⟨H, hH⟩ : ∃ H : Heap, H = s.heap := ⟨_, rfl⟩
  obtain ⟨locs, hlocs⟩ : ∃ z : List Loc, z = [] := ⟨_, rfl⟩
  rw [← hH] at hP
  replace hS : va_S A s.heap H locs := by rw [hH, hlocs]; exact hS
  suffices hgo : W p l e (rmk 0) s m args below meth c H locs 0 0 Q (F0 m 0 ls []) by rw [hH, hlocs] at hgo; exact hgo
  refine lv_aload_n hx hb d_R_byOf_0 rfl (lv_at hl 0 rfl) ?_
  refine va_get (D := G.1) (ci := 12) (v := .ref a_all) (C := n_R) (T := T_R) (N := 44) hx hb htl iw_R hown hK hP 0 rfl rfl 1 (by decide) (htl _ k_1197) (fun _ h9 => h9) rfl d_R_byOf_1 ?_
  refine lv_bipush (v := (10 : Int32)) hx hb d_R_byOf_4 (by decide) ?_
  refine lv_iconst (v := (3 : Int32)) hx hb d_R_byOf_6 (by decide) ?_
  refine lv_iload_n hx hb d_R_byOf_7 rfl (lv_at hl 1 rfl) ?_
  refine lv_imul hx hb d_R_byOf_8 ?_
  refine lv_iadd hx hb d_R_byOf_9 ?_
  refine lv_iconst (v := (2 : Int32)) hx hb d_R_byOf_10 (by decide) ?_
  refine lv_iadd hx hb d_R_byOf_11 ?_
  obtain ⟨c1, hf⟩ := dk_e hf
  refine va_iald hx hb hK hP 1 1 rfl rfl c1 d_R_byOf_12 ?_
  cases hf
  exact hret 13 ls H locs hP hS d_R_byOf_13
set_option maxHeartbeats 4000000 in
set_option maxRecDepth 100000 in
theorem c_R_type (l : Launch) (G : va_G × (Nat → ClassId)) (Y : (Nat → Nat) × (Nat → Nat)) (h0 : Nat) (a_all : Nat) (a_text : Nat) (a_saved : Nat) (a_undone : Nat) (a_told : Nat) (a_pile : Nat) (a_open : Nat) (a_size : Nat) (a_capped : Nat) (a_connected : Nat) (a_bestCost : Nat) (a_bestCrosses : Nat) (a_bestPart : Nat) (a_part : Nat) (a_trees : Nat) (a_nodes : Nat) (a_out : Nat) (a_kept : Nat) (f_raised : Int32) (f_undos : Int32) (f_reached : Int32) (f_length : Int32) (f_begin : Int32) (f_sort : Int32) (f_sign : Int32) (f_value : Int32) (f_word : Int64) (f_wrongAt : Int32) (f_badAt : Int32) (f_bad : Int32) (f_read : Int32) (f_side : Int32) (f_piled : Int32) (f_opened : Int32) (f_joins : Int32) (f_had : Int32) (f_treeMany : Int32) (f_nodeMany : Int32) (f_moveNode : Int32) (f_movePart : Int32) (f_moveFirst : Int32) (f_moveThen : Int32) (f_moveOther : Int32) (f_outMany : Int32) (g_all : Nat → Int32) (g_text : Nat → Int32) (x1 : Int64) (N : Nat) (res : Int32 × Int32 × (Nat → Int32) × (Nat → Int32)) (hf : R_type N f_raised g_all g_text x1 = some res) : Ci l classes y_R_type b_R_type 5 (some .int) (rmk 0) G.1 (tyL G) Y [.ref h0, .long x1] [(h0, O_R f_raised a_all a_text a_saved a_undone f_undos f_reached f_length f_begin f_sort f_sign f_value f_word f_wrongAt f_badAt f_bad a_told f_read f_side a_pile f_piled a_open f_opened f_joins f_had a_size a_capped a_connected a_bestCost a_bestCrosses a_bestPart a_part a_trees f_treeMany a_nodes f_nodeMany f_moveNode f_movePart f_moveFirst f_moveThen f_moveOther a_out f_outMany a_kept), (a_all, aI G 1276 g_all), (a_text, aB G 2000 g_text)] [(h0, O_R res.2.1 a_all a_text a_saved a_undone f_undos f_reached f_length f_begin f_sort f_sign f_value f_word f_wrongAt f_badAt f_bad a_told f_read f_side a_pile f_piled a_open f_opened f_joins f_had a_size a_capped a_connected a_bestCost a_bestCrosses a_bestPart a_part a_trees f_treeMany a_nodes f_nodeMany f_moveNode f_movePart f_moveFirst f_moveThen f_moveOther a_out f_outMany a_kept), (a_all, aI G 1276 res.2.2.1), (a_text, aB G 2000 res.2.2.2)] res.1 := by
  refine entI (by decide) (Nat.le_of_ble_eq_true rfl) ?_
  intro p e s m args below meth c ls A Q hx hb hml hown htl hK hsk wq hl hret
  obtain ⟨hP, hD, hS⟩ := wq
  have hl : lv_has ls 5 [(0, .ref h0), (1, .long x1)] := hl
  have hS : va_S A s.heap s.heap [] := hS
  obtain ⟨H, hH⟩ : ∃ H : Heap, H = s.heap := ⟨_, rfl⟩
  obtain ⟨locs, hlocs⟩ : ∃ z : List Loc, z = [] := ⟨_, rfl⟩
  rw [← hH] at hP
  replace hS : va_S A s.heap H locs := by rw [hH, hlocs]; exact hS
  suffices hgo : W p l e (rmk 0) s m args below meth c H locs 0 0 Q (F0 m 0 ls []) by rw [hH, hlocs] at hgo; exact hgo
  have hJ107 : ∀ (f_raised : Int32) (g_all : Nat → Int32) (g_text : Nat → Int32) (H : Heap) (locs : List Loc) (ls : Array Slot), PDS G.1 classes A s [(h0, O_R f_raised a_all a_text a_saved a_undone f_undos f_reached f_length f_begin f_sort f_sign f_value f_word f_wrongAt f_badAt f_bad a_told f_read f_side a_pile f_piled a_open f_opened f_joins f_had a_size a_capped a_connected a_bestCost a_bestCrosses a_bestPart a_part a_trees f_treeMany a_nodes f_nodeMany f_moveNode f_movePart f_moveFirst f_moveThen f_moveOther a_out f_outMany a_kept), (a_all, aI G 1276 g_all), (a_text, aB G 2000 g_text)] H locs → lv_has ls 5 [(0, .ref h0)] → R_type_107 N f_raised g_all g_text = some res → W p l e (rmk 0) s m args below meth c H locs 0 0 Q (F0 m 107 ls []) := by
    intro f_raised g_all g_text H locs ls wq hl hf
    obtain ⟨hP, hD, hS⟩ := wq
    refine lv_aload_n hx hb d_R_type_107 rfl (lv_at hl 0 rfl) ?_
    refine va_get (D := G.1) (ci := 12) (v := .ref a_all) (C := n_R) (T := T_R) (N := 44) hx hb htl iw_R hown hK hP 0 rfl rfl 1 (by decide) (htl _ k_1197) (fun _ h9 => h9) rfl d_R_type_108 ?_
    refine lv_sipush (v := (316 : Int32)) hx hb d_R_type_111 (by decide) ?_
    refine va_iald hx hb hK hP 1 1 rfl rfl (vp_lit (by decide)) d_R_type_114 ?_
    cases hf
    exact hret 115 ls H locs hP hS d_R_type_115
  have hJ58 : ∀ (f_raised : Int32) (g_all : Nat → Int32) (g_text : Nat → Int32) (x3 : Int32) (x4 : Int32) (H : Heap) (locs : List Loc) (ls : Array Slot), PDS G.1 classes A s [(h0, O_R f_raised a_all a_text a_saved a_undone f_undos f_reached f_length f_begin f_sort f_sign f_value f_word f_wrongAt f_badAt f_bad a_told f_read f_side a_pile f_piled a_open f_opened f_joins f_had a_size a_capped a_connected a_bestCost a_bestCrosses a_bestPart a_part a_trees f_treeMany a_nodes f_nodeMany f_moveNode f_movePart f_moveFirst f_moveThen f_moveOther a_out f_outMany a_kept), (a_all, aI G 1276 g_all), (a_text, aB G 2000 g_text)] H locs → lv_has ls 5 [(0, .ref h0), (1, .long x1), (3, .int x3), (4, .int x4)] → R_type_58 N f_raised g_all g_text x1 x3 x4 = some res → W p l e (rmk 0) s m args below meth c H locs 0 0 Q (F0 m 58 ls []) := by
    intro f_raised g_all g_text x3 x4 H locs ls wq hl hf
    obtain ⟨hP, hD, hS⟩ := wq
    obtain ⟨y58, hy58, hfo58⟩ := db_e hf
    have hL58 : ∀ (n : Nat) (g_all : Nat → Int32) (g_text : Nat → Int32) (x4 : Int32) (H : Heap) (locs : List Loc) (ls : Array Slot), lp (fun x => R_type_b58 N f_raised x.1 x.2.1 x1 x3 x.2.2) n (g_all, g_text, x4) = some y58 → PDS G.1 classes A s [(h0, O_R f_raised a_all a_text a_saved a_undone f_undos f_reached f_length f_begin f_sort f_sign f_value f_word f_wrongAt f_badAt f_bad a_told f_read f_side a_pile f_piled a_open f_opened f_joins f_had a_size a_capped a_connected a_bestCost a_bestCrosses a_bestPart a_part a_trees f_treeMany a_nodes f_nodeMany f_moveNode f_movePart f_moveFirst f_moveThen f_moveOther a_out f_outMany a_kept), (a_all, aI G 1276 g_all), (a_text, aB G 2000 g_text)] H locs → lv_has ls 5 [(0, .ref h0), (1, .long x1), (3, .int x3), (4, .int x4)] → W p l e (rmk 0) s m args below meth c H locs 0 0 Q (F0 m 58 ls []) := by
      intro n
      induction n with
      | zero =>
        intro g_all g_text x4 H locs ls hf
        exact lp_0 hf
      | succ n ih58 =>
        intro g_all g_text x4 H locs ls hf wq hl
        obtain ⟨hP, hD, hS⟩ := wq
        obtain ⟨r58, hf, hk58⟩ := lp_s hf
        have hf : R_type_b58 N f_raised g_all g_text x1 x3 x4 = some r58 := hf
        refine lv_iload hx hb d_R_type_58 (lv_at hl 3 rfl) ?_
        refine lv_iload_n hx hb d_R_type_60 rfl (lv_at hl 2 rfl) ?_
        refine lv_icmp_ge (tgt := 107) hx hb d_R_type_61 (by decide) (fun c5 => ?_) (fun c5 => ?_)
        · have hf := di_t c5 hf
          have hq58 := lpk_x hf hk58
          have hf := ex_y (f := fun y => R_type_a58 N f_raised x1 x3 y) hq58 hfo58
          have hf : R_type_107 N f_raised g_all g_text = some res := hf
          exact hJ107 f_raised g_all g_text H locs ls ⟨hP, hD, hS⟩ (lv_sub hl [0] rfl) hf
        · have hf := di_f c5 hf
          refine lv_aload_n hx hb d_R_type_64 rfl (lv_at hl 0 rfl) ?_
          refine va_get (D := G.1) (ci := 12) (v := .ref a_text) (C := n_R) (T := T_R) (N := 44) hx hb htl iw_R hown hK hP 0 rfl rfl 2 (by decide) (htl _ k_1198) (fun _ h9 => h9) rfl d_R_type_65 ?_
          refine lv_aload_n hx hb d_R_type_68 rfl (lv_at hl 0 rfl) ?_
          refine va_get (D := G.1) (ci := 12) (v := .ref a_all) (C := n_R) (T := T_R) (N := 44) hx hb htl iw_R hown hK hP 0 rfl rfl 1 (by decide) (htl _ k_1197) (fun _ h9 => h9) rfl d_R_type_69 ?_
          refine lv_sipush (v := (316 : Int32)) hx hb d_R_type_72 (by decide) ?_
          refine va_iald hx hb hK hP 1 1 rfl rfl (vp_lit (by decide)) d_R_type_75 ?_
          refine lv_lload_n hx hb d_R_type_76 rfl (lv_at hl 1 rfl) ?_
          refine lv_bipush (v := (56 : Int32)) hx hb d_R_type_77 (by decide) ?_
          refine lv_bipush (v := (8 : Int32)) hx hb d_R_type_79 (by decide) ?_
          refine lv_iload hx hb d_R_type_81 (lv_at hl 3 rfl) ?_
          refine lv_imul hx hb d_R_type_83 ?_
          refine lv_isub hx hb d_R_type_84 ?_
          refine lv_lshr hx hb d_R_type_85 rfl ?_
          refine lv_l2i hx hb d_R_type_86 rfl ?_
          refine lv_i2b hx hb d_R_type_87 rfl ?_
          obtain ⟨c6, hf⟩ := dk_e hf
          refine nx_bast hx hb hK hP hD hS 2 0 rfl rfl c6 d_R_type_88 (fun v7 ev7 H locs hP hD hS => ?_)
          have hf := dn_e ev7 hf
          have hP : va_P G.1 classes [(h0, O_R f_raised a_all a_text a_saved a_undone f_undos f_reached f_length f_begin f_sort f_sign f_value f_word f_wrongAt f_badAt f_bad a_told f_read f_side a_pile f_piled a_open f_opened f_joins f_had a_size a_capped a_connected a_bestCost a_bestCrosses a_bestPart a_part a_trees f_treeMany a_nodes f_nodeMany f_moveNode f_movePart f_moveFirst f_moveThen f_moveOther a_out f_outMany a_kept), (a_all, aI G 1276 g_all), (a_text, aB G 2000 v7)] H := hP
          have hD : va_D A [(h0, O_R f_raised a_all a_text a_saved a_undone f_undos f_reached f_length f_begin f_sort f_sign f_value f_word f_wrongAt f_badAt f_bad a_told f_read f_side a_pile f_piled a_open f_opened f_joins f_had a_size a_capped a_connected a_bestCost a_bestCrosses a_bestPart a_part a_trees f_treeMany a_nodes f_nodeMany f_moveNode f_movePart f_moveFirst f_moveThen f_moveOther a_out f_outMany a_kept), (a_all, aI G 1276 g_all), (a_text, aB G 2000 v7)] := hD
          refine lv_aload_n hx hb d_R_type_89 rfl (lv_at hl 0 rfl) ?_
          refine va_get (D := G.1) (ci := 12) (v := .ref a_all) (C := n_R) (T := T_R) (N := 44) hx hb htl iw_R hown hK hP 0 rfl rfl 1 (by decide) (htl _ k_1197) (fun _ h9 => h9) rfl d_R_type_90 ?_
          refine lv_sipush (v := (316 : Int32)) hx hb d_R_type_93 (by decide) ?_
          refine lv_dup2_11 hx hb d_R_type_96 rfl rfl ?_
          refine va_iald hx hb hK hP 1 1 rfl rfl (vp_lit (by decide)) d_R_type_97 ?_
          refine lv_iconst (v := (1 : Int32)) hx hb d_R_type_98 (by decide) ?_
          refine lv_iadd hx hb d_R_type_99 ?_
          refine nx_iast hx hb hK hP hD hS 1 1 rfl rfl (vp_lit (by decide)) d_R_type_100 (fun v8 ev8 H locs hP hD hS => ?_)
          have hf := dn_e ev8 hf
          have hP : va_P G.1 classes [(h0, O_R f_raised a_all a_text a_saved a_undone f_undos f_reached f_length f_begin f_sort f_sign f_value f_word f_wrongAt f_badAt f_bad a_told f_read f_side a_pile f_piled a_open f_opened f_joins f_had a_size a_capped a_connected a_bestCost a_bestCrosses a_bestPart a_part a_trees f_treeMany a_nodes f_nodeMany f_moveNode f_movePart f_moveFirst f_moveThen f_moveOther a_out f_outMany a_kept), (a_all, aI G 1276 v8), (a_text, aB G 2000 v7)] H := hP
          have hD : va_D A [(h0, O_R f_raised a_all a_text a_saved a_undone f_undos f_reached f_length f_begin f_sort f_sign f_value f_word f_wrongAt f_badAt f_bad a_told f_read f_side a_pile f_piled a_open f_opened f_joins f_had a_size a_capped a_connected a_bestCost a_bestCrosses a_bestPart a_part a_trees f_treeMany a_nodes f_nodeMany f_moveNode f_movePart f_moveFirst f_moveThen f_moveOther a_out f_outMany a_kept), (a_all, aI G 1276 v8), (a_text, aB G 2000 v7)] := hD
          obtain ⟨v9, ev9⟩ : ∃ z : Int32, z = x4 + (1 : Int32) := ⟨_, rfl⟩
          have hf := dn_e ev9 hf
          refine lv_iinc (v := v9) (lv' := [(4, .int v9), (0, .ref h0), (1, .long x1), (3, .int x3)]) hx hb d_R_type_101 hl (k := 3) rfl (by rw [ev9]; rfl) (by decide) rfl (fun ls hl => ?_)
          refine lv_goto (tgt := 58) hx hb d_R_type_104 (by decide) ?_
          exact ih58 v8 v7 v9 H locs ls (lpk_i hf hk58) ⟨hP, hD, hS⟩ (lv_sub hl [1, 2, 3, 0] rfl)
    exact hL58 N g_all g_text x4 H locs ls hy58 ⟨hP, hD, hS⟩ hl
  have hJ37 : ∀ (f_raised : Int32) (g_all : Nat → Int32) (g_text : Nat → Int32) (x3 : Int32) (H : Heap) (locs : List Loc) (ls : Array Slot), PDS G.1 classes A s [(h0, O_R f_raised a_all a_text a_saved a_undone f_undos f_reached f_length f_begin f_sort f_sign f_value f_word f_wrongAt f_badAt f_bad a_told f_read f_side a_pile f_piled a_open f_opened f_joins f_had a_size a_capped a_connected a_bestCost a_bestCrosses a_bestPart a_part a_trees f_treeMany a_nodes f_nodeMany f_moveNode f_movePart f_moveFirst f_moveThen f_moveOther a_out f_outMany a_kept), (a_all, aI G 1276 g_all), (a_text, aB G 2000 g_text)] H locs → lv_has ls 5 [(0, .ref h0), (1, .long x1), (3, .int x3)] → R_type_37 N f_raised g_all g_text x1 x3 = some res → W p l e (rmk 0) s m args below meth c H locs 0 0 Q (F0 m 37 ls []) := by
    intro f_raised g_all g_text x3 H locs ls wq hl hf
    obtain ⟨hP, hD, hS⟩ := wq
    refine lv_aload_n hx hb d_R_type_37 rfl (lv_at hl 0 rfl) ?_
    refine va_get (D := G.1) (ci := 12) (v := .ref a_all) (C := n_R) (T := T_R) (N := 44) hx hb htl iw_R hown hK hP 0 rfl rfl 1 (by decide) (htl _ k_1197) (fun _ h9 => h9) rfl d_R_type_38 ?_
    refine lv_sipush (v := (316 : Int32)) hx hb d_R_type_41 (by decide) ?_
    refine va_iald hx hb hK hP 1 1 rfl rfl (vp_lit (by decide)) d_R_type_44 ?_
    refine lv_iload_n hx hb d_R_type_45 rfl (lv_at hl 2 rfl) ?_
    refine lv_iadd hx hb d_R_type_46 ?_
    refine lv_sipush (v := (500 : Int32)) hx hb d_R_type_47 (by decide) ?_
    refine lv_icmp_le (tgt := 55) hx hb d_R_type_50 (by decide) (fun c4 => ?_) (fun c4 => ?_)
    · have hf := di_t c4 hf
      refine lv_iconst (v := (0 : Int32)) hx hb d_R_type_55 (by decide) ?_
      refine lv_istore (lv' := [(4, .int (0 : Int32)), (0, .ref h0), (1, .long x1), (3, .int x3)]) hx hb d_R_type_56 hl (by decide) rfl (fun ls hl => ?_)
      exact hJ58 f_raised g_all g_text x3 (0 : Int32) H locs ls ⟨hP, hD, hS⟩ (lv_sub hl [1, 2, 3, 0] rfl) hf
    · have hf := di_f c4 hf
      refine lv_iconst (v := (-1 : Int32)) hx hb d_R_type_53 (by decide) ?_
      cases hf
      exact hret 54 ls H locs hP hS d_R_type_54
  have hJ7 : ∀ (f_raised : Int32) (g_all : Nat → Int32) (g_text : Nat → Int32) (x3 : Int32) (H : Heap) (locs : List Loc) (ls : Array Slot), PDS G.1 classes A s [(h0, O_R f_raised a_all a_text a_saved a_undone f_undos f_reached f_length f_begin f_sort f_sign f_value f_word f_wrongAt f_badAt f_bad a_told f_read f_side a_pile f_piled a_open f_opened f_joins f_had a_size a_capped a_connected a_bestCost a_bestCrosses a_bestPart a_part a_trees f_treeMany a_nodes f_nodeMany f_moveNode f_movePart f_moveFirst f_moveThen f_moveOther a_out f_outMany a_kept), (a_all, aI G 1276 g_all), (a_text, aB G 2000 g_text)] H locs → lv_has ls 5 [(0, .ref h0), (1, .long x1), (3, .int x3)] → R_type_7 N f_raised g_all g_text x1 x3 = some res → W p l e (rmk 0) s m args below meth c H locs 0 0 Q (F0 m 7 ls []) := by
    intro f_raised g_all g_text x3 H locs ls wq hl hf
    obtain ⟨hP, hD, hS⟩ := wq
    obtain ⟨y7, hy7, hfo7⟩ := db_e hf
    have hL7 : ∀ (n : Nat) (x3 : Int32) (H : Heap) (locs : List Loc) (ls : Array Slot), lp (fun x => R_type_b7 N f_raised g_all g_text x1 x) n x3 = some y7 → PDS G.1 classes A s [(h0, O_R f_raised a_all a_text a_saved a_undone f_undos f_reached f_length f_begin f_sort f_sign f_value f_word f_wrongAt f_badAt f_bad a_told f_read f_side a_pile f_piled a_open f_opened f_joins f_had a_size a_capped a_connected a_bestCost a_bestCrosses a_bestPart a_part a_trees f_treeMany a_nodes f_nodeMany f_moveNode f_movePart f_moveFirst f_moveThen f_moveOther a_out f_outMany a_kept), (a_all, aI G 1276 g_all), (a_text, aB G 2000 g_text)] H locs → lv_has ls 5 [(0, .ref h0), (1, .long x1), (3, .int x3)] → W p l e (rmk 0) s m args below meth c H locs 0 0 Q (F0 m 7 ls []) := by
      intro n
      induction n with
      | zero =>
        intro x3 H locs ls hf
        exact lp_0 hf
      | succ n ih7 =>
        intro x3 H locs ls hf wq hl
        obtain ⟨hP, hD, hS⟩ := wq
        obtain ⟨r7, hf, hk7⟩ := lp_s hf
        have hf : R_type_b7 N f_raised g_all g_text x1 x3 = some r7 := hf
        refine lv_iload_n hx hb d_R_type_7 rfl (lv_at hl 2 rfl) ?_
        refine lv_bipush (v := (8 : Int32)) hx hb d_R_type_8 (by decide) ?_
        refine lv_icmp_ge (tgt := 37) hx hb d_R_type_10 (by decide) (fun c1 => ?_) (fun c1 => ?_)
        · have hf := di_t c1 hf
          have hq7 := lpk_x hf hk7
          have hf := ex_y (f := fun y => R_type_a7 N f_raised g_all g_text x1 y) hq7 hfo7
          have hf : R_type_37 N f_raised g_all g_text x1 x3 = some res := hf
          exact hJ37 f_raised g_all g_text x3 H locs ls ⟨hP, hD, hS⟩ (lv_sub hl [0, 1, 2] rfl) hf
        · have hf := di_f c1 hf
          refine lv_lload_n hx hb d_R_type_13 rfl (lv_at hl 1 rfl) ?_
          refine lv_bipush (v := (56 : Int32)) hx hb d_R_type_14 (by decide) ?_
          refine lv_bipush (v := (8 : Int32)) hx hb d_R_type_16 (by decide) ?_
          refine lv_iload_n hx hb d_R_type_18 rfl (lv_at hl 2 rfl) ?_
          refine lv_imul hx hb d_R_type_19 ?_
          refine lv_isub hx hb d_R_type_20 ?_
          refine lv_lshr hx hb d_R_type_21 rfl ?_
          refine lv_ldc2 (v := (255 : Int64)) hx hb hown (htl _ k_1337) d_R_type_22 ?_
          refine lv_land hx hb d_R_type_25 ?_
          refine lv_lconst (v := (0 : Int64)) hx hb d_R_type_26 (by decide) ?_
          refine lx_eq (tgt := 37) hx hb d_R_type_27 d_R_type_28 (by decide) (fun c2 => ?_) (fun c2 => ?_)
          · have hf := di_t c2 hf
            have hq7 := lpk_x hf hk7
            have hf := ex_y (f := fun y => R_type_a7 N f_raised g_all g_text x1 y) hq7 hfo7
            have hf : R_type_37 N f_raised g_all g_text x1 x3 = some res := hf
            exact hJ37 f_raised g_all g_text x3 H locs ls ⟨hP, hD, hS⟩ (lv_sub hl [0, 1, 2] rfl) hf
          · have hf := di_f c2 hf
            obtain ⟨v3, ev3⟩ : ∃ z : Int32, z = x3 + (1 : Int32) := ⟨_, rfl⟩
            have hf := dn_e ev3 hf
            refine lv_iinc (v := v3) (lv' := [(3, .int v3), (0, .ref h0), (1, .long x1)]) hx hb d_R_type_31 hl (k := 2) rfl (by rw [ev3]; rfl) (by decide) rfl (fun ls hl => ?_)
            refine lv_goto (tgt := 7) hx hb d_R_type_34 (by decide) ?_
            exact ih7 v3 H locs ls (lpk_i hf hk7) ⟨hP, hD, hS⟩ (lv_sub hl [1, 2, 0] rfl)
    exact hL7 N x3 H locs ls hy7 ⟨hP, hD, hS⟩ hl
  refine lv_aload_n hx hb d_R_type_0 rfl (lv_at hl 0 rfl) ?_
  refine lv_iconst (v := (0 : Int32)) hx hb d_R_type_1 (by decide) ?_
  refine va_put (D := G.1) (ci := 12) (v := .int (0 : Int32)) (ty := .int) (C := n_R) (T := T_R) (N := 44) hx hb htl iw_R ty_R ty_R_ok nm_R hown hK hP hD hS 0 rfl rfl 0 (by decide) (htl _ k_1196) (fun _ h9 => h9) rfl (by decide +kernel) rfl rfl (Nat.le_of_ble_eq_true rfl) d_R_type_2 (fun H locs hP hD hS => ?_)
  have hP : va_P G.1 classes [(h0, O_R (0 : Int32) a_all a_text a_saved a_undone f_undos f_reached f_length f_begin f_sort f_sign f_value f_word f_wrongAt f_badAt f_bad a_told f_read f_side a_pile f_piled a_open f_opened f_joins f_had a_size a_capped a_connected a_bestCost a_bestCrosses a_bestPart a_part a_trees f_treeMany a_nodes f_nodeMany f_moveNode f_movePart f_moveFirst f_moveThen f_moveOther a_out f_outMany a_kept), (a_all, aI G 1276 g_all), (a_text, aB G 2000 g_text)] H := hP
  have hD : va_D A [(h0, O_R (0 : Int32) a_all a_text a_saved a_undone f_undos f_reached f_length f_begin f_sort f_sign f_value f_word f_wrongAt f_badAt f_bad a_told f_read f_side a_pile f_piled a_open f_opened f_joins f_had a_size a_capped a_connected a_bestCost a_bestCrosses a_bestPart a_part a_trees f_treeMany a_nodes f_nodeMany f_moveNode f_movePart f_moveFirst f_moveThen f_moveOther a_out f_outMany a_kept), (a_all, aI G 1276 g_all), (a_text, aB G 2000 g_text)] := hD
  refine lv_iconst (v := (0 : Int32)) hx hb d_R_type_5 (by decide) ?_
  refine lv_istore_n (lv' := [(3, .int (0 : Int32)), (0, .ref h0), (1, .long x1)]) hx hb d_R_type_6 rfl hl (by decide) rfl (fun ls hl => ?_)
  exact hJ7 (0 : Int32) g_all g_text (0 : Int32) H locs ls ⟨hP, hD, hS⟩ (lv_sub hl [1, 2, 0] rfl) hf
set_option maxHeartbeats 4000000 in
set_option maxRecDepth 100000 in
theorem c_R_see (l : Launch) (G : va_G × (Nat → ClassId)) (Y : (Nat → Nat) × (Nat → Nat)) (h0 : Nat) (a_all : Nat) (a_text : Nat) (a_saved : Nat) (a_undone : Nat) (a_told : Nat) (a_pile : Nat) (a_open : Nat) (a_size : Nat) (a_capped : Nat) (a_connected : Nat) (a_bestCost : Nat) (a_bestCrosses : Nat) (a_bestPart : Nat) (a_part : Nat) (a_trees : Nat) (a_nodes : Nat) (a_out : Nat) (a_kept : Nat) (f_raised : Int32) (f_undos : Int32) (f_reached : Int32) (f_length : Int32) (f_begin : Int32) (f_sort : Int32) (f_sign : Int32) (f_value : Int32) (f_word : Int64) (f_wrongAt : Int32) (f_badAt : Int32) (f_bad : Int32) (f_read : Int32) (f_side : Int32) (f_piled : Int32) (f_opened : Int32) (f_joins : Int32) (f_had : Int32) (f_treeMany : Int32) (f_nodeMany : Int32) (f_moveNode : Int32) (f_movePart : Int32) (f_moveFirst : Int32) (f_moveThen : Int32) (f_moveOther : Int32) (f_outMany : Int32) (g_text : Nat → Int32) (res : Int32) (hf : R_see f_reached f_length g_text = some res) : Ci l classes y_R_see b_R_see 1 (some .int) (rmk 0) G.1 (tyL G) Y [.ref h0] [(h0, O_R f_raised a_all a_text a_saved a_undone f_undos f_reached f_length f_begin f_sort f_sign f_value f_word f_wrongAt f_badAt f_bad a_told f_read f_side a_pile f_piled a_open f_opened f_joins f_had a_size a_capped a_connected a_bestCost a_bestCrosses a_bestPart a_part a_trees f_treeMany a_nodes f_nodeMany f_moveNode f_movePart f_moveFirst f_moveThen f_moveOther a_out f_outMany a_kept), (a_text, aB G 2000 g_text)] [(h0, O_R f_raised a_all a_text a_saved a_undone f_undos f_reached f_length f_begin f_sort f_sign f_value f_word f_wrongAt f_badAt f_bad a_told f_read f_side a_pile f_piled a_open f_opened f_joins f_had a_size a_capped a_connected a_bestCost a_bestCrosses a_bestPart a_part a_trees f_treeMany a_nodes f_nodeMany f_moveNode f_movePart f_moveFirst f_moveThen f_moveOther a_out f_outMany a_kept), (a_text, aB G 2000 g_text)] res := by
  refine entI (by decide) (Nat.le_of_ble_eq_true rfl) ?_
  intro p e s m args below meth c ls A Q hx hb hml hown htl hK hsk wq hl hret
  obtain ⟨hP, hD, hS⟩ := wq
  have hl : lv_has ls 1 [(0, .ref h0)] := hl
  have hS : va_S A s.heap s.heap [] := hS
  obtain ⟨H, hH⟩ : ∃ H : Heap, H = s.heap := ⟨_, rfl⟩
  obtain ⟨locs, hlocs⟩ : ∃ z : List Loc, z = [] := ⟨_, rfl⟩
  rw [← hH] at hP
  replace hS : va_S A s.heap H locs := by rw [hH, hlocs]; exact hS
  suffices hgo : W p l e (rmk 0) s m args below meth c H locs 0 0 Q (F0 m 0 ls []) by rw [hH, hlocs] at hgo; exact hgo
  refine lv_aload_n hx hb d_R_see_0 rfl (lv_at hl 0 rfl) ?_
  refine va_get (D := G.1) (ci := 12) (v := .int f_reached) (C := n_R) (T := T_R) (N := 44) hx hb htl iw_R hown hK hP 0 rfl rfl 6 (by decide) (htl _ k_1202) (fun _ h9 => h9) rfl d_R_see_1 ?_
  refine lv_aload_n hx hb d_R_see_4 rfl (lv_at hl 0 rfl) ?_
  refine va_get (D := G.1) (ci := 12) (v := .int f_length) (C := n_R) (T := T_R) (N := 44) hx hb htl iw_R hown hK hP 0 rfl rfl 7 (by decide) (htl _ k_1203) (fun _ h9 => h9) rfl d_R_see_5 ?_
  refine lv_icmp_ge (tgt := 27) hx hb d_R_see_8 (by decide) (fun c1 => ?_) (fun c1 => ?_)
  · have hf := di_t c1 hf
    refine lv_iconst (v := (-1 : Int32)) hx hb d_R_see_27 (by decide) ?_
    cases hf
    exact hret 28 ls H locs hP hS d_R_see_28
  · have hf := di_f c1 hf
    refine lv_aload_n hx hb d_R_see_11 rfl (lv_at hl 0 rfl) ?_
    refine va_get (D := G.1) (ci := 12) (v := .ref a_text) (C := n_R) (T := T_R) (N := 44) hx hb htl iw_R hown hK hP 0 rfl rfl 2 (by decide) (htl _ k_1198) (fun _ h9 => h9) rfl d_R_see_12 ?_
    refine lv_aload_n hx hb d_R_see_15 rfl (lv_at hl 0 rfl) ?_
    refine va_get (D := G.1) (ci := 12) (v := .int f_reached) (C := n_R) (T := T_R) (N := 44) hx hb htl iw_R hown hK hP 0 rfl rfl 6 (by decide) (htl _ k_1202) (fun _ h9 => h9) rfl d_R_see_16 ?_
    obtain ⟨c2, hf⟩ := dk_e hf
    refine va_bald hx hb hK hP 1 0 rfl rfl c2 d_R_see_19 ?_
    refine lv_sipush (v := (255 : Int32)) hx hb d_R_see_20 (by decide) ?_
    refine lv_iand hx hb d_R_see_23 ?_
    refine lv_goto (tgt := 28) hx hb d_R_see_24 (by decide) ?_
    cases hf
    exact hret 28 ls H locs hP hS d_R_see_28
set_option maxHeartbeats 4000000 in
set_option maxRecDepth 100000 in
theorem c_R_token (l : Launch) (G : va_G × (Nat → ClassId)) (Y : (Nat → Nat) × (Nat → Nat)) (h0 : Nat) (a_all : Nat) (a_text : Nat) (a_saved : Nat) (a_undone : Nat) (a_told : Nat) (a_pile : Nat) (a_open : Nat) (a_size : Nat) (a_capped : Nat) (a_connected : Nat) (a_bestCost : Nat) (a_bestCrosses : Nat) (a_bestPart : Nat) (a_part : Nat) (a_trees : Nat) (a_nodes : Nat) (a_out : Nat) (a_kept : Nat) (f_raised : Int32) (f_undos : Int32) (f_reached : Int32) (f_length : Int32) (f_begin : Int32) (f_sort : Int32) (f_sign : Int32) (f_value : Int32) (f_word : Int64) (f_wrongAt : Int32) (f_badAt : Int32) (f_bad : Int32) (f_read : Int32) (f_side : Int32) (f_piled : Int32) (f_opened : Int32) (f_joins : Int32) (f_had : Int32) (f_treeMany : Int32) (f_nodeMany : Int32) (f_moveNode : Int32) (f_movePart : Int32) (f_moveFirst : Int32) (f_moveThen : Int32) (f_moveOther : Int32) (f_outMany : Int32) (g_text : Nat → Int32) (N : Nat) (res : Int32 × Int32 × Int32 × Int32 × Int32 × Int64) (hf : R_token N f_reached f_length f_begin f_sort f_sign f_value f_word g_text = some res) : Cv l classes y_R_token b_R_token 3 none (rmk 1) G.1 (tyL G) Y [.ref h0] [(h0, O_R f_raised a_all a_text a_saved a_undone f_undos f_reached f_length f_begin f_sort f_sign f_value f_word f_wrongAt f_badAt f_bad a_told f_read f_side a_pile f_piled a_open f_opened f_joins f_had a_size a_capped a_connected a_bestCost a_bestCrosses a_bestPart a_part a_trees f_treeMany a_nodes f_nodeMany f_moveNode f_movePart f_moveFirst f_moveThen f_moveOther a_out f_outMany a_kept), (a_text, aB G 2000 g_text)] [(h0, O_R f_raised a_all a_text a_saved a_undone f_undos res.1 f_length res.2.1 res.2.2.1 res.2.2.2.1 res.2.2.2.2.1 res.2.2.2.2.2 f_wrongAt f_badAt f_bad a_told f_read f_side a_pile f_piled a_open f_opened f_joins f_had a_size a_capped a_connected a_bestCost a_bestCrosses a_bestPart a_part a_trees f_treeMany a_nodes f_nodeMany f_moveNode f_movePart f_moveFirst f_moveThen f_moveOther a_out f_outMany a_kept), (a_text, aB G 2000 g_text)] := by
  refine entV (by decide) (Nat.le_of_ble_eq_true rfl) ?_
  intro p e s m args below meth c ls A Q hx hb hml hown htl hK hsk wq hl hret
  obtain ⟨hP, hD, hS⟩ := wq
  have hl : lv_has ls 3 [(0, .ref h0)] := hl
  have hS : va_S A s.heap s.heap [] := hS
  obtain ⟨H, hH⟩ : ∃ H : Heap, H = s.heap := ⟨_, rfl⟩
  obtain ⟨locs, hlocs⟩ : ∃ z : List Loc, z = [] := ⟨_, rfl⟩
  rw [← hH] at hP
  replace hS : va_S A s.heap H locs := by rw [hH, hlocs]; exact hS
  suffices hgo : W p l e (rmk 1) s m args below meth c H locs 0 0 Q (F0 m 0 ls []) by rw [hH, hlocs] at hgo; exact hgo
  have hJ305 : ∀ (f_reached : Int32) (f_begin : Int32) (f_sort : Int32) (f_sign : Int32) (f_value : Int32) (f_word : Int64) (z1 : Int32) (H : Heap) (locs : List Loc) (ls : Array Slot), PDS G.1 classes A s [(h0, O_R f_raised a_all a_text a_saved a_undone f_undos f_reached f_length f_begin f_sort f_sign f_value f_word f_wrongAt f_badAt f_bad a_told f_read f_side a_pile f_piled a_open f_opened f_joins f_had a_size a_capped a_connected a_bestCost a_bestCrosses a_bestPart a_part a_trees f_treeMany a_nodes f_nodeMany f_moveNode f_movePart f_moveFirst f_moveThen f_moveOther a_out f_outMany a_kept), (a_text, aB G 2000 g_text)] H locs → lv_has ls 3 [] → R_token_305 N f_reached f_length f_begin f_sort f_sign f_value f_word g_text z1 = some res → W p l e (rmk 1) s m args below meth c H locs 0 0 Q (F0 m 305 ls [.int z1, .ref h0]) := by
    intro f_reached f_begin f_sort f_sign f_value f_word z1 H locs ls wq hl hf
    obtain ⟨hP, hD, hS⟩ := wq
    refine va_put (D := G.1) (ci := 12) (v := .int z1) (ty := .int) (C := n_R) (T := T_R) (N := 44) hx hb htl iw_R ty_R ty_R_ok nm_R hown hK hP hD hS 0 rfl rfl 9 (by decide) (htl _ k_1205) (fun _ h9 => h9) rfl (by decide +kernel) rfl rfl (Nat.le_of_ble_eq_true rfl) d_R_token_305 (fun H locs hP hD hS => ?_)
    have hP : va_P G.1 classes [(h0, O_R f_raised a_all a_text a_saved a_undone f_undos f_reached f_length f_begin z1 f_sign f_value f_word f_wrongAt f_badAt f_bad a_told f_read f_side a_pile f_piled a_open f_opened f_joins f_had a_size a_capped a_connected a_bestCost a_bestCrosses a_bestPart a_part a_trees f_treeMany a_nodes f_nodeMany f_moveNode f_movePart f_moveFirst f_moveThen f_moveOther a_out f_outMany a_kept), (a_text, aB G 2000 g_text)] H := hP
    have hD : va_D A [(h0, O_R f_raised a_all a_text a_saved a_undone f_undos f_reached f_length f_begin z1 f_sign f_value f_word f_wrongAt f_badAt f_bad a_told f_read f_side a_pile f_piled a_open f_opened f_joins f_had a_size a_capped a_connected a_bestCost a_bestCrosses a_bestPart a_part a_trees f_treeMany a_nodes f_nodeMany f_moveNode f_movePart f_moveFirst f_moveThen f_moveOther a_out f_outMany a_kept), (a_text, aB G 2000 g_text)] := hD
    cases hf
    exact hret 308 ls H locs hP hS d_R_token_308
  have hJ300 : ∀ (f_reached : Int32) (f_begin : Int32) (f_sort : Int32) (f_sign : Int32) (f_value : Int32) (f_word : Int64) (H : Heap) (locs : List Loc) (ls : Array Slot), PDS G.1 classes A s [(h0, O_R f_raised a_all a_text a_saved a_undone f_undos f_reached f_length f_begin f_sort f_sign f_value f_word f_wrongAt f_badAt f_bad a_told f_read f_side a_pile f_piled a_open f_opened f_joins f_had a_size a_capped a_connected a_bestCost a_bestCrosses a_bestPart a_part a_trees f_treeMany a_nodes f_nodeMany f_moveNode f_movePart f_moveFirst f_moveThen f_moveOther a_out f_outMany a_kept), (a_text, aB G 2000 g_text)] H locs → lv_has ls 3 [] → R_token_300 N f_reached f_length f_begin f_sort f_sign f_value f_word g_text = some res → W p l e (rmk 1) s m args below meth c H locs 0 0 Q (F0 m 300 ls [.ref h0]) := by
    intro f_reached f_begin f_sort f_sign f_value f_word H locs ls wq hl hf
    obtain ⟨hP, hD, hS⟩ := wq
    refine lv_iconst (v := (4 : Int32)) hx hb d_R_token_300 (by decide) ?_
    refine lv_goto (tgt := 305) hx hb d_R_token_301 (by decide) ?_
    exact hJ305 f_reached f_begin f_sort f_sign f_value f_word (4 : Int32) H locs ls ⟨hP, hD, hS⟩ (lv_sub hl [] rfl) hf
  have hJ254 : ∀ (f_reached : Int32) (f_begin : Int32) (f_sort : Int32) (f_sign : Int32) (f_value : Int32) (f_word : Int64) (z1 : Int32) (H : Heap) (locs : List Loc) (ls : Array Slot), PDS G.1 classes A s [(h0, O_R f_raised a_all a_text a_saved a_undone f_undos f_reached f_length f_begin f_sort f_sign f_value f_word f_wrongAt f_badAt f_bad a_told f_read f_side a_pile f_piled a_open f_opened f_joins f_had a_size a_capped a_connected a_bestCost a_bestCrosses a_bestPart a_part a_trees f_treeMany a_nodes f_nodeMany f_moveNode f_movePart f_moveFirst f_moveThen f_moveOther a_out f_outMany a_kept), (a_text, aB G 2000 g_text)] H locs → lv_has ls 3 [] → R_token_254 N f_reached f_length f_begin f_sort f_sign f_value f_word g_text z1 = some res → W p l e (rmk 1) s m args below meth c H locs 0 0 Q (F0 m 254 ls [.int z1, .ref h0]) := by
    intro f_reached f_begin f_sort f_sign f_value f_word z1 H locs ls wq hl hf
    obtain ⟨hP, hD, hS⟩ := wq
    refine va_put (D := G.1) (ci := 12) (v := .int z1) (ty := .int) (C := n_R) (T := T_R) (N := 44) hx hb htl iw_R ty_R ty_R_ok nm_R hown hK hP hD hS 0 rfl rfl 9 (by decide) (htl _ k_1205) (fun _ h9 => h9) rfl (by decide +kernel) rfl rfl (Nat.le_of_ble_eq_true rfl) d_R_token_254 (fun H locs hP hD hS => ?_)
    have hP : va_P G.1 classes [(h0, O_R f_raised a_all a_text a_saved a_undone f_undos f_reached f_length f_begin z1 f_sign f_value f_word f_wrongAt f_badAt f_bad a_told f_read f_side a_pile f_piled a_open f_opened f_joins f_had a_size a_capped a_connected a_bestCost a_bestCrosses a_bestPart a_part a_trees f_treeMany a_nodes f_nodeMany f_moveNode f_movePart f_moveFirst f_moveThen f_moveOther a_out f_outMany a_kept), (a_text, aB G 2000 g_text)] H := hP
    have hD : va_D A [(h0, O_R f_raised a_all a_text a_saved a_undone f_undos f_reached f_length f_begin z1 f_sign f_value f_word f_wrongAt f_badAt f_bad a_told f_read f_side a_pile f_piled a_open f_opened f_joins f_had a_size a_capped a_connected a_bestCost a_bestCrosses a_bestPart a_part a_trees f_treeMany a_nodes f_nodeMany f_moveNode f_movePart f_moveFirst f_moveThen f_moveOther a_out f_outMany a_kept), (a_text, aB G 2000 g_text)] := hD
    refine lv_goto (tgt := 308) hx hb d_R_token_257 (by decide) ?_
    cases hf
    exact hret 308 ls H locs hP hS d_R_token_308
  have hJ242 : ∀ (f_reached : Int32) (f_begin : Int32) (f_sort : Int32) (f_sign : Int32) (f_value : Int32) (f_word : Int64) (x2 : Int32) (H : Heap) (locs : List Loc) (ls : Array Slot), PDS G.1 classes A s [(h0, O_R f_raised a_all a_text a_saved a_undone f_undos f_reached f_length f_begin f_sort f_sign f_value f_word f_wrongAt f_badAt f_bad a_told f_read f_side a_pile f_piled a_open f_opened f_joins f_had a_size a_capped a_connected a_bestCost a_bestCrosses a_bestPart a_part a_trees f_treeMany a_nodes f_nodeMany f_moveNode f_movePart f_moveFirst f_moveThen f_moveOther a_out f_outMany a_kept), (a_text, aB G 2000 g_text)] H locs → lv_has ls 3 [(0, .ref h0), (2, .int x2)] → R_token_242 N f_reached f_length f_begin f_sort f_sign f_value f_word g_text x2 = some res → W p l e (rmk 1) s m args below meth c H locs 0 0 Q (F0 m 242 ls []) := by
    intro f_reached f_begin f_sort f_sign f_value f_word x2 H locs ls wq hl hf
    obtain ⟨hP, hD, hS⟩ := wq
    refine lv_aload_n hx hb d_R_token_242 rfl (lv_at hl 0 rfl) ?_
    refine lv_iload_n hx hb d_R_token_243 rfl (lv_at hl 1 rfl) ?_
    refine lv_bipush (v := (7 : Int32)) hx hb d_R_token_244 (by decide) ?_
    refine lv_icmp_le (tgt := 253) hx hb d_R_token_246 (by decide) (fun c26 => ?_) (fun c26 => ?_)
    · have hf := di_t c26 hf
      refine lv_iconst (v := (3 : Int32)) hx hb d_R_token_253 (by decide) ?_
      exact hJ254 f_reached f_begin f_sort f_sign f_value f_word (3 : Int32) H locs ls ⟨hP, hD, hS⟩ (lv_sub hl [] rfl) hf
    · have hf := di_f c26 hf
      refine lv_iconst (v := (1 : Int32)) hx hb d_R_token_249 (by decide) ?_
      refine lv_goto (tgt := 254) hx hb d_R_token_250 (by decide) ?_
      exact hJ254 f_reached f_begin f_sort f_sign f_value f_word (1 : Int32) H locs ls ⟨hP, hD, hS⟩ (lv_sub hl [] rfl) hf
  have hJ177 : ∀ (f_reached : Int32) (f_begin : Int32) (f_sort : Int32) (f_sign : Int32) (f_value : Int32) (f_word : Int64) (x2 : Int32) (H : Heap) (locs : List Loc) (ls : Array Slot), PDS G.1 classes A s [(h0, O_R f_raised a_all a_text a_saved a_undone f_undos f_reached f_length f_begin f_sort f_sign f_value f_word f_wrongAt f_badAt f_bad a_told f_read f_side a_pile f_piled a_open f_opened f_joins f_had a_size a_capped a_connected a_bestCost a_bestCrosses a_bestPart a_part a_trees f_treeMany a_nodes f_nodeMany f_moveNode f_movePart f_moveFirst f_moveThen f_moveOther a_out f_outMany a_kept), (a_text, aB G 2000 g_text)] H locs → lv_has ls 3 [(0, .ref h0), (2, .int x2)] → R_token_177 N f_reached f_length f_begin f_sort f_sign f_value f_word g_text x2 = some res → W p l e (rmk 1) s m args below meth c H locs 0 0 Q (F0 m 177 ls []) := by
    intro f_reached f_begin f_sort f_sign f_value f_word x2 H locs ls wq hl hf
    obtain ⟨hP, hD, hS⟩ := wq
    obtain ⟨y177, hy177, hfo177⟩ := db_e hf
    have hL177 : ∀ (n : Nat) (f_reached : Int32) (f_value : Int32) (x2 : Int32) (H : Heap) (locs : List Loc) (ls : Array Slot), lp (fun x => R_token_b177 N x.1 f_length f_begin f_sort f_sign x.2.1 f_word g_text x.2.2) n (f_reached, f_value, x2) = some y177 → PDS G.1 classes A s [(h0, O_R f_raised a_all a_text a_saved a_undone f_undos f_reached f_length f_begin f_sort f_sign f_value f_word f_wrongAt f_badAt f_bad a_told f_read f_side a_pile f_piled a_open f_opened f_joins f_had a_size a_capped a_connected a_bestCost a_bestCrosses a_bestPart a_part a_trees f_treeMany a_nodes f_nodeMany f_moveNode f_movePart f_moveFirst f_moveThen f_moveOther a_out f_outMany a_kept), (a_text, aB G 2000 g_text)] H locs → lv_has ls 3 [(0, .ref h0), (2, .int x2)] → W p l e (rmk 1) s m args below meth c H locs 0 0 Q (F0 m 177 ls []) := by
      intro n
      induction n with
      | zero =>
        intro f_reached f_value x2 H locs ls hf
        exact lp_0 hf
      | succ n ih177 =>
        intro f_reached f_value x2 H locs ls hf wq hl
        obtain ⟨hP, hD, hS⟩ := wq
        obtain ⟨r177, hf, hk177⟩ := lp_s hf
        have hf : R_token_b177 N f_reached f_length f_begin f_sort f_sign f_value f_word g_text x2 = some r177 := hf
        have hJ223 : ∀ (f_reached : Int32) (f_value : Int32) (x2 : Int32) (z1 : Int32) (H : Heap) (locs : List Loc) (ls : Array Slot), PDS G.1 classes A s [(h0, O_R f_raised a_all a_text a_saved a_undone f_undos f_reached f_length f_begin f_sort f_sign f_value f_word f_wrongAt f_badAt f_bad a_told f_read f_side a_pile f_piled a_open f_opened f_joins f_had a_size a_capped a_connected a_bestCost a_bestCrosses a_bestPart a_part a_trees f_treeMany a_nodes f_nodeMany f_moveNode f_movePart f_moveFirst f_moveThen f_moveOther a_out f_outMany a_kept), (a_text, aB G 2000 g_text)] H locs → lv_has ls 3 [(0, .ref h0), (2, .int x2)] → R_token_223 N f_reached f_length f_begin f_sort f_sign f_value f_word g_text x2 z1 = some r177 → W p l e (rmk 1) s m args below meth c H locs 0 0 Q (F0 m 223 ls [.int z1, .ref h0]) := by
          intro f_reached f_value x2 z1 H locs ls wq hl hf
          obtain ⟨hP, hD, hS⟩ := wq
          refine va_put (D := G.1) (ci := 12) (v := .int z1) (ty := .int) (C := n_R) (T := T_R) (N := 44) hx hb htl iw_R ty_R ty_R_ok nm_R hown hK hP hD hS 0 rfl rfl 11 (by decide) (htl _ k_1207) (fun _ h9 => h9) rfl (by decide +kernel) rfl rfl (Nat.le_of_ble_eq_true rfl) d_R_token_223 (fun H locs hP hD hS => ?_)
          have hP : va_P G.1 classes [(h0, O_R f_raised a_all a_text a_saved a_undone f_undos f_reached f_length f_begin f_sort f_sign z1 f_word f_wrongAt f_badAt f_bad a_told f_read f_side a_pile f_piled a_open f_opened f_joins f_had a_size a_capped a_connected a_bestCost a_bestCrosses a_bestPart a_part a_trees f_treeMany a_nodes f_nodeMany f_moveNode f_movePart f_moveFirst f_moveThen f_moveOther a_out f_outMany a_kept), (a_text, aB G 2000 g_text)] H := hP
          have hD : va_D A [(h0, O_R f_raised a_all a_text a_saved a_undone f_undos f_reached f_length f_begin f_sort f_sign z1 f_word f_wrongAt f_badAt f_bad a_told f_read f_side a_pile f_piled a_open f_opened f_joins f_had a_size a_capped a_connected a_bestCost a_bestCrosses a_bestPart a_part a_trees f_treeMany a_nodes f_nodeMany f_moveNode f_movePart f_moveFirst f_moveThen f_moveOther a_out f_outMany a_kept), (a_text, aB G 2000 g_text)] := hD
          refine lv_aload_n hx hb d_R_token_226 rfl (lv_at hl 0 rfl) ?_
          refine lv_dup hx hb d_R_token_227 rfl ?_
          refine va_get (D := G.1) (ci := 12) (v := .int f_reached) (C := n_R) (T := T_R) (N := 44) hx hb htl iw_R hown hK hP 0 rfl rfl 6 (by decide) (htl _ k_1202) (fun _ h9 => h9) rfl d_R_token_228 ?_
          refine lv_iconst (v := (1 : Int32)) hx hb d_R_token_231 (by decide) ?_
          refine lv_iadd hx hb d_R_token_232 ?_
          refine lv_topi (fun v24 ev24 => ?_)
          have hf := dn_e ev24 hf
          refine va_put (D := G.1) (ci := 12) (v := .int v24) (ty := .int) (C := n_R) (T := T_R) (N := 44) hx hb htl iw_R ty_R ty_R_ok nm_R hown hK hP hD hS 0 rfl rfl 6 (by decide) (htl _ k_1202) (fun _ h9 => h9) rfl (by decide +kernel) rfl rfl (Nat.le_of_ble_eq_true rfl) d_R_token_233 (fun H locs hP hD hS => ?_)
          have hP : va_P G.1 classes [(h0, O_R f_raised a_all a_text a_saved a_undone f_undos v24 f_length f_begin f_sort f_sign z1 f_word f_wrongAt f_badAt f_bad a_told f_read f_side a_pile f_piled a_open f_opened f_joins f_had a_size a_capped a_connected a_bestCost a_bestCrosses a_bestPart a_part a_trees f_treeMany a_nodes f_nodeMany f_moveNode f_movePart f_moveFirst f_moveThen f_moveOther a_out f_outMany a_kept), (a_text, aB G 2000 g_text)] H := hP
          have hD : va_D A [(h0, O_R f_raised a_all a_text a_saved a_undone f_undos v24 f_length f_begin f_sort f_sign z1 f_word f_wrongAt f_badAt f_bad a_told f_read f_side a_pile f_piled a_open f_opened f_joins f_had a_size a_capped a_connected a_bestCost a_bestCrosses a_bestPart a_part a_trees f_treeMany a_nodes f_nodeMany f_moveNode f_movePart f_moveFirst f_moveThen f_moveOther a_out f_outMany a_kept), (a_text, aB G 2000 g_text)] := hD
          obtain ⟨v25, ev25⟩ : ∃ z : Int32, z = x2 + (1 : Int32) := ⟨_, rfl⟩
          have hf := dn_e ev25 hf
          refine lv_iinc (v := v25) (lv' := [(2, .int v25), (0, .ref h0)]) hx hb d_R_token_236 hl (k := 1) rfl (by rw [ev25]; rfl) (by decide) rfl (fun ls hl => ?_)
          refine lv_goto (tgt := 177) hx hb d_R_token_239 (by decide) ?_
          exact ih177 v24 z1 v25 H locs ls (lpk_i hf hk177) ⟨hP, hD, hS⟩ (lv_sub hl [1, 0] rfl)
        refine lv_aload_n hx hb d_R_token_177 rfl (lv_at hl 0 rfl) ?_
        obtain ⟨t18, hv19, hf⟩ := db_e hf
        refine call_i (isC := [0, 1]) (run_V (As := []) (rest := []) (ci := 12) (q0 := 0) hx hb hml hown htl (c_R_see l G Y  h0 a_all a_text a_saved a_undone a_told a_pile a_open a_size a_capped a_connected a_bestCost a_bestCrosses a_bestPart a_part a_trees a_nodes a_out a_kept f_raised f_undos f_reached f_length f_begin f_sort f_sign f_value f_word f_wrongAt f_badAt f_bad f_read f_side f_piled f_opened f_joins f_had f_treeMany f_nodeMany f_moveNode f_movePart f_moveFirst f_moveThen f_moveOther f_outMany g_text t18 hv19) mv_R_see k_1350 (hRk (by decide) (by decide)) hK hsk hS hP hD (isC := [0, 1]) rfl (by decide) rfl rfl rfl hl.1 rfl (lv_room (Nat.le_of_ble_eq_true rfl)) d_R_token_178) hP hD hS rfl rfl (fun H locs hP hD hS => ?_)
        have hP : va_P G.1 classes [(h0, O_R f_raised a_all a_text a_saved a_undone f_undos f_reached f_length f_begin f_sort f_sign f_value f_word f_wrongAt f_badAt f_bad a_told f_read f_side a_pile f_piled a_open f_opened f_joins f_had a_size a_capped a_connected a_bestCost a_bestCrosses a_bestPart a_part a_trees f_treeMany a_nodes f_nodeMany f_moveNode f_movePart f_moveFirst f_moveThen f_moveOther a_out f_outMany a_kept), (a_text, aB G 2000 g_text)] H := hP
        have hD : va_D A [(h0, O_R f_raised a_all a_text a_saved a_undone f_undos f_reached f_length f_begin f_sort f_sign f_value f_word f_wrongAt f_badAt f_bad a_told f_read f_side a_pile f_piled a_open f_opened f_joins f_had a_size a_capped a_connected a_bestCost a_bestCrosses a_bestPart a_part a_trees f_treeMany a_nodes f_nodeMany f_moveNode f_movePart f_moveFirst f_moveThen f_moveOther a_out f_outMany a_kept), (a_text, aB G 2000 g_text)] := hD
        refine lv_i2l hx hb d_R_token_181 rfl ?_
        refine lv_ldc2 (v := (48 : Int64)) hx hb hown (htl _ k_1359) d_R_token_182 ?_
        refine lv_ldc2 (v := (57 : Int64)) hx hb hown (htl _ k_1360) d_R_token_185 ?_
        refine call_i (isC := []) (run_S (As := [.long t18.toInt64, .long (48 : Int64), .long (57 : Int64)]) (rest := []) hx hb hml hown htl (c_R_in l G Y  t18.toInt64 (48 : Int64) (57 : Int64) _ rfl) ms_R_in k_1356 (hRk (by decide) (by decide)) hK hsk hS hP hD (isC := []) rfl (by decide) rfl hl.1 rfl (lv_room (Nat.le_of_ble_eq_true rfl)) d_R_token_188) hP hD hS rfl rfl (fun H locs hP hD hS => ?_)
        have hP : va_P G.1 classes [(h0, O_R f_raised a_all a_text a_saved a_undone f_undos f_reached f_length f_begin f_sort f_sign f_value f_word f_wrongAt f_badAt f_bad a_told f_read f_side a_pile f_piled a_open f_opened f_joins f_had a_size a_capped a_connected a_bestCost a_bestCrosses a_bestPart a_part a_trees f_treeMany a_nodes f_nodeMany f_moveNode f_movePart f_moveFirst f_moveThen f_moveOther a_out f_outMany a_kept), (a_text, aB G 2000 g_text)] H := hP
        have hD : va_D A [(h0, O_R f_raised a_all a_text a_saved a_undone f_undos f_reached f_length f_begin f_sort f_sign f_value f_word f_wrongAt f_badAt f_bad a_told f_read f_side a_pile f_piled a_open f_opened f_joins f_had a_size a_capped a_connected a_bestCost a_bestCrosses a_bestPart a_part a_trees f_treeMany a_nodes f_nodeMany f_moveNode f_movePart f_moveFirst f_moveThen f_moveOther a_out f_outMany a_kept), (a_text, aB G 2000 g_text)] := hD
        refine lv_if_eq (tgt := 242) hx hb d_R_token_191 (by decide) (fun c20 => ?_) (fun c20 => ?_)
        · have hf := di_t c20 hf
          have hq177 := lpk_x hf hk177
          have hf := ex_y (f := fun y => R_token_a177 N f_length f_begin f_sort f_sign f_word g_text y) hq177 hfo177
          have hf : R_token_242 N f_reached f_length f_begin f_sort f_sign f_value f_word g_text x2 = some res := hf
          exact hJ242 f_reached f_begin f_sort f_sign f_value f_word x2 H locs ls ⟨hP, hD, hS⟩ (lv_sub hl [0, 1] rfl) hf
        · have hf := di_f c20 hf
          refine lv_aload_n hx hb d_R_token_194 rfl (lv_at hl 0 rfl) ?_
          refine lv_iload_n hx hb d_R_token_195 rfl (lv_at hl 1 rfl) ?_
          refine lv_bipush (v := (7 : Int32)) hx hb d_R_token_196 (by decide) ?_
          refine lv_icmp_ge (tgt := 219) hx hb d_R_token_198 (by decide) (fun c21 => ?_) (fun c21 => ?_)
          · have hf := di_t c21 hf
            refine lv_aload_n hx hb d_R_token_219 rfl (lv_at hl 0 rfl) ?_
            refine va_get (D := G.1) (ci := 12) (v := .int f_value) (C := n_R) (T := T_R) (N := 44) hx hb htl iw_R hown hK hP 0 rfl rfl 11 (by decide) (htl _ k_1207) (fun _ h9 => h9) rfl d_R_token_220 ?_
            exact hJ223 f_reached f_value x2 f_value H locs ls ⟨hP, hD, hS⟩ (lv_sub hl [0, 1] rfl) hf
          · have hf := di_f c21 hf
            refine lv_bipush (v := (10 : Int32)) hx hb d_R_token_201 (by decide) ?_
            refine lv_aload_n hx hb d_R_token_203 rfl (lv_at hl 0 rfl) ?_
            refine va_get (D := G.1) (ci := 12) (v := .int f_value) (C := n_R) (T := T_R) (N := 44) hx hb htl iw_R hown hK hP 0 rfl rfl 11 (by decide) (htl _ k_1207) (fun _ h9 => h9) rfl d_R_token_204 ?_
            refine lv_imul hx hb d_R_token_207 ?_
            refine lv_aload_n hx hb d_R_token_208 rfl (lv_at hl 0 rfl) ?_
            obtain ⟨t22, hv23, hf⟩ := db_e hf
            refine call_i (isC := [0, 1]) (run_V (As := []) (rest := [.int ((10 : Int32) * f_value), .ref h0]) (ci := 12) (q0 := 0) hx hb hml hown htl (c_R_see l G Y  h0 a_all a_text a_saved a_undone a_told a_pile a_open a_size a_capped a_connected a_bestCost a_bestCrosses a_bestPart a_part a_trees a_nodes a_out a_kept f_raised f_undos f_reached f_length f_begin f_sort f_sign f_value f_word f_wrongAt f_badAt f_bad f_read f_side f_piled f_opened f_joins f_had f_treeMany f_nodeMany f_moveNode f_movePart f_moveFirst f_moveThen f_moveOther f_outMany g_text t22 hv23) mv_R_see k_1350 (hRk (by decide) (by decide)) hK hsk hS hP hD (isC := [0, 1]) rfl (by decide) rfl rfl rfl hl.1 rfl (lv_room (Nat.le_of_ble_eq_true rfl)) d_R_token_209) hP hD hS rfl rfl (fun H locs hP hD hS => ?_)
            have hP : va_P G.1 classes [(h0, O_R f_raised a_all a_text a_saved a_undone f_undos f_reached f_length f_begin f_sort f_sign f_value f_word f_wrongAt f_badAt f_bad a_told f_read f_side a_pile f_piled a_open f_opened f_joins f_had a_size a_capped a_connected a_bestCost a_bestCrosses a_bestPart a_part a_trees f_treeMany a_nodes f_nodeMany f_moveNode f_movePart f_moveFirst f_moveThen f_moveOther a_out f_outMany a_kept), (a_text, aB G 2000 g_text)] H := hP
            have hD : va_D A [(h0, O_R f_raised a_all a_text a_saved a_undone f_undos f_reached f_length f_begin f_sort f_sign f_value f_word f_wrongAt f_badAt f_bad a_told f_read f_side a_pile f_piled a_open f_opened f_joins f_had a_size a_capped a_connected a_bestCost a_bestCrosses a_bestPart a_part a_trees f_treeMany a_nodes f_nodeMany f_moveNode f_movePart f_moveFirst f_moveThen f_moveOther a_out f_outMany a_kept), (a_text, aB G 2000 g_text)] := hD
            refine lv_iadd hx hb d_R_token_212 ?_
            refine lv_bipush (v := (48 : Int32)) hx hb d_R_token_213 (by decide) ?_
            refine lv_isub hx hb d_R_token_215 ?_
            refine lv_goto (tgt := 223) hx hb d_R_token_216 (by decide) ?_
            exact hJ223 f_reached f_value x2 ((((10 : Int32) * f_value) + t22) - (48 : Int32)) H locs ls ⟨hP, hD, hS⟩ (lv_sub hl [0, 1] rfl) hf
    exact hL177 N f_reached f_value x2 H locs ls hy177 ⟨hP, hD, hS⟩ hl
  have hJ147 : ∀ (f_reached : Int32) (f_begin : Int32) (f_sort : Int32) (f_sign : Int32) (f_value : Int32) (f_word : Int64) (z1 : Int64) (H : Heap) (locs : List Loc) (ls : Array Slot), PDS G.1 classes A s [(h0, O_R f_raised a_all a_text a_saved a_undone f_undos f_reached f_length f_begin f_sort f_sign f_value f_word f_wrongAt f_badAt f_bad a_told f_read f_side a_pile f_piled a_open f_opened f_joins f_had a_size a_capped a_connected a_bestCost a_bestCrosses a_bestPart a_part a_trees f_treeMany a_nodes f_nodeMany f_moveNode f_movePart f_moveFirst f_moveThen f_moveOther a_out f_outMany a_kept), (a_text, aB G 2000 g_text)] H locs → lv_has ls 3 [(0, .ref h0)] → R_token_147 N f_reached f_length f_begin f_sort f_sign f_value f_word g_text z1 = some res → W p l e (rmk 1) s m args below meth c H locs 0 0 Q (F0 m 147 ls [.long z1, .ref h0]) := by
    intro f_reached f_begin f_sort f_sign f_value f_word z1 H locs ls wq hl hf
    obtain ⟨hP, hD, hS⟩ := wq
    refine va_put (D := G.1) (ci := 12) (v := .long z1) (ty := .long) (C := n_R) (T := T_R) (N := 44) hx hb htl iw_R ty_R ty_R_ok nm_R hown hK hP hD hS 0 rfl rfl 12 (by decide) (htl _ k_1208) (fun _ h9 => h9) rfl (by decide +kernel) rfl rfl (Nat.le_of_ble_eq_true rfl) d_R_token_147 (fun H locs hP hD hS => ?_)
    have hP : va_P G.1 classes [(h0, O_R f_raised a_all a_text a_saved a_undone f_undos f_reached f_length f_begin f_sort f_sign f_value z1 f_wrongAt f_badAt f_bad a_told f_read f_side a_pile f_piled a_open f_opened f_joins f_had a_size a_capped a_connected a_bestCost a_bestCrosses a_bestPart a_part a_trees f_treeMany a_nodes f_nodeMany f_moveNode f_movePart f_moveFirst f_moveThen f_moveOther a_out f_outMany a_kept), (a_text, aB G 2000 g_text)] H := hP
    have hD : va_D A [(h0, O_R f_raised a_all a_text a_saved a_undone f_undos f_reached f_length f_begin f_sort f_sign f_value z1 f_wrongAt f_badAt f_bad a_told f_read f_side a_pile f_piled a_open f_opened f_joins f_had a_size a_capped a_connected a_bestCost a_bestCrosses a_bestPart a_part a_trees f_treeMany a_nodes f_nodeMany f_moveNode f_movePart f_moveFirst f_moveThen f_moveOther a_out f_outMany a_kept), (a_text, aB G 2000 g_text)] := hD
    refine lv_aload_n hx hb d_R_token_150 rfl (lv_at hl 0 rfl) ?_
    refine lv_iconst (v := (2 : Int32)) hx hb d_R_token_151 (by decide) ?_
    refine va_put (D := G.1) (ci := 12) (v := .int (2 : Int32)) (ty := .int) (C := n_R) (T := T_R) (N := 44) hx hb htl iw_R ty_R ty_R_ok nm_R hown hK hP hD hS 0 rfl rfl 9 (by decide) (htl _ k_1205) (fun _ h9 => h9) rfl (by decide +kernel) rfl rfl (Nat.le_of_ble_eq_true rfl) d_R_token_152 (fun H locs hP hD hS => ?_)
    have hP : va_P G.1 classes [(h0, O_R f_raised a_all a_text a_saved a_undone f_undos f_reached f_length f_begin (2 : Int32) f_sign f_value z1 f_wrongAt f_badAt f_bad a_told f_read f_side a_pile f_piled a_open f_opened f_joins f_had a_size a_capped a_connected a_bestCost a_bestCrosses a_bestPart a_part a_trees f_treeMany a_nodes f_nodeMany f_moveNode f_movePart f_moveFirst f_moveThen f_moveOther a_out f_outMany a_kept), (a_text, aB G 2000 g_text)] H := hP
    have hD : va_D A [(h0, O_R f_raised a_all a_text a_saved a_undone f_undos f_reached f_length f_begin (2 : Int32) f_sign f_value z1 f_wrongAt f_badAt f_bad a_told f_read f_side a_pile f_piled a_open f_opened f_joins f_had a_size a_capped a_connected a_bestCost a_bestCrosses a_bestPart a_part a_trees f_treeMany a_nodes f_nodeMany f_moveNode f_movePart f_moveFirst f_moveThen f_moveOther a_out f_outMany a_kept), (a_text, aB G 2000 g_text)] := hD
    refine lv_goto (tgt := 308) hx hb d_R_token_155 (by decide) ?_
    cases hf
    exact hret 308 ls H locs hP hS d_R_token_308
  have hJ132 : ∀ (f_reached : Int32) (f_begin : Int32) (f_sort : Int32) (f_sign : Int32) (f_value : Int32) (f_word : Int64) (x2 : Int32) (H : Heap) (locs : List Loc) (ls : Array Slot), PDS G.1 classes A s [(h0, O_R f_raised a_all a_text a_saved a_undone f_undos f_reached f_length f_begin f_sort f_sign f_value f_word f_wrongAt f_badAt f_bad a_told f_read f_side a_pile f_piled a_open f_opened f_joins f_had a_size a_capped a_connected a_bestCost a_bestCrosses a_bestPart a_part a_trees f_treeMany a_nodes f_nodeMany f_moveNode f_movePart f_moveFirst f_moveThen f_moveOther a_out f_outMany a_kept), (a_text, aB G 2000 g_text)] H locs → lv_has ls 3 [(0, .ref h0), (2, .int x2)] → R_token_132 N f_reached f_length f_begin f_sort f_sign f_value f_word g_text x2 = some res → W p l e (rmk 1) s m args below meth c H locs 0 0 Q (F0 m 132 ls []) := by
    intro f_reached f_begin f_sort f_sign f_value f_word x2 H locs ls wq hl hf
    obtain ⟨hP, hD, hS⟩ := wq
    refine lv_aload_n hx hb d_R_token_132 rfl (lv_at hl 0 rfl) ?_
    refine lv_iload_n hx hb d_R_token_133 rfl (lv_at hl 1 rfl) ?_
    refine lv_bipush (v := (8 : Int32)) hx hb d_R_token_134 (by decide) ?_
    refine lv_icmp_le (tgt := 143) hx hb d_R_token_136 (by decide) (fun c35 => ?_) (fun c35 => ?_)
    · have hf := di_t c35 hf
      refine lv_aload_n hx hb d_R_token_143 rfl (lv_at hl 0 rfl) ?_
      refine va_get (D := G.1) (ci := 12) (v := .long f_word) (C := n_R) (T := T_R) (N := 44) hx hb htl iw_R hown hK hP 0 rfl rfl 12 (by decide) (htl _ k_1208) (fun _ h9 => h9) rfl d_R_token_144 ?_
      exact hJ147 f_reached f_begin f_sort f_sign f_value f_word f_word H locs ls ⟨hP, hD, hS⟩ (lv_sub hl [0] rfl) hf
    · have hf := di_f c35 hf
      refine lv_lconst (v := (0 : Int64)) hx hb d_R_token_139 (by decide) ?_
      refine lv_goto (tgt := 147) hx hb d_R_token_140 (by decide) ?_
      exact hJ147 f_reached f_begin f_sort f_sign f_value f_word (0 : Int64) H locs ls ⟨hP, hD, hS⟩ (lv_sub hl [0] rfl) hf
  have hJ82 : ∀ (f_reached : Int32) (f_begin : Int32) (f_sort : Int32) (f_sign : Int32) (f_value : Int32) (f_word : Int64) (x2 : Int32) (H : Heap) (locs : List Loc) (ls : Array Slot), PDS G.1 classes A s [(h0, O_R f_raised a_all a_text a_saved a_undone f_undos f_reached f_length f_begin f_sort f_sign f_value f_word f_wrongAt f_badAt f_bad a_told f_read f_side a_pile f_piled a_open f_opened f_joins f_had a_size a_capped a_connected a_bestCost a_bestCrosses a_bestPart a_part a_trees f_treeMany a_nodes f_nodeMany f_moveNode f_movePart f_moveFirst f_moveThen f_moveOther a_out f_outMany a_kept), (a_text, aB G 2000 g_text)] H locs → lv_has ls 3 [(0, .ref h0), (2, .int x2)] → R_token_82 N f_reached f_length f_begin f_sort f_sign f_value f_word g_text x2 = some res → W p l e (rmk 1) s m args below meth c H locs 0 0 Q (F0 m 82 ls []) := by
    intro f_reached f_begin f_sort f_sign f_value f_word x2 H locs ls wq hl hf
    obtain ⟨hP, hD, hS⟩ := wq
    obtain ⟨y82, hy82, hfo82⟩ := db_e hf
    have hL82 : ∀ (n : Nat) (f_reached : Int32) (f_word : Int64) (x2 : Int32) (H : Heap) (locs : List Loc) (ls : Array Slot), lp (fun x => R_token_b82 N x.1 f_length f_begin f_sort f_sign f_value x.2.1 g_text x.2.2) n (f_reached, f_word, x2) = some y82 → PDS G.1 classes A s [(h0, O_R f_raised a_all a_text a_saved a_undone f_undos f_reached f_length f_begin f_sort f_sign f_value f_word f_wrongAt f_badAt f_bad a_told f_read f_side a_pile f_piled a_open f_opened f_joins f_had a_size a_capped a_connected a_bestCost a_bestCrosses a_bestPart a_part a_trees f_treeMany a_nodes f_nodeMany f_moveNode f_movePart f_moveFirst f_moveThen f_moveOther a_out f_outMany a_kept), (a_text, aB G 2000 g_text)] H locs → lv_has ls 3 [(0, .ref h0), (2, .int x2)] → W p l e (rmk 1) s m args below meth c H locs 0 0 Q (F0 m 82 ls []) := by
      intro n
      induction n with
      | zero =>
        intro f_reached f_word x2 H locs ls hf
        exact lp_0 hf
      | succ n ih82 =>
        intro f_reached f_word x2 H locs ls hf wq hl
        obtain ⟨hP, hD, hS⟩ := wq
        obtain ⟨r82, hf, hk82⟩ := lp_s hf
        have hf : R_token_b82 N f_reached f_length f_begin f_sort f_sign f_value f_word g_text x2 = some r82 := hf
        refine lv_aload_n hx hb d_R_token_82 rfl (lv_at hl 0 rfl) ?_
        obtain ⟨t27, hv28, hf⟩ := db_e hf
        refine call_i (isC := [0, 1]) (run_V (As := []) (rest := []) (ci := 12) (q0 := 0) hx hb hml hown htl (c_R_see l G Y  h0 a_all a_text a_saved a_undone a_told a_pile a_open a_size a_capped a_connected a_bestCost a_bestCrosses a_bestPart a_part a_trees a_nodes a_out a_kept f_raised f_undos f_reached f_length f_begin f_sort f_sign f_value f_word f_wrongAt f_badAt f_bad f_read f_side f_piled f_opened f_joins f_had f_treeMany f_nodeMany f_moveNode f_movePart f_moveFirst f_moveThen f_moveOther f_outMany g_text t27 hv28) mv_R_see k_1350 (hRk (by decide) (by decide)) hK hsk hS hP hD (isC := [0, 1]) rfl (by decide) rfl rfl rfl hl.1 rfl (lv_room (Nat.le_of_ble_eq_true rfl)) d_R_token_83) hP hD hS rfl rfl (fun H locs hP hD hS => ?_)
        have hP : va_P G.1 classes [(h0, O_R f_raised a_all a_text a_saved a_undone f_undos f_reached f_length f_begin f_sort f_sign f_value f_word f_wrongAt f_badAt f_bad a_told f_read f_side a_pile f_piled a_open f_opened f_joins f_had a_size a_capped a_connected a_bestCost a_bestCrosses a_bestPart a_part a_trees f_treeMany a_nodes f_nodeMany f_moveNode f_movePart f_moveFirst f_moveThen f_moveOther a_out f_outMany a_kept), (a_text, aB G 2000 g_text)] H := hP
        have hD : va_D A [(h0, O_R f_raised a_all a_text a_saved a_undone f_undos f_reached f_length f_begin f_sort f_sign f_value f_word f_wrongAt f_badAt f_bad a_told f_read f_side a_pile f_piled a_open f_opened f_joins f_had a_size a_capped a_connected a_bestCost a_bestCrosses a_bestPart a_part a_trees f_treeMany a_nodes f_nodeMany f_moveNode f_movePart f_moveFirst f_moveThen f_moveOther a_out f_outMany a_kept), (a_text, aB G 2000 g_text)] := hD
        refine lv_i2l hx hb d_R_token_86 rfl ?_
        refine lv_ldc2 (v := (97 : Int64)) hx hb hown (htl _ k_1354) d_R_token_87 ?_
        refine lv_ldc2 (v := (122 : Int64)) hx hb hown (htl _ k_1355) d_R_token_90 ?_
        refine call_i (isC := []) (run_S (As := [.long t27.toInt64, .long (97 : Int64), .long (122 : Int64)]) (rest := []) hx hb hml hown htl (c_R_in l G Y  t27.toInt64 (97 : Int64) (122 : Int64) _ rfl) ms_R_in k_1356 (hRk (by decide) (by decide)) hK hsk hS hP hD (isC := []) rfl (by decide) rfl hl.1 rfl (lv_room (Nat.le_of_ble_eq_true rfl)) d_R_token_93) hP hD hS rfl rfl (fun H locs hP hD hS => ?_)
        have hP : va_P G.1 classes [(h0, O_R f_raised a_all a_text a_saved a_undone f_undos f_reached f_length f_begin f_sort f_sign f_value f_word f_wrongAt f_badAt f_bad a_told f_read f_side a_pile f_piled a_open f_opened f_joins f_had a_size a_capped a_connected a_bestCost a_bestCrosses a_bestPart a_part a_trees f_treeMany a_nodes f_nodeMany f_moveNode f_movePart f_moveFirst f_moveThen f_moveOther a_out f_outMany a_kept), (a_text, aB G 2000 g_text)] H := hP
        have hD : va_D A [(h0, O_R f_raised a_all a_text a_saved a_undone f_undos f_reached f_length f_begin f_sort f_sign f_value f_word f_wrongAt f_badAt f_bad a_told f_read f_side a_pile f_piled a_open f_opened f_joins f_had a_size a_capped a_connected a_bestCost a_bestCrosses a_bestPart a_part a_trees f_treeMany a_nodes f_nodeMany f_moveNode f_movePart f_moveFirst f_moveThen f_moveOther a_out f_outMany a_kept), (a_text, aB G 2000 g_text)] := hD
        refine lv_if_eq (tgt := 132) hx hb d_R_token_96 (by decide) (fun c29 => ?_) (fun c29 => ?_)
        · have hf := di_t c29 hf
          have hq82 := lpk_x hf hk82
          have hf := ex_y (f := fun y => R_token_a82 N f_length f_begin f_sort f_sign f_value g_text y) hq82 hfo82
          have hf : R_token_132 N f_reached f_length f_begin f_sort f_sign f_value f_word g_text x2 = some res := hf
          exact hJ132 f_reached f_begin f_sort f_sign f_value f_word x2 H locs ls ⟨hP, hD, hS⟩ (lv_sub hl [0, 1] rfl) hf
        · have hf := di_f c29 hf
          refine lv_aload_n hx hb d_R_token_99 rfl (lv_at hl 0 rfl) ?_
          refine lv_aload_n hx hb d_R_token_100 rfl (lv_at hl 0 rfl) ?_
          refine va_get (D := G.1) (ci := 12) (v := .long f_word) (C := n_R) (T := T_R) (N := 44) hx hb htl iw_R hown hK hP 0 rfl rfl 12 (by decide) (htl _ k_1208) (fun _ h9 => h9) rfl d_R_token_101 ?_
          refine lv_bipush (v := (8 : Int32)) hx hb d_R_token_104 (by decide) ?_
          refine lv_lshl hx hb d_R_token_106 rfl ?_
          refine lv_aload_n hx hb d_R_token_107 rfl (lv_at hl 0 rfl) ?_
          obtain ⟨t30, hv31, hf⟩ := db_e hf
          refine call_i (isC := [0, 1]) (run_V (As := []) (rest := [.long (f_word <<< ((8 : Int32).toInt64 &&& 63)), .ref h0]) (ci := 12) (q0 := 0) hx hb hml hown htl (c_R_see l G Y  h0 a_all a_text a_saved a_undone a_told a_pile a_open a_size a_capped a_connected a_bestCost a_bestCrosses a_bestPart a_part a_trees a_nodes a_out a_kept f_raised f_undos f_reached f_length f_begin f_sort f_sign f_value f_word f_wrongAt f_badAt f_bad f_read f_side f_piled f_opened f_joins f_had f_treeMany f_nodeMany f_moveNode f_movePart f_moveFirst f_moveThen f_moveOther f_outMany g_text t30 hv31) mv_R_see k_1350 (hRk (by decide) (by decide)) hK hsk hS hP hD (isC := [0, 1]) rfl (by decide) rfl rfl rfl hl.1 rfl (lv_room (Nat.le_of_ble_eq_true rfl)) d_R_token_108) hP hD hS rfl rfl (fun H locs hP hD hS => ?_)
          have hP : va_P G.1 classes [(h0, O_R f_raised a_all a_text a_saved a_undone f_undos f_reached f_length f_begin f_sort f_sign f_value f_word f_wrongAt f_badAt f_bad a_told f_read f_side a_pile f_piled a_open f_opened f_joins f_had a_size a_capped a_connected a_bestCost a_bestCrosses a_bestPart a_part a_trees f_treeMany a_nodes f_nodeMany f_moveNode f_movePart f_moveFirst f_moveThen f_moveOther a_out f_outMany a_kept), (a_text, aB G 2000 g_text)] H := hP
          have hD : va_D A [(h0, O_R f_raised a_all a_text a_saved a_undone f_undos f_reached f_length f_begin f_sort f_sign f_value f_word f_wrongAt f_badAt f_bad a_told f_read f_side a_pile f_piled a_open f_opened f_joins f_had a_size a_capped a_connected a_bestCost a_bestCrosses a_bestPart a_part a_trees f_treeMany a_nodes f_nodeMany f_moveNode f_movePart f_moveFirst f_moveThen f_moveOther a_out f_outMany a_kept), (a_text, aB G 2000 g_text)] := hD
          refine lv_i2l hx hb d_R_token_111 rfl ?_
          refine lv_lor hx hb d_R_token_112 ?_
          refine lv_topl (fun v32 ev32 => ?_)
          have hf := dn_e ev32 hf
          refine va_put (D := G.1) (ci := 12) (v := .long v32) (ty := .long) (C := n_R) (T := T_R) (N := 44) hx hb htl iw_R ty_R ty_R_ok nm_R hown hK hP hD hS 0 rfl rfl 12 (by decide) (htl _ k_1208) (fun _ h9 => h9) rfl (by decide +kernel) rfl rfl (Nat.le_of_ble_eq_true rfl) d_R_token_113 (fun H locs hP hD hS => ?_)
          have hP : va_P G.1 classes [(h0, O_R f_raised a_all a_text a_saved a_undone f_undos f_reached f_length f_begin f_sort f_sign f_value v32 f_wrongAt f_badAt f_bad a_told f_read f_side a_pile f_piled a_open f_opened f_joins f_had a_size a_capped a_connected a_bestCost a_bestCrosses a_bestPart a_part a_trees f_treeMany a_nodes f_nodeMany f_moveNode f_movePart f_moveFirst f_moveThen f_moveOther a_out f_outMany a_kept), (a_text, aB G 2000 g_text)] H := hP
          have hD : va_D A [(h0, O_R f_raised a_all a_text a_saved a_undone f_undos f_reached f_length f_begin f_sort f_sign f_value v32 f_wrongAt f_badAt f_bad a_told f_read f_side a_pile f_piled a_open f_opened f_joins f_had a_size a_capped a_connected a_bestCost a_bestCrosses a_bestPart a_part a_trees f_treeMany a_nodes f_nodeMany f_moveNode f_movePart f_moveFirst f_moveThen f_moveOther a_out f_outMany a_kept), (a_text, aB G 2000 g_text)] := hD
          refine lv_aload_n hx hb d_R_token_116 rfl (lv_at hl 0 rfl) ?_
          refine lv_dup hx hb d_R_token_117 rfl ?_
          refine va_get (D := G.1) (ci := 12) (v := .int f_reached) (C := n_R) (T := T_R) (N := 44) hx hb htl iw_R hown hK hP 0 rfl rfl 6 (by decide) (htl _ k_1202) (fun _ h9 => h9) rfl d_R_token_118 ?_
          refine lv_iconst (v := (1 : Int32)) hx hb d_R_token_121 (by decide) ?_
          refine lv_iadd hx hb d_R_token_122 ?_
          refine lv_topi (fun v33 ev33 => ?_)
          have hf := dn_e ev33 hf
          refine va_put (D := G.1) (ci := 12) (v := .int v33) (ty := .int) (C := n_R) (T := T_R) (N := 44) hx hb htl iw_R ty_R ty_R_ok nm_R hown hK hP hD hS 0 rfl rfl 6 (by decide) (htl _ k_1202) (fun _ h9 => h9) rfl (by decide +kernel) rfl rfl (Nat.le_of_ble_eq_true rfl) d_R_token_123 (fun H locs hP hD hS => ?_)
          have hP : va_P G.1 classes [(h0, O_R f_raised a_all a_text a_saved a_undone f_undos v33 f_length f_begin f_sort f_sign f_value v32 f_wrongAt f_badAt f_bad a_told f_read f_side a_pile f_piled a_open f_opened f_joins f_had a_size a_capped a_connected a_bestCost a_bestCrosses a_bestPart a_part a_trees f_treeMany a_nodes f_nodeMany f_moveNode f_movePart f_moveFirst f_moveThen f_moveOther a_out f_outMany a_kept), (a_text, aB G 2000 g_text)] H := hP
          have hD : va_D A [(h0, O_R f_raised a_all a_text a_saved a_undone f_undos v33 f_length f_begin f_sort f_sign f_value v32 f_wrongAt f_badAt f_bad a_told f_read f_side a_pile f_piled a_open f_opened f_joins f_had a_size a_capped a_connected a_bestCost a_bestCrosses a_bestPart a_part a_trees f_treeMany a_nodes f_nodeMany f_moveNode f_movePart f_moveFirst f_moveThen f_moveOther a_out f_outMany a_kept), (a_text, aB G 2000 g_text)] := hD
          obtain ⟨v34, ev34⟩ : ∃ z : Int32, z = x2 + (1 : Int32) := ⟨_, rfl⟩
          have hf := dn_e ev34 hf
          refine lv_iinc (v := v34) (lv' := [(2, .int v34), (0, .ref h0)]) hx hb d_R_token_126 hl (k := 1) rfl (by rw [ev34]; rfl) (by decide) rfl (fun ls hl => ?_)
          refine lv_goto (tgt := 82) hx hb d_R_token_129 (by decide) ?_
          exact ih82 v33 v32 v34 H locs ls (lpk_i hf hk82) ⟨hP, hD, hS⟩ (lv_sub hl [1, 0] rfl)
    exact hL82 N f_reached f_word x2 H locs ls hy82 ⟨hP, hD, hS⟩ hl
  have hJ31 : ∀ (f_reached : Int32) (f_begin : Int32) (f_sort : Int32) (f_sign : Int32) (f_value : Int32) (f_word : Int64) (H : Heap) (locs : List Loc) (ls : Array Slot), PDS G.1 classes A s [(h0, O_R f_raised a_all a_text a_saved a_undone f_undos f_reached f_length f_begin f_sort f_sign f_value f_word f_wrongAt f_badAt f_bad a_told f_read f_side a_pile f_piled a_open f_opened f_joins f_had a_size a_capped a_connected a_bestCost a_bestCrosses a_bestPart a_part a_trees f_treeMany a_nodes f_nodeMany f_moveNode f_movePart f_moveFirst f_moveThen f_moveOther a_out f_outMany a_kept), (a_text, aB G 2000 g_text)] H locs → lv_has ls 3 [(0, .ref h0)] → R_token_31 N f_reached f_length f_begin f_sort f_sign f_value f_word g_text = some res → W p l e (rmk 1) s m args below meth c H locs 0 0 Q (F0 m 31 ls []) := by
    intro f_reached f_begin f_sort f_sign f_value f_word H locs ls wq hl hf
    obtain ⟨hP, hD, hS⟩ := wq
    refine lv_aload_n hx hb d_R_token_31 rfl (lv_at hl 0 rfl) ?_
    refine lv_aload_n hx hb d_R_token_32 rfl (lv_at hl 0 rfl) ?_
    refine va_get (D := G.1) (ci := 12) (v := .int f_reached) (C := n_R) (T := T_R) (N := 44) hx hb htl iw_R hown hK hP 0 rfl rfl 6 (by decide) (htl _ k_1202) (fun _ h9 => h9) rfl d_R_token_33 ?_
    refine va_put (D := G.1) (ci := 12) (v := .int f_reached) (ty := .int) (C := n_R) (T := T_R) (N := 44) hx hb htl iw_R ty_R ty_R_ok nm_R hown hK hP hD hS 0 rfl rfl 8 (by decide) (htl _ k_1204) (fun _ h9 => h9) rfl (by decide +kernel) rfl rfl (Nat.le_of_ble_eq_true rfl) d_R_token_36 (fun H locs hP hD hS => ?_)
    have hP : va_P G.1 classes [(h0, O_R f_raised a_all a_text a_saved a_undone f_undos f_reached f_length f_reached f_sort f_sign f_value f_word f_wrongAt f_badAt f_bad a_told f_read f_side a_pile f_piled a_open f_opened f_joins f_had a_size a_capped a_connected a_bestCost a_bestCrosses a_bestPart a_part a_trees f_treeMany a_nodes f_nodeMany f_moveNode f_movePart f_moveFirst f_moveThen f_moveOther a_out f_outMany a_kept), (a_text, aB G 2000 g_text)] H := hP
    have hD : va_D A [(h0, O_R f_raised a_all a_text a_saved a_undone f_undos f_reached f_length f_reached f_sort f_sign f_value f_word f_wrongAt f_badAt f_bad a_told f_read f_side a_pile f_piled a_open f_opened f_joins f_had a_size a_capped a_connected a_bestCost a_bestCrosses a_bestPart a_part a_trees f_treeMany a_nodes f_nodeMany f_moveNode f_movePart f_moveFirst f_moveThen f_moveOther a_out f_outMany a_kept), (a_text, aB G 2000 g_text)] := hD
    refine lv_aload_n hx hb d_R_token_39 rfl (lv_at hl 0 rfl) ?_
    obtain ⟨t8, hv9, hf⟩ := db_e hf
    refine call_i (isC := [0, 1]) (run_V (As := []) (rest := []) (ci := 12) (q0 := 0) hx hb hml hown htl (c_R_see l G Y  h0 a_all a_text a_saved a_undone a_told a_pile a_open a_size a_capped a_connected a_bestCost a_bestCrosses a_bestPart a_part a_trees a_nodes a_out a_kept f_raised f_undos f_reached f_length f_reached f_sort f_sign f_value f_word f_wrongAt f_badAt f_bad f_read f_side f_piled f_opened f_joins f_had f_treeMany f_nodeMany f_moveNode f_movePart f_moveFirst f_moveThen f_moveOther f_outMany g_text t8 hv9) mv_R_see k_1350 (hRk (by decide) (by decide)) hK hsk hS hP hD (isC := [0, 1]) rfl (by decide) rfl rfl rfl hl.1 rfl (lv_room (Nat.le_of_ble_eq_true rfl)) d_R_token_40) hP hD hS rfl rfl (fun H locs hP hD hS => ?_)
    have hP : va_P G.1 classes [(h0, O_R f_raised a_all a_text a_saved a_undone f_undos f_reached f_length f_reached f_sort f_sign f_value f_word f_wrongAt f_badAt f_bad a_told f_read f_side a_pile f_piled a_open f_opened f_joins f_had a_size a_capped a_connected a_bestCost a_bestCrosses a_bestPart a_part a_trees f_treeMany a_nodes f_nodeMany f_moveNode f_movePart f_moveFirst f_moveThen f_moveOther a_out f_outMany a_kept), (a_text, aB G 2000 g_text)] H := hP
    have hD : va_D A [(h0, O_R f_raised a_all a_text a_saved a_undone f_undos f_reached f_length f_reached f_sort f_sign f_value f_word f_wrongAt f_badAt f_bad a_told f_read f_side a_pile f_piled a_open f_opened f_joins f_had a_size a_capped a_connected a_bestCost a_bestCrosses a_bestPart a_part a_trees f_treeMany a_nodes f_nodeMany f_moveNode f_movePart f_moveFirst f_moveThen f_moveOther a_out f_outMany a_kept), (a_text, aB G 2000 g_text)] := hD
    refine lv_istore_n (lv' := [(1, .int t8), (0, .ref h0)]) hx hb d_R_token_43 rfl hl (by decide) rfl (fun ls hl => ?_)
    refine lv_aload_n hx hb d_R_token_44 rfl (lv_at hl 1 rfl) ?_
    refine lv_lconst (v := (0 : Int64)) hx hb d_R_token_45 (by decide) ?_
    refine va_put (D := G.1) (ci := 12) (v := .long (0 : Int64)) (ty := .long) (C := n_R) (T := T_R) (N := 44) hx hb htl iw_R ty_R ty_R_ok nm_R hown hK hP hD hS 0 rfl rfl 12 (by decide) (htl _ k_1208) (fun _ h9 => h9) rfl (by decide +kernel) rfl rfl (Nat.le_of_ble_eq_true rfl) d_R_token_46 (fun H locs hP hD hS => ?_)
    have hP : va_P G.1 classes [(h0, O_R f_raised a_all a_text a_saved a_undone f_undos f_reached f_length f_reached f_sort f_sign f_value (0 : Int64) f_wrongAt f_badAt f_bad a_told f_read f_side a_pile f_piled a_open f_opened f_joins f_had a_size a_capped a_connected a_bestCost a_bestCrosses a_bestPart a_part a_trees f_treeMany a_nodes f_nodeMany f_moveNode f_movePart f_moveFirst f_moveThen f_moveOther a_out f_outMany a_kept), (a_text, aB G 2000 g_text)] H := hP
    have hD : va_D A [(h0, O_R f_raised a_all a_text a_saved a_undone f_undos f_reached f_length f_reached f_sort f_sign f_value (0 : Int64) f_wrongAt f_badAt f_bad a_told f_read f_side a_pile f_piled a_open f_opened f_joins f_had a_size a_capped a_connected a_bestCost a_bestCrosses a_bestPart a_part a_trees f_treeMany a_nodes f_nodeMany f_moveNode f_movePart f_moveFirst f_moveThen f_moveOther a_out f_outMany a_kept), (a_text, aB G 2000 g_text)] := hD
    refine lv_aload_n hx hb d_R_token_49 rfl (lv_at hl 1 rfl) ?_
    refine lv_iconst (v := (0 : Int32)) hx hb d_R_token_50 (by decide) ?_
    refine va_put (D := G.1) (ci := 12) (v := .int (0 : Int32)) (ty := .int) (C := n_R) (T := T_R) (N := 44) hx hb htl iw_R ty_R ty_R_ok nm_R hown hK hP hD hS 0 rfl rfl 10 (by decide) (htl _ k_1206) (fun _ h9 => h9) rfl (by decide +kernel) rfl rfl (Nat.le_of_ble_eq_true rfl) d_R_token_51 (fun H locs hP hD hS => ?_)
    have hP : va_P G.1 classes [(h0, O_R f_raised a_all a_text a_saved a_undone f_undos f_reached f_length f_reached f_sort (0 : Int32) f_value (0 : Int64) f_wrongAt f_badAt f_bad a_told f_read f_side a_pile f_piled a_open f_opened f_joins f_had a_size a_capped a_connected a_bestCost a_bestCrosses a_bestPart a_part a_trees f_treeMany a_nodes f_nodeMany f_moveNode f_movePart f_moveFirst f_moveThen f_moveOther a_out f_outMany a_kept), (a_text, aB G 2000 g_text)] H := hP
    have hD : va_D A [(h0, O_R f_raised a_all a_text a_saved a_undone f_undos f_reached f_length f_reached f_sort (0 : Int32) f_value (0 : Int64) f_wrongAt f_badAt f_bad a_told f_read f_side a_pile f_piled a_open f_opened f_joins f_had a_size a_capped a_connected a_bestCost a_bestCrosses a_bestPart a_part a_trees f_treeMany a_nodes f_nodeMany f_moveNode f_movePart f_moveFirst f_moveThen f_moveOther a_out f_outMany a_kept), (a_text, aB G 2000 g_text)] := hD
    refine lv_iconst (v := (0 : Int32)) hx hb d_R_token_54 (by decide) ?_
    refine lv_istore_n (lv' := [(2, .int (0 : Int32)), (1, .int t8), (0, .ref h0)]) hx hb d_R_token_55 rfl hl (by decide) rfl (fun ls hl => ?_)
    refine lv_iload_n hx hb d_R_token_56 rfl (lv_at hl 1 rfl) ?_
    refine lv_if_ge (tgt := 68) hx hb d_R_token_57 (by decide) (fun c10 => ?_) (fun c10 => ?_)
    · have hf := di_t c10 hf
      refine lv_iload_n hx hb d_R_token_68 rfl (lv_at hl 1 rfl) ?_
      refine lv_i2l hx hb d_R_token_69 rfl ?_
      refine lv_ldc2 (v := (97 : Int64)) hx hb hown (htl _ k_1354) d_R_token_70 ?_
      refine lv_ldc2 (v := (122 : Int64)) hx hb hown (htl _ k_1355) d_R_token_73 ?_
      refine call_i (isC := []) (run_S (As := [.long t8.toInt64, .long (97 : Int64), .long (122 : Int64)]) (rest := []) hx hb hml hown htl (c_R_in l G Y  t8.toInt64 (97 : Int64) (122 : Int64) _ rfl) ms_R_in k_1356 (hRk (by decide) (by decide)) hK hsk hS hP hD (isC := []) rfl (by decide) rfl hl.1 rfl (lv_room (Nat.le_of_ble_eq_true rfl)) d_R_token_76) hP hD hS rfl rfl (fun H locs hP hD hS => ?_)
      have hP : va_P G.1 classes [(h0, O_R f_raised a_all a_text a_saved a_undone f_undos f_reached f_length f_reached f_sort (0 : Int32) f_value (0 : Int64) f_wrongAt f_badAt f_bad a_told f_read f_side a_pile f_piled a_open f_opened f_joins f_had a_size a_capped a_connected a_bestCost a_bestCrosses a_bestPart a_part a_trees f_treeMany a_nodes f_nodeMany f_moveNode f_movePart f_moveFirst f_moveThen f_moveOther a_out f_outMany a_kept), (a_text, aB G 2000 g_text)] H := hP
      have hD : va_D A [(h0, O_R f_raised a_all a_text a_saved a_undone f_undos f_reached f_length f_reached f_sort (0 : Int32) f_value (0 : Int64) f_wrongAt f_badAt f_bad a_told f_read f_side a_pile f_piled a_open f_opened f_joins f_had a_size a_capped a_connected a_bestCost a_bestCrosses a_bestPart a_part a_trees f_treeMany a_nodes f_nodeMany f_moveNode f_movePart f_moveFirst f_moveThen f_moveOther a_out f_outMany a_kept), (a_text, aB G 2000 g_text)] := hD
      refine lv_if_eq (tgt := 158) hx hb d_R_token_79 (by decide) (fun c11 => ?_) (fun c11 => ?_)
      · have hf := di_t c11 hf
        refine lv_iload_n hx hb d_R_token_158 rfl (lv_at hl 1 rfl) ?_
        refine lv_i2l hx hb d_R_token_159 rfl ?_
        refine lv_ldc2 (v := (48 : Int64)) hx hb hown (htl _ k_1359) d_R_token_160 ?_
        refine lv_ldc2 (v := (57 : Int64)) hx hb hown (htl _ k_1360) d_R_token_163 ?_
        refine call_i (isC := []) (run_S (As := [.long t8.toInt64, .long (48 : Int64), .long (57 : Int64)]) (rest := []) hx hb hml hown htl (c_R_in l G Y  t8.toInt64 (48 : Int64) (57 : Int64) _ rfl) ms_R_in k_1356 (hRk (by decide) (by decide)) hK hsk hS hP hD (isC := []) rfl (by decide) rfl hl.1 rfl (lv_room (Nat.le_of_ble_eq_true rfl)) d_R_token_166) hP hD hS rfl rfl (fun H locs hP hD hS => ?_)
        have hP : va_P G.1 classes [(h0, O_R f_raised a_all a_text a_saved a_undone f_undos f_reached f_length f_reached f_sort (0 : Int32) f_value (0 : Int64) f_wrongAt f_badAt f_bad a_told f_read f_side a_pile f_piled a_open f_opened f_joins f_had a_size a_capped a_connected a_bestCost a_bestCrosses a_bestPart a_part a_trees f_treeMany a_nodes f_nodeMany f_moveNode f_movePart f_moveFirst f_moveThen f_moveOther a_out f_outMany a_kept), (a_text, aB G 2000 g_text)] H := hP
        have hD : va_D A [(h0, O_R f_raised a_all a_text a_saved a_undone f_undos f_reached f_length f_reached f_sort (0 : Int32) f_value (0 : Int64) f_wrongAt f_badAt f_bad a_told f_read f_side a_pile f_piled a_open f_opened f_joins f_had a_size a_capped a_connected a_bestCost a_bestCrosses a_bestPart a_part a_trees f_treeMany a_nodes f_nodeMany f_moveNode f_movePart f_moveFirst f_moveThen f_moveOther a_out f_outMany a_kept), (a_text, aB G 2000 g_text)] := hD
        refine lv_if_eq (tgt := 260) hx hb d_R_token_169 (by decide) (fun c12 => ?_) (fun c12 => ?_)
        · have hf := di_t c12 hf
          refine lv_aload_n hx hb d_R_token_260 rfl (lv_at hl 2 rfl) ?_
          refine lv_dup hx hb d_R_token_261 rfl ?_
          refine va_get (D := G.1) (ci := 12) (v := .int f_reached) (C := n_R) (T := T_R) (N := 44) hx hb htl iw_R hown hK hP 0 rfl rfl 6 (by decide) (htl _ k_1202) (fun _ h9 => h9) rfl d_R_token_262 ?_
          refine lv_iconst (v := (1 : Int32)) hx hb d_R_token_265 (by decide) ?_
          refine lv_iadd hx hb d_R_token_266 ?_
          refine lv_topi (fun v13 ev13 => ?_)
          have hf := dn_e ev13 hf
          refine va_put (D := G.1) (ci := 12) (v := .int v13) (ty := .int) (C := n_R) (T := T_R) (N := 44) hx hb htl iw_R ty_R ty_R_ok nm_R hown hK hP hD hS 0 rfl rfl 6 (by decide) (htl _ k_1202) (fun _ h9 => h9) rfl (by decide +kernel) rfl rfl (Nat.le_of_ble_eq_true rfl) d_R_token_267 (fun H locs hP hD hS => ?_)
          have hP : va_P G.1 classes [(h0, O_R f_raised a_all a_text a_saved a_undone f_undos v13 f_length f_reached f_sort (0 : Int32) f_value (0 : Int64) f_wrongAt f_badAt f_bad a_told f_read f_side a_pile f_piled a_open f_opened f_joins f_had a_size a_capped a_connected a_bestCost a_bestCrosses a_bestPart a_part a_trees f_treeMany a_nodes f_nodeMany f_moveNode f_movePart f_moveFirst f_moveThen f_moveOther a_out f_outMany a_kept), (a_text, aB G 2000 g_text)] H := hP
          have hD : va_D A [(h0, O_R f_raised a_all a_text a_saved a_undone f_undos v13 f_length f_reached f_sort (0 : Int32) f_value (0 : Int64) f_wrongAt f_badAt f_bad a_told f_read f_side a_pile f_piled a_open f_opened f_joins f_had a_size a_capped a_connected a_bestCost a_bestCrosses a_bestPart a_part a_trees f_treeMany a_nodes f_nodeMany f_moveNode f_movePart f_moveFirst f_moveThen f_moveOther a_out f_outMany a_kept), (a_text, aB G 2000 g_text)] := hD
          refine lv_aload_n hx hb d_R_token_270 rfl (lv_at hl 2 rfl) ?_
          refine lv_iload_n hx hb d_R_token_271 rfl (lv_at hl 1 rfl) ?_
          refine va_put (D := G.1) (ci := 12) (v := .int t8) (ty := .int) (C := n_R) (T := T_R) (N := 44) hx hb htl iw_R ty_R ty_R_ok nm_R hown hK hP hD hS 0 rfl rfl 10 (by decide) (htl _ k_1206) (fun _ h9 => h9) rfl (by decide +kernel) rfl rfl (Nat.le_of_ble_eq_true rfl) d_R_token_272 (fun H locs hP hD hS => ?_)
          have hP : va_P G.1 classes [(h0, O_R f_raised a_all a_text a_saved a_undone f_undos v13 f_length f_reached f_sort t8 f_value (0 : Int64) f_wrongAt f_badAt f_bad a_told f_read f_side a_pile f_piled a_open f_opened f_joins f_had a_size a_capped a_connected a_bestCost a_bestCrosses a_bestPart a_part a_trees f_treeMany a_nodes f_nodeMany f_moveNode f_movePart f_moveFirst f_moveThen f_moveOther a_out f_outMany a_kept), (a_text, aB G 2000 g_text)] H := hP
          have hD : va_D A [(h0, O_R f_raised a_all a_text a_saved a_undone f_undos v13 f_length f_reached f_sort t8 f_value (0 : Int64) f_wrongAt f_badAt f_bad a_told f_read f_side a_pile f_piled a_open f_opened f_joins f_had a_size a_capped a_connected a_bestCost a_bestCrosses a_bestPart a_part a_trees f_treeMany a_nodes f_nodeMany f_moveNode f_movePart f_moveFirst f_moveThen f_moveOther a_out f_outMany a_kept), (a_text, aB G 2000 g_text)] := hD
          refine lv_aload_n hx hb d_R_token_275 rfl (lv_at hl 2 rfl) ?_
          refine lv_iload_n hx hb d_R_token_276 rfl (lv_at hl 1 rfl) ?_
          refine lv_bipush (v := (59 : Int32)) hx hb d_R_token_277 (by decide) ?_
          refine lv_icmp_eq (tgt := 300) hx hb d_R_token_279 (by decide) (fun c14 => ?_) (fun c14 => ?_)
          · have hf := di_t c14 hf
            exact hJ300 v13 f_reached f_sort t8 f_value (0 : Int64) H locs ls ⟨hP, hD, hS⟩ (lv_sub hl [] rfl) hf
          · have hf := di_f c14 hf
            refine lv_iload_n hx hb d_R_token_282 rfl (lv_at hl 1 rfl) ?_
            refine lv_bipush (v := (45 : Int32)) hx hb d_R_token_283 (by decide) ?_
            refine lv_icmp_eq (tgt := 300) hx hb d_R_token_285 (by decide) (fun c15 => ?_) (fun c15 => ?_)
            · have hf := di_t c15 hf
              exact hJ300 v13 f_reached f_sort t8 f_value (0 : Int64) H locs ls ⟨hP, hD, hS⟩ (lv_sub hl [] rfl) hf
            · have hf := di_f c15 hf
              refine lv_iload_n hx hb d_R_token_288 rfl (lv_at hl 1 rfl) ?_
              refine lv_bipush (v := (40 : Int32)) hx hb d_R_token_289 (by decide) ?_
              refine lv_icmp_eq (tgt := 300) hx hb d_R_token_291 (by decide) (fun c16 => ?_) (fun c16 => ?_)
              · have hf := di_t c16 hf
                exact hJ300 v13 f_reached f_sort t8 f_value (0 : Int64) H locs ls ⟨hP, hD, hS⟩ (lv_sub hl [] rfl) hf
              · have hf := di_f c16 hf
                refine lv_iload_n hx hb d_R_token_294 rfl (lv_at hl 1 rfl) ?_
                refine lv_bipush (v := (41 : Int32)) hx hb d_R_token_295 (by decide) ?_
                refine lv_icmp_ne (tgt := 304) hx hb d_R_token_297 (by decide) (fun c17 => ?_) (fun c17 => ?_)
                · have hf := di_f c17 hf
                  refine lv_iconst (v := (1 : Int32)) hx hb d_R_token_304 (by decide) ?_
                  exact hJ305 v13 f_reached f_sort t8 f_value (0 : Int64) (1 : Int32) H locs ls ⟨hP, hD, hS⟩ (lv_sub hl [] rfl) hf
                · have hf := di_t c17 hf
                  exact hJ300 v13 f_reached f_sort t8 f_value (0 : Int64) H locs ls ⟨hP, hD, hS⟩ (lv_sub hl [] rfl) hf
        · have hf := di_f c12 hf
          refine lv_aload_n hx hb d_R_token_172 rfl (lv_at hl 2 rfl) ?_
          refine lv_iconst (v := (0 : Int32)) hx hb d_R_token_173 (by decide) ?_
          refine va_put (D := G.1) (ci := 12) (v := .int (0 : Int32)) (ty := .int) (C := n_R) (T := T_R) (N := 44) hx hb htl iw_R ty_R ty_R_ok nm_R hown hK hP hD hS 0 rfl rfl 11 (by decide) (htl _ k_1207) (fun _ h9 => h9) rfl (by decide +kernel) rfl rfl (Nat.le_of_ble_eq_true rfl) d_R_token_174 (fun H locs hP hD hS => ?_)
          have hP : va_P G.1 classes [(h0, O_R f_raised a_all a_text a_saved a_undone f_undos f_reached f_length f_reached f_sort (0 : Int32) (0 : Int32) (0 : Int64) f_wrongAt f_badAt f_bad a_told f_read f_side a_pile f_piled a_open f_opened f_joins f_had a_size a_capped a_connected a_bestCost a_bestCrosses a_bestPart a_part a_trees f_treeMany a_nodes f_nodeMany f_moveNode f_movePart f_moveFirst f_moveThen f_moveOther a_out f_outMany a_kept), (a_text, aB G 2000 g_text)] H := hP
          have hD : va_D A [(h0, O_R f_raised a_all a_text a_saved a_undone f_undos f_reached f_length f_reached f_sort (0 : Int32) (0 : Int32) (0 : Int64) f_wrongAt f_badAt f_bad a_told f_read f_side a_pile f_piled a_open f_opened f_joins f_had a_size a_capped a_connected a_bestCost a_bestCrosses a_bestPart a_part a_trees f_treeMany a_nodes f_nodeMany f_moveNode f_movePart f_moveFirst f_moveThen f_moveOther a_out f_outMany a_kept), (a_text, aB G 2000 g_text)] := hD
          exact hJ177 f_reached f_reached f_sort (0 : Int32) (0 : Int32) (0 : Int64) (0 : Int32) H locs ls ⟨hP, hD, hS⟩ (lv_sub hl [2, 0] rfl) hf
      · have hf := di_f c11 hf
        exact hJ82 f_reached f_reached f_sort (0 : Int32) f_value (0 : Int64) (0 : Int32) H locs ls ⟨hP, hD, hS⟩ (lv_sub hl [2, 0] rfl) hf
    · have hf := di_f c10 hf
      refine lv_aload_n hx hb d_R_token_60 rfl (lv_at hl 2 rfl) ?_
      refine lv_iconst (v := (0 : Int32)) hx hb d_R_token_61 (by decide) ?_
      refine va_put (D := G.1) (ci := 12) (v := .int (0 : Int32)) (ty := .int) (C := n_R) (T := T_R) (N := 44) hx hb htl iw_R ty_R ty_R_ok nm_R hown hK hP hD hS 0 rfl rfl 9 (by decide) (htl _ k_1205) (fun _ h9 => h9) rfl (by decide +kernel) rfl rfl (Nat.le_of_ble_eq_true rfl) d_R_token_62 (fun H locs hP hD hS => ?_)
      have hP : va_P G.1 classes [(h0, O_R f_raised a_all a_text a_saved a_undone f_undos f_reached f_length f_reached (0 : Int32) (0 : Int32) f_value (0 : Int64) f_wrongAt f_badAt f_bad a_told f_read f_side a_pile f_piled a_open f_opened f_joins f_had a_size a_capped a_connected a_bestCost a_bestCrosses a_bestPart a_part a_trees f_treeMany a_nodes f_nodeMany f_moveNode f_movePart f_moveFirst f_moveThen f_moveOther a_out f_outMany a_kept), (a_text, aB G 2000 g_text)] H := hP
      have hD : va_D A [(h0, O_R f_raised a_all a_text a_saved a_undone f_undos f_reached f_length f_reached (0 : Int32) (0 : Int32) f_value (0 : Int64) f_wrongAt f_badAt f_bad a_told f_read f_side a_pile f_piled a_open f_opened f_joins f_had a_size a_capped a_connected a_bestCost a_bestCrosses a_bestPart a_part a_trees f_treeMany a_nodes f_nodeMany f_moveNode f_movePart f_moveFirst f_moveThen f_moveOther a_out f_outMany a_kept), (a_text, aB G 2000 g_text)] := hD
      refine lv_goto (tgt := 308) hx hb d_R_token_65 (by decide) ?_
      cases hf
      exact hret 308 ls H locs hP hS d_R_token_308
  have hJ0 : ∀ (f_reached : Int32) (f_begin : Int32) (f_sort : Int32) (f_sign : Int32) (f_value : Int32) (f_word : Int64) (H : Heap) (locs : List Loc) (ls : Array Slot), PDS G.1 classes A s [(h0, O_R f_raised a_all a_text a_saved a_undone f_undos f_reached f_length f_begin f_sort f_sign f_value f_word f_wrongAt f_badAt f_bad a_told f_read f_side a_pile f_piled a_open f_opened f_joins f_had a_size a_capped a_connected a_bestCost a_bestCrosses a_bestPart a_part a_trees f_treeMany a_nodes f_nodeMany f_moveNode f_movePart f_moveFirst f_moveThen f_moveOther a_out f_outMany a_kept), (a_text, aB G 2000 g_text)] H locs → lv_has ls 3 [(0, .ref h0)] → R_token_0 N f_reached f_length f_begin f_sort f_sign f_value f_word g_text = some res → W p l e (rmk 1) s m args below meth c H locs 0 0 Q (F0 m 0 ls []) := by
    intro f_reached f_begin f_sort f_sign f_value f_word H locs ls wq hl hf
    obtain ⟨hP, hD, hS⟩ := wq
    obtain ⟨y0, hy0, hfo0⟩ := db_e hf
    have hL0 : ∀ (n : Nat) (f_reached : Int32) (H : Heap) (locs : List Loc) (ls : Array Slot), lp (fun x => R_token_b0 N x f_length f_begin f_sort f_sign f_value f_word g_text) n f_reached = some y0 → PDS G.1 classes A s [(h0, O_R f_raised a_all a_text a_saved a_undone f_undos f_reached f_length f_begin f_sort f_sign f_value f_word f_wrongAt f_badAt f_bad a_told f_read f_side a_pile f_piled a_open f_opened f_joins f_had a_size a_capped a_connected a_bestCost a_bestCrosses a_bestPart a_part a_trees f_treeMany a_nodes f_nodeMany f_moveNode f_movePart f_moveFirst f_moveThen f_moveOther a_out f_outMany a_kept), (a_text, aB G 2000 g_text)] H locs → lv_has ls 3 [(0, .ref h0)] → W p l e (rmk 1) s m args below meth c H locs 0 0 Q (F0 m 0 ls []) := by
      intro n
      induction n with
      | zero =>
        intro f_reached H locs ls hf
        exact lp_0 hf
      | succ n ih0 =>
        intro f_reached H locs ls hf wq hl
        obtain ⟨hP, hD, hS⟩ := wq
        obtain ⟨r0, hf, hk0⟩ := lp_s hf
        have hf : R_token_b0 N f_reached f_length f_begin f_sort f_sign f_value f_word g_text = some r0 := hf
        have hJ18 : ∀ (f_reached : Int32) (H : Heap) (locs : List Loc) (ls : Array Slot), PDS G.1 classes A s [(h0, O_R f_raised a_all a_text a_saved a_undone f_undos f_reached f_length f_begin f_sort f_sign f_value f_word f_wrongAt f_badAt f_bad a_told f_read f_side a_pile f_piled a_open f_opened f_joins f_had a_size a_capped a_connected a_bestCost a_bestCrosses a_bestPart a_part a_trees f_treeMany a_nodes f_nodeMany f_moveNode f_movePart f_moveFirst f_moveThen f_moveOther a_out f_outMany a_kept), (a_text, aB G 2000 g_text)] H locs → lv_has ls 3 [(0, .ref h0)] → R_token_18 N f_reached f_length f_begin f_sort f_sign f_value f_word g_text = some r0 → W p l e (rmk 1) s m args below meth c H locs 0 0 Q (F0 m 18 ls []) := by
          intro f_reached H locs ls wq hl hf
          obtain ⟨hP, hD, hS⟩ := wq
          refine lv_aload_n hx hb d_R_token_18 rfl (lv_at hl 0 rfl) ?_
          refine lv_dup hx hb d_R_token_19 rfl ?_
          refine va_get (D := G.1) (ci := 12) (v := .int f_reached) (C := n_R) (T := T_R) (N := 44) hx hb htl iw_R hown hK hP 0 rfl rfl 6 (by decide) (htl _ k_1202) (fun _ h9 => h9) rfl d_R_token_20 ?_
          refine lv_iconst (v := (1 : Int32)) hx hb d_R_token_23 (by decide) ?_
          refine lv_iadd hx hb d_R_token_24 ?_
          refine lv_topi (fun v7 ev7 => ?_)
          have hf := dn_e ev7 hf
          refine va_put (D := G.1) (ci := 12) (v := .int v7) (ty := .int) (C := n_R) (T := T_R) (N := 44) hx hb htl iw_R ty_R ty_R_ok nm_R hown hK hP hD hS 0 rfl rfl 6 (by decide) (htl _ k_1202) (fun _ h9 => h9) rfl (by decide +kernel) rfl rfl (Nat.le_of_ble_eq_true rfl) d_R_token_25 (fun H locs hP hD hS => ?_)
          have hP : va_P G.1 classes [(h0, O_R f_raised a_all a_text a_saved a_undone f_undos v7 f_length f_begin f_sort f_sign f_value f_word f_wrongAt f_badAt f_bad a_told f_read f_side a_pile f_piled a_open f_opened f_joins f_had a_size a_capped a_connected a_bestCost a_bestCrosses a_bestPart a_part a_trees f_treeMany a_nodes f_nodeMany f_moveNode f_movePart f_moveFirst f_moveThen f_moveOther a_out f_outMany a_kept), (a_text, aB G 2000 g_text)] H := hP
          have hD : va_D A [(h0, O_R f_raised a_all a_text a_saved a_undone f_undos v7 f_length f_begin f_sort f_sign f_value f_word f_wrongAt f_badAt f_bad a_told f_read f_side a_pile f_piled a_open f_opened f_joins f_had a_size a_capped a_connected a_bestCost a_bestCrosses a_bestPart a_part a_trees f_treeMany a_nodes f_nodeMany f_moveNode f_movePart f_moveFirst f_moveThen f_moveOther a_out f_outMany a_kept), (a_text, aB G 2000 g_text)] := hD
          refine lv_goto (tgt := 0) hx hb d_R_token_28 (by decide) ?_
          exact ih0 v7 H locs ls (lpk_i hf hk0) ⟨hP, hD, hS⟩ (lv_sub hl [0] rfl)
        refine lv_aload_n hx hb d_R_token_0 rfl (lv_at hl 0 rfl) ?_
        obtain ⟨t1, hv2, hf⟩ := db_e hf
        refine call_i (isC := [0, 1]) (run_V (As := []) (rest := []) (ci := 12) (q0 := 0) hx hb hml hown htl (c_R_see l G Y  h0 a_all a_text a_saved a_undone a_told a_pile a_open a_size a_capped a_connected a_bestCost a_bestCrosses a_bestPart a_part a_trees a_nodes a_out a_kept f_raised f_undos f_reached f_length f_begin f_sort f_sign f_value f_word f_wrongAt f_badAt f_bad f_read f_side f_piled f_opened f_joins f_had f_treeMany f_nodeMany f_moveNode f_movePart f_moveFirst f_moveThen f_moveOther f_outMany g_text t1 hv2) mv_R_see k_1350 (hRk (by decide) (by decide)) hK hsk hS hP hD (isC := [0, 1]) rfl (by decide) rfl rfl rfl hl.1 rfl (lv_room (Nat.le_of_ble_eq_true rfl)) d_R_token_1) hP hD hS rfl rfl (fun H locs hP hD hS => ?_)
        have hP : va_P G.1 classes [(h0, O_R f_raised a_all a_text a_saved a_undone f_undos f_reached f_length f_begin f_sort f_sign f_value f_word f_wrongAt f_badAt f_bad a_told f_read f_side a_pile f_piled a_open f_opened f_joins f_had a_size a_capped a_connected a_bestCost a_bestCrosses a_bestPart a_part a_trees f_treeMany a_nodes f_nodeMany f_moveNode f_movePart f_moveFirst f_moveThen f_moveOther a_out f_outMany a_kept), (a_text, aB G 2000 g_text)] H := hP
        have hD : va_D A [(h0, O_R f_raised a_all a_text a_saved a_undone f_undos f_reached f_length f_begin f_sort f_sign f_value f_word f_wrongAt f_badAt f_bad a_told f_read f_side a_pile f_piled a_open f_opened f_joins f_had a_size a_capped a_connected a_bestCost a_bestCrosses a_bestPart a_part a_trees f_treeMany a_nodes f_nodeMany f_moveNode f_movePart f_moveFirst f_moveThen f_moveOther a_out f_outMany a_kept), (a_text, aB G 2000 g_text)] := hD
        refine lv_bipush (v := (10 : Int32)) hx hb d_R_token_4 (by decide) ?_
        refine lv_icmp_eq (tgt := 18) hx hb d_R_token_6 (by decide) (fun c3 => ?_) (fun c3 => ?_)
        · have hf := di_t c3 hf
          exact hJ18 f_reached H locs ls ⟨hP, hD, hS⟩ (lv_sub hl [0] rfl) hf
        · have hf := di_f c3 hf
          refine lv_aload_n hx hb d_R_token_9 rfl (lv_at hl 0 rfl) ?_
          obtain ⟨t4, hv5, hf⟩ := db_e hf
          refine call_i (isC := [0, 1]) (run_V (As := []) (rest := []) (ci := 12) (q0 := 0) hx hb hml hown htl (c_R_see l G Y  h0 a_all a_text a_saved a_undone a_told a_pile a_open a_size a_capped a_connected a_bestCost a_bestCrosses a_bestPart a_part a_trees a_nodes a_out a_kept f_raised f_undos f_reached f_length f_begin f_sort f_sign f_value f_word f_wrongAt f_badAt f_bad f_read f_side f_piled f_opened f_joins f_had f_treeMany f_nodeMany f_moveNode f_movePart f_moveFirst f_moveThen f_moveOther f_outMany g_text t4 hv5) mv_R_see k_1350 (hRk (by decide) (by decide)) hK hsk hS hP hD (isC := [0, 1]) rfl (by decide) rfl rfl rfl hl.1 rfl (lv_room (Nat.le_of_ble_eq_true rfl)) d_R_token_10) hP hD hS rfl rfl (fun H locs hP hD hS => ?_)
          have hP : va_P G.1 classes [(h0, O_R f_raised a_all a_text a_saved a_undone f_undos f_reached f_length f_begin f_sort f_sign f_value f_word f_wrongAt f_badAt f_bad a_told f_read f_side a_pile f_piled a_open f_opened f_joins f_had a_size a_capped a_connected a_bestCost a_bestCrosses a_bestPart a_part a_trees f_treeMany a_nodes f_nodeMany f_moveNode f_movePart f_moveFirst f_moveThen f_moveOther a_out f_outMany a_kept), (a_text, aB G 2000 g_text)] H := hP
          have hD : va_D A [(h0, O_R f_raised a_all a_text a_saved a_undone f_undos f_reached f_length f_begin f_sort f_sign f_value f_word f_wrongAt f_badAt f_bad a_told f_read f_side a_pile f_piled a_open f_opened f_joins f_had a_size a_capped a_connected a_bestCost a_bestCrosses a_bestPart a_part a_trees f_treeMany a_nodes f_nodeMany f_moveNode f_movePart f_moveFirst f_moveThen f_moveOther a_out f_outMany a_kept), (a_text, aB G 2000 g_text)] := hD
          refine lv_bipush (v := (32 : Int32)) hx hb d_R_token_13 (by decide) ?_
          refine lv_icmp_ne (tgt := 31) hx hb d_R_token_15 (by decide) (fun c6 => ?_) (fun c6 => ?_)
          · have hf := di_f c6 hf
            have hq0 := lpk_x hf hk0
            have hf := ex_y (f := fun y => R_token_a0 N f_length f_begin f_sort f_sign f_value f_word g_text y) hq0 hfo0
            have hf : R_token_31 N f_reached f_length f_begin f_sort f_sign f_value f_word g_text = some res := hf
            exact hJ31 f_reached f_begin f_sort f_sign f_value f_word H locs ls ⟨hP, hD, hS⟩ (lv_sub hl [0] rfl) hf
          · have hf := di_t c6 hf
            exact hJ18 f_reached H locs ls ⟨hP, hD, hS⟩ (lv_sub hl [0] rfl) hf
    exact hL0 N f_reached H locs ls hy0 ⟨hP, hD, hS⟩ hl
  exact hJ0 f_reached f_begin f_sort f_sign f_value f_word H locs ls ⟨hP, hD, hS⟩ (lv_sub hl [0] rfl) hf
set_option maxHeartbeats 4000000 in
set_option maxRecDepth 100000 in
theorem c_R_fails (l : Launch) (G : va_G × (Nat → ClassId)) (Y : (Nat → Nat) × (Nat → Nat)) (h0 : Nat) (a_all : Nat) (a_text : Nat) (a_saved : Nat) (a_undone : Nat) (a_told : Nat) (a_pile : Nat) (a_open : Nat) (a_size : Nat) (a_capped : Nat) (a_connected : Nat) (a_bestCost : Nat) (a_bestCrosses : Nat) (a_bestPart : Nat) (a_part : Nat) (a_trees : Nat) (a_nodes : Nat) (a_out : Nat) (a_kept : Nat) (f_raised : Int32) (f_undos : Int32) (f_reached : Int32) (f_length : Int32) (f_begin : Int32) (f_sort : Int32) (f_sign : Int32) (f_value : Int32) (f_word : Int64) (f_wrongAt : Int32) (f_badAt : Int32) (f_bad : Int32) (f_read : Int32) (f_side : Int32) (f_piled : Int32) (f_opened : Int32) (f_joins : Int32) (f_had : Int32) (f_treeMany : Int32) (f_nodeMany : Int32) (f_moveNode : Int32) (f_movePart : Int32) (f_moveFirst : Int32) (f_moveThen : Int32) (f_moveOther : Int32) (f_outMany : Int32) (res : Int32 × Int32) (hf : R_fails f_begin f_wrongAt = some res) : Ci l classes y_R_fails b_R_fails 1 (some .boolean) (rmk 0) G.1 (tyL G) Y [.ref h0] [(h0, O_R f_raised a_all a_text a_saved a_undone f_undos f_reached f_length f_begin f_sort f_sign f_value f_word f_wrongAt f_badAt f_bad a_told f_read f_side a_pile f_piled a_open f_opened f_joins f_had a_size a_capped a_connected a_bestCost a_bestCrosses a_bestPart a_part a_trees f_treeMany a_nodes f_nodeMany f_moveNode f_movePart f_moveFirst f_moveThen f_moveOther a_out f_outMany a_kept)] [(h0, O_R f_raised a_all a_text a_saved a_undone f_undos f_reached f_length f_begin f_sort f_sign f_value f_word res.2 f_badAt f_bad a_told f_read f_side a_pile f_piled a_open f_opened f_joins f_had a_size a_capped a_connected a_bestCost a_bestCrosses a_bestPart a_part a_trees f_treeMany a_nodes f_nodeMany f_moveNode f_movePart f_moveFirst f_moveThen f_moveOther a_out f_outMany a_kept)] res.1 := by
  refine entZ (by decide) (Nat.le_of_ble_eq_true rfl) ?_
  intro p e s m args below meth c ls A Q hx hb hml hown htl hK hsk wq hl hret
  obtain ⟨hP, hD, hS⟩ := wq
  have hl : lv_has ls 1 [(0, .ref h0)] := hl
  have hS : va_S A s.heap s.heap [] := hS
  obtain ⟨H, hH⟩ : ∃ H : Heap, H = s.heap := ⟨_, rfl⟩
  obtain ⟨locs, hlocs⟩ : ∃ z : List Loc, z = [] := ⟨_, rfl⟩
  rw [← hH] at hP
  replace hS : va_S A s.heap H locs := by rw [hH, hlocs]; exact hS
  suffices hgo : W p l e (rmk 0) s m args below meth c H locs 0 0 Q (F0 m 0 ls []) by rw [hH, hlocs] at hgo; exact hgo
  refine lv_aload_n hx hb d_R_fails_0 rfl (lv_at hl 0 rfl) ?_
  refine lv_aload_n hx hb d_R_fails_1 rfl (lv_at hl 0 rfl) ?_
  refine va_get (D := G.1) (ci := 12) (v := .int f_begin) (C := n_R) (T := T_R) (N := 44) hx hb htl iw_R hown hK hP 0 rfl rfl 8 (by decide) (htl _ k_1204) (fun _ h9 => h9) rfl d_R_fails_2 ?_
  refine va_put (D := G.1) (ci := 12) (v := .int f_begin) (ty := .int) (C := n_R) (T := T_R) (N := 44) hx hb htl iw_R ty_R ty_R_ok nm_R hown hK hP hD hS 0 rfl rfl 13 (by decide) (htl _ k_1209) (fun _ h9 => h9) rfl (by decide +kernel) rfl rfl (Nat.le_of_ble_eq_true rfl) d_R_fails_5 (fun H locs hP hD hS => ?_)
  have hP : va_P G.1 classes [(h0, O_R f_raised a_all a_text a_saved a_undone f_undos f_reached f_length f_begin f_sort f_sign f_value f_word f_begin f_badAt f_bad a_told f_read f_side a_pile f_piled a_open f_opened f_joins f_had a_size a_capped a_connected a_bestCost a_bestCrosses a_bestPart a_part a_trees f_treeMany a_nodes f_nodeMany f_moveNode f_movePart f_moveFirst f_moveThen f_moveOther a_out f_outMany a_kept)] H := hP
  have hD : va_D A [(h0, O_R f_raised a_all a_text a_saved a_undone f_undos f_reached f_length f_begin f_sort f_sign f_value f_word f_begin f_badAt f_bad a_told f_read f_side a_pile f_piled a_open f_opened f_joins f_had a_size a_capped a_connected a_bestCost a_bestCrosses a_bestPart a_part a_trees f_treeMany a_nodes f_nodeMany f_moveNode f_movePart f_moveFirst f_moveThen f_moveOther a_out f_outMany a_kept)] := hD
  refine lv_iconst (v := (0 : Int32)) hx hb d_R_fails_8 (by decide) ?_
  cases hf
  exact hret 9 ls H locs z_0 hP hS d_R_fails_9
set_option maxHeartbeats 4000000 in
set_option maxRecDepth 100000 in
theorem c_R_isBad (l : Launch) (G : va_G × (Nat → ClassId)) (Y : (Nat → Nat) × (Nat → Nat)) (h0 : Nat) (a_all : Nat) (a_text : Nat) (a_saved : Nat) (a_undone : Nat) (a_told : Nat) (a_pile : Nat) (a_open : Nat) (a_size : Nat) (a_capped : Nat) (a_connected : Nat) (a_bestCost : Nat) (a_bestCrosses : Nat) (a_bestPart : Nat) (a_part : Nat) (a_trees : Nat) (a_nodes : Nat) (a_out : Nat) (a_kept : Nat) (f_raised : Int32) (f_undos : Int32) (f_reached : Int32) (f_length : Int32) (f_begin : Int32) (f_sort : Int32) (f_sign : Int32) (f_value : Int32) (f_word : Int64) (f_wrongAt : Int32) (f_badAt : Int32) (f_bad : Int32) (f_read : Int32) (f_side : Int32) (f_piled : Int32) (f_opened : Int32) (f_joins : Int32) (f_had : Int32) (f_treeMany : Int32) (f_nodeMany : Int32) (f_moveNode : Int32) (f_movePart : Int32) (f_moveFirst : Int32) (f_moveThen : Int32) (f_moveOther : Int32) (f_outMany : Int32) (x1 : Int32) (x2 : Int32) (res : Int32 × Int32) (hf : R_isBad f_badAt f_bad x1 x2 = some res) : Cv l classes y_R_isBad b_R_isBad 3 none (rmk 0) G.1 (tyL G) Y [.ref h0, .int x1, .int x2] [(h0, O_R f_raised a_all a_text a_saved a_undone f_undos f_reached f_length f_begin f_sort f_sign f_value f_word f_wrongAt f_badAt f_bad a_told f_read f_side a_pile f_piled a_open f_opened f_joins f_had a_size a_capped a_connected a_bestCost a_bestCrosses a_bestPart a_part a_trees f_treeMany a_nodes f_nodeMany f_moveNode f_movePart f_moveFirst f_moveThen f_moveOther a_out f_outMany a_kept)] [(h0, O_R f_raised a_all a_text a_saved a_undone f_undos f_reached f_length f_begin f_sort f_sign f_value f_word f_wrongAt res.1 res.2 a_told f_read f_side a_pile f_piled a_open f_opened f_joins f_had a_size a_capped a_connected a_bestCost a_bestCrosses a_bestPart a_part a_trees f_treeMany a_nodes f_nodeMany f_moveNode f_movePart f_moveFirst f_moveThen f_moveOther a_out f_outMany a_kept)] := by
  refine entV (by decide) (Nat.le_of_ble_eq_true rfl) ?_
  intro p e s m args below meth c ls A Q hx hb hml hown htl hK hsk wq hl hret
  obtain ⟨hP, hD, hS⟩ := wq
  have hl : lv_has ls 3 [(0, .ref h0), (1, .int x1), (2, .int x2)] := hl
  have hS : va_S A s.heap s.heap [] := hS
  obtain ⟨H, hH⟩ : ∃ H : Heap, H = s.heap := ⟨_, rfl⟩
  obtain ⟨locs, hlocs⟩ : ∃ z : List Loc, z = [] := ⟨_, rfl⟩
  rw [← hH] at hP
  replace hS : va_S A s.heap H locs := by rw [hH, hlocs]; exact hS
  suffices hgo : W p l e (rmk 0) s m args below meth c H locs 0 0 Q (F0 m 0 ls []) by rw [hH, hlocs] at hgo; exact hgo
  have hJ31 : ∀ (f_badAt : Int32) (f_bad : Int32) (H : Heap) (locs : List Loc) (ls : Array Slot), PDS G.1 classes A s [(h0, O_R f_raised a_all a_text a_saved a_undone f_undos f_reached f_length f_begin f_sort f_sign f_value f_word f_wrongAt f_badAt f_bad a_told f_read f_side a_pile f_piled a_open f_opened f_joins f_had a_size a_capped a_connected a_bestCost a_bestCrosses a_bestPart a_part a_trees f_treeMany a_nodes f_nodeMany f_moveNode f_movePart f_moveFirst f_moveThen f_moveOther a_out f_outMany a_kept)] H locs → lv_has ls 3 [(0, .ref h0), (1, .int x1), (2, .int x2)] → R_isBad_31 f_badAt f_bad x1 x2 = some res → W p l e (rmk 0) s m args below meth c H locs 0 0 Q (F0 m 31 ls []) := by
    intro f_badAt f_bad H locs ls wq hl hf
    obtain ⟨hP, hD, hS⟩ := wq
    refine lv_aload_n hx hb d_R_isBad_31 rfl (lv_at hl 0 rfl) ?_
    refine lv_iload_n hx hb d_R_isBad_32 rfl (lv_at hl 1 rfl) ?_
    refine va_put (D := G.1) (ci := 12) (v := .int x1) (ty := .int) (C := n_R) (T := T_R) (N := 44) hx hb htl iw_R ty_R ty_R_ok nm_R hown hK hP hD hS 0 rfl rfl 15 (by decide) (htl _ k_1211) (fun _ h9 => h9) rfl (by decide +kernel) rfl rfl (Nat.le_of_ble_eq_true rfl) d_R_isBad_33 (fun H locs hP hD hS => ?_)
    have hP : va_P G.1 classes [(h0, O_R f_raised a_all a_text a_saved a_undone f_undos f_reached f_length f_begin f_sort f_sign f_value f_word f_wrongAt f_badAt x1 a_told f_read f_side a_pile f_piled a_open f_opened f_joins f_had a_size a_capped a_connected a_bestCost a_bestCrosses a_bestPart a_part a_trees f_treeMany a_nodes f_nodeMany f_moveNode f_movePart f_moveFirst f_moveThen f_moveOther a_out f_outMany a_kept)] H := hP
    have hD : va_D A [(h0, O_R f_raised a_all a_text a_saved a_undone f_undos f_reached f_length f_begin f_sort f_sign f_value f_word f_wrongAt f_badAt x1 a_told f_read f_side a_pile f_piled a_open f_opened f_joins f_had a_size a_capped a_connected a_bestCost a_bestCrosses a_bestPart a_part a_trees f_treeMany a_nodes f_nodeMany f_moveNode f_movePart f_moveFirst f_moveThen f_moveOther a_out f_outMany a_kept)] := hD
    refine lv_aload_n hx hb d_R_isBad_36 rfl (lv_at hl 0 rfl) ?_
    refine lv_iload_n hx hb d_R_isBad_37 rfl (lv_at hl 2 rfl) ?_
    refine va_put (D := G.1) (ci := 12) (v := .int x2) (ty := .int) (C := n_R) (T := T_R) (N := 44) hx hb htl iw_R ty_R ty_R_ok nm_R hown hK hP hD hS 0 rfl rfl 14 (by decide) (htl _ k_1210) (fun _ h9 => h9) rfl (by decide +kernel) rfl rfl (Nat.le_of_ble_eq_true rfl) d_R_isBad_38 (fun H locs hP hD hS => ?_)
    have hP : va_P G.1 classes [(h0, O_R f_raised a_all a_text a_saved a_undone f_undos f_reached f_length f_begin f_sort f_sign f_value f_word f_wrongAt x2 x1 a_told f_read f_side a_pile f_piled a_open f_opened f_joins f_had a_size a_capped a_connected a_bestCost a_bestCrosses a_bestPart a_part a_trees f_treeMany a_nodes f_nodeMany f_moveNode f_movePart f_moveFirst f_moveThen f_moveOther a_out f_outMany a_kept)] H := hP
    have hD : va_D A [(h0, O_R f_raised a_all a_text a_saved a_undone f_undos f_reached f_length f_begin f_sort f_sign f_value f_word f_wrongAt x2 x1 a_told f_read f_side a_pile f_piled a_open f_opened f_joins f_had a_size a_capped a_connected a_bestCost a_bestCrosses a_bestPart a_part a_trees f_treeMany a_nodes f_nodeMany f_moveNode f_movePart f_moveFirst f_moveThen f_moveOther a_out f_outMany a_kept)] := hD
    cases hf
    exact hret 41 ls H locs hP hS d_R_isBad_41
  refine lv_aload_n hx hb d_R_isBad_0 rfl (lv_at hl 0 rfl) ?_
  refine va_get (D := G.1) (ci := 12) (v := .int f_bad) (C := n_R) (T := T_R) (N := 44) hx hb htl iw_R hown hK hP 0 rfl rfl 15 (by decide) (htl _ k_1211) (fun _ h9 => h9) rfl d_R_isBad_1 ?_
  refine lv_if_eq (tgt := 31) hx hb d_R_isBad_4 (by decide) (fun c1 => ?_) (fun c1 => ?_)
  · have hf := di_t c1 hf
    exact hJ31 f_badAt f_bad H locs ls ⟨hP, hD, hS⟩ (lv_sub hl [0, 1, 2] rfl) hf
  · have hf := di_f c1 hf
    refine lv_iload_n hx hb d_R_isBad_7 rfl (lv_at hl 2 rfl) ?_
    refine lv_aload_n hx hb d_R_isBad_8 rfl (lv_at hl 0 rfl) ?_
    refine va_get (D := G.1) (ci := 12) (v := .int f_badAt) (C := n_R) (T := T_R) (N := 44) hx hb htl iw_R hown hK hP 0 rfl rfl 14 (by decide) (htl _ k_1210) (fun _ h9 => h9) rfl d_R_isBad_9 ?_
    refine lv_icmp_lt (tgt := 31) hx hb d_R_isBad_12 (by decide) (fun c2 => ?_) (fun c2 => ?_)
    · have hf := di_t c2 hf
      exact hJ31 f_badAt f_bad H locs ls ⟨hP, hD, hS⟩ (lv_sub hl [0, 1, 2] rfl) hf
    · have hf := di_f c2 hf
      refine lv_iload_n hx hb d_R_isBad_15 rfl (lv_at hl 2 rfl) ?_
      refine lv_aload_n hx hb d_R_isBad_16 rfl (lv_at hl 0 rfl) ?_
      refine va_get (D := G.1) (ci := 12) (v := .int f_badAt) (C := n_R) (T := T_R) (N := 44) hx hb htl iw_R hown hK hP 0 rfl rfl 14 (by decide) (htl _ k_1210) (fun _ h9 => h9) rfl d_R_isBad_17 ?_
      refine lv_icmp_ne (tgt := 41) hx hb d_R_isBad_20 (by decide) (fun c3 => ?_) (fun c3 => ?_)
      · have hf := di_f c3 hf
        cases hf
        exact hret 41 ls H locs hP hS d_R_isBad_41
      · have hf := di_t c3 hf
        refine lv_iload_n hx hb d_R_isBad_23 rfl (lv_at hl 1 rfl) ?_
        refine lv_aload_n hx hb d_R_isBad_24 rfl (lv_at hl 0 rfl) ?_
        refine va_get (D := G.1) (ci := 12) (v := .int f_bad) (C := n_R) (T := T_R) (N := 44) hx hb htl iw_R hown hK hP 0 rfl rfl 15 (by decide) (htl _ k_1211) (fun _ h9 => h9) rfl d_R_isBad_25 ?_
        refine lv_icmp_ge (tgt := 41) hx hb d_R_isBad_28 (by decide) (fun c4 => ?_) (fun c4 => ?_)
        · have hf := di_t c4 hf
          cases hf
          exact hret 41 ls H locs hP hS d_R_isBad_41
        · have hf := di_f c4 hf
          exact hJ31 f_badAt f_bad H locs ls ⟨hP, hD, hS⟩ (lv_sub hl [0, 1, 2] rfl) hf
set_option maxHeartbeats 4000000 in
set_option maxRecDepth 100000 in
theorem c_R_takes (l : Launch) (G : va_G × (Nat → ClassId)) (Y : (Nat → Nat) × (Nat → Nat)) (h0 : Nat) (a_all : Nat) (a_text : Nat) (a_saved : Nat) (a_undone : Nat) (a_told : Nat) (a_pile : Nat) (a_open : Nat) (a_size : Nat) (a_capped : Nat) (a_connected : Nat) (a_bestCost : Nat) (a_bestCrosses : Nat) (a_bestPart : Nat) (a_part : Nat) (a_trees : Nat) (a_nodes : Nat) (a_out : Nat) (a_kept : Nat) (f_raised : Int32) (f_undos : Int32) (f_reached : Int32) (f_length : Int32) (f_begin : Int32) (f_sort : Int32) (f_sign : Int32) (f_value : Int32) (f_word : Int64) (f_wrongAt : Int32) (f_badAt : Int32) (f_bad : Int32) (f_read : Int32) (f_side : Int32) (f_piled : Int32) (f_opened : Int32) (f_joins : Int32) (f_had : Int32) (f_treeMany : Int32) (f_nodeMany : Int32) (f_moveNode : Int32) (f_movePart : Int32) (f_moveFirst : Int32) (f_moveThen : Int32) (f_moveOther : Int32) (f_outMany : Int32) (g_text : Nat → Int32) (x1 : Int32) (x2 : Int32) (N : Nat) (res : Int32 × Int32 × Int32 × Int32 × Int32 × Int32 × Int64 × Int32 × Int32 × Int32 × Int32) (hf : R_takes N f_reached f_length f_begin f_sort f_sign f_value f_word f_wrongAt f_badAt f_bad f_read g_text x1 x2 = some res) : Ci l classes y_R_takes b_R_takes 3 (some .boolean) (rmk 2) G.1 (tyL G) Y [.ref h0, .int x1, .int x2] [(h0, O_R f_raised a_all a_text a_saved a_undone f_undos f_reached f_length f_begin f_sort f_sign f_value f_word f_wrongAt f_badAt f_bad a_told f_read f_side a_pile f_piled a_open f_opened f_joins f_had a_size a_capped a_connected a_bestCost a_bestCrosses a_bestPart a_part a_trees f_treeMany a_nodes f_nodeMany f_moveNode f_movePart f_moveFirst f_moveThen f_moveOther a_out f_outMany a_kept), (a_text, aB G 2000 g_text)] [(h0, O_R f_raised a_all a_text a_saved a_undone f_undos res.2.1 f_length res.2.2.1 res.2.2.2.1 res.2.2.2.2.1 res.2.2.2.2.2.1 res.2.2.2.2.2.2.1 res.2.2.2.2.2.2.2.1 res.2.2.2.2.2.2.2.2.1 res.2.2.2.2.2.2.2.2.2.1 a_told res.2.2.2.2.2.2.2.2.2.2 f_side a_pile f_piled a_open f_opened f_joins f_had a_size a_capped a_connected a_bestCost a_bestCrosses a_bestPart a_part a_trees f_treeMany a_nodes f_nodeMany f_moveNode f_movePart f_moveFirst f_moveThen f_moveOther a_out f_outMany a_kept), (a_text, aB G 2000 g_text)] res.1 := by
  refine entZ (by decide) (Nat.le_of_ble_eq_true rfl) ?_
  intro p e s m args below meth c ls A Q hx hb hml hown htl hK hsk wq hl hret
  obtain ⟨hP, hD, hS⟩ := wq
  have hl : lv_has ls 3 [(0, .ref h0), (1, .int x1), (2, .int x2)] := hl
  have hS : va_S A s.heap s.heap [] := hS
  obtain ⟨H, hH⟩ : ∃ H : Heap, H = s.heap := ⟨_, rfl⟩
  obtain ⟨locs, hlocs⟩ : ∃ z : List Loc, z = [] := ⟨_, rfl⟩
  rw [← hH] at hP
  replace hS : va_S A s.heap H locs := by rw [hH, hlocs]; exact hS
  suffices hgo : W p l e (rmk 2) s m args below meth c H locs 0 0 Q (F0 m 0 ls []) by rw [hH, hlocs] at hgo; exact hgo
  have hJ45 : ∀ (f_reached : Int32) (f_begin : Int32) (f_sort : Int32) (f_sign : Int32) (f_value : Int32) (f_word : Int64) (f_wrongAt : Int32) (f_badAt : Int32) (f_bad : Int32) (f_read : Int32) (H : Heap) (locs : List Loc) (ls : Array Slot), PDS G.1 classes A s [(h0, O_R f_raised a_all a_text a_saved a_undone f_undos f_reached f_length f_begin f_sort f_sign f_value f_word f_wrongAt f_badAt f_bad a_told f_read f_side a_pile f_piled a_open f_opened f_joins f_had a_size a_capped a_connected a_bestCost a_bestCrosses a_bestPart a_part a_trees f_treeMany a_nodes f_nodeMany f_moveNode f_movePart f_moveFirst f_moveThen f_moveOther a_out f_outMany a_kept), (a_text, aB G 2000 g_text)] H locs → lv_has ls 3 [(0, .ref h0)] → R_takes_45 N f_reached f_length f_begin f_sort f_sign f_value f_word f_wrongAt f_badAt f_bad f_read g_text = some res → W p l e (rmk 2) s m args below meth c H locs 0 0 Q (F0 m 45 ls []) := by
    intro f_reached f_begin f_sort f_sign f_value f_word f_wrongAt f_badAt f_bad f_read H locs ls wq hl hf
    obtain ⟨hP, hD, hS⟩ := wq
    refine lv_aload_n hx hb d_R_takes_45 rfl (lv_at hl 0 rfl) ?_
    obtain ⟨t8, hv9, hf⟩ := db_e hf
    refine call_v (isC := [0, 1]) (run_V (As := []) (rest := []) (ci := 12) (q0 := 0) hx hb hml hown htl (c_R_token l G Y  h0 a_all a_text a_saved a_undone a_told a_pile a_open a_size a_capped a_connected a_bestCost a_bestCrosses a_bestPart a_part a_trees a_nodes a_out a_kept f_raised f_undos f_reached f_length f_begin f_sort f_sign f_value f_word f_wrongAt f_badAt f_bad f_read f_side f_piled f_opened f_joins f_had f_treeMany f_nodeMany f_moveNode f_movePart f_moveFirst f_moveThen f_moveOther f_outMany g_text N t8 hv9) mv_R_token k_1346 (hRk (by decide) (by decide)) hK hsk hS hP hD (isC := [0, 1]) rfl (by decide) rfl rfl rfl hl.1 rfl (lv_room (Nat.le_of_ble_eq_true rfl)) d_R_takes_46) hP hD hS rfl rfl (fun H locs hP hD hS => ?_)
    have hP : va_P G.1 classes [(h0, O_R f_raised a_all a_text a_saved a_undone f_undos t8.1 f_length t8.2.1 t8.2.2.1 t8.2.2.2.1 t8.2.2.2.2.1 t8.2.2.2.2.2 f_wrongAt f_badAt f_bad a_told f_read f_side a_pile f_piled a_open f_opened f_joins f_had a_size a_capped a_connected a_bestCost a_bestCrosses a_bestPart a_part a_trees f_treeMany a_nodes f_nodeMany f_moveNode f_movePart f_moveFirst f_moveThen f_moveOther a_out f_outMany a_kept), (a_text, aB G 2000 g_text)] H := hP
    have hD : va_D A [(h0, O_R f_raised a_all a_text a_saved a_undone f_undos t8.1 f_length t8.2.1 t8.2.2.1 t8.2.2.2.1 t8.2.2.2.2.1 t8.2.2.2.2.2 f_wrongAt f_badAt f_bad a_told f_read f_side a_pile f_piled a_open f_opened f_joins f_had a_size a_capped a_connected a_bestCost a_bestCrosses a_bestPart a_part a_trees f_treeMany a_nodes f_nodeMany f_moveNode f_movePart f_moveFirst f_moveThen f_moveOther a_out f_outMany a_kept), (a_text, aB G 2000 g_text)] := hD
    refine lv_iconst (v := (1 : Int32)) hx hb d_R_takes_49 (by decide) ?_
    cases hf
    exact hret 50 ls H locs z_1 hP hS d_R_takes_50
  refine lv_aload_n hx hb d_R_takes_0 rfl (lv_at hl 0 rfl) ?_
  refine va_get (D := G.1) (ci := 12) (v := .int f_sort) (C := n_R) (T := T_R) (N := 44) hx hb htl iw_R hown hK hP 0 rfl rfl 9 (by decide) (htl _ k_1205) (fun _ h9 => h9) rfl d_R_takes_1 ?_
  refine lv_iconst (v := (3 : Int32)) hx hb d_R_takes_4 (by decide) ?_
  refine lv_icmp_eq (tgt := 13) hx hb d_R_takes_5 (by decide) (fun c1 => ?_) (fun c1 => ?_)
  · have hf := di_t c1 hf
    refine lv_aload_n hx hb d_R_takes_13 rfl (lv_at hl 0 rfl) ?_
    refine lv_aload_n hx hb d_R_takes_14 rfl (lv_at hl 0 rfl) ?_
    refine va_get (D := G.1) (ci := 12) (v := .int f_value) (C := n_R) (T := T_R) (N := 44) hx hb htl iw_R hown hK hP 0 rfl rfl 11 (by decide) (htl _ k_1207) (fun _ h9 => h9) rfl d_R_takes_15 ?_
    refine va_put (D := G.1) (ci := 12) (v := .int f_value) (ty := .int) (C := n_R) (T := T_R) (N := 44) hx hb htl iw_R ty_R ty_R_ok nm_R hown hK hP hD hS 0 rfl rfl 17 (by decide) (htl _ k_1213) (fun _ h9 => h9) rfl (by decide +kernel) rfl rfl (Nat.le_of_ble_eq_true rfl) d_R_takes_18 (fun H locs hP hD hS => ?_)
    have hP : va_P G.1 classes [(h0, O_R f_raised a_all a_text a_saved a_undone f_undos f_reached f_length f_begin f_sort f_sign f_value f_word f_wrongAt f_badAt f_bad a_told f_value f_side a_pile f_piled a_open f_opened f_joins f_had a_size a_capped a_connected a_bestCost a_bestCrosses a_bestPart a_part a_trees f_treeMany a_nodes f_nodeMany f_moveNode f_movePart f_moveFirst f_moveThen f_moveOther a_out f_outMany a_kept), (a_text, aB G 2000 g_text)] H := hP
    have hD : va_D A [(h0, O_R f_raised a_all a_text a_saved a_undone f_undos f_reached f_length f_begin f_sort f_sign f_value f_word f_wrongAt f_badAt f_bad a_told f_value f_side a_pile f_piled a_open f_opened f_joins f_had a_size a_capped a_connected a_bestCost a_bestCrosses a_bestPart a_part a_trees f_treeMany a_nodes f_nodeMany f_moveNode f_movePart f_moveFirst f_moveThen f_moveOther a_out f_outMany a_kept), (a_text, aB G 2000 g_text)] := hD
    refine lv_aload_n hx hb d_R_takes_21 rfl (lv_at hl 0 rfl) ?_
    refine va_get (D := G.1) (ci := 12) (v := .int f_value) (C := n_R) (T := T_R) (N := 44) hx hb htl iw_R hown hK hP 0 rfl rfl 11 (by decide) (htl _ k_1207) (fun _ h9 => h9) rfl d_R_takes_22 ?_
    refine lv_i2l hx hb d_R_takes_25 rfl ?_
    refine lv_iload_n hx hb d_R_takes_26 rfl (lv_at hl 1 rfl) ?_
    refine lv_i2l hx hb d_R_takes_27 rfl ?_
    refine lv_iload_n hx hb d_R_takes_28 rfl (lv_at hl 2 rfl) ?_
    refine lv_i2l hx hb d_R_takes_29 rfl ?_
    refine call_i (isC := []) (run_S (As := [.long f_value.toInt64, .long x1.toInt64, .long x2.toInt64]) (rest := []) hx hb hml hown htl (c_R_in l G Y  f_value.toInt64 x1.toInt64 x2.toInt64 _ rfl) ms_R_in k_1356 (hRk (by decide) (by decide)) hK hsk hS hP hD (isC := []) rfl (by decide) rfl hl.1 rfl (lv_room (Nat.le_of_ble_eq_true rfl)) d_R_takes_30) hP hD hS rfl rfl (fun H locs hP hD hS => ?_)
    have hP : va_P G.1 classes [(h0, O_R f_raised a_all a_text a_saved a_undone f_undos f_reached f_length f_begin f_sort f_sign f_value f_word f_wrongAt f_badAt f_bad a_told f_value f_side a_pile f_piled a_open f_opened f_joins f_had a_size a_capped a_connected a_bestCost a_bestCrosses a_bestPart a_part a_trees f_treeMany a_nodes f_nodeMany f_moveNode f_movePart f_moveFirst f_moveThen f_moveOther a_out f_outMany a_kept), (a_text, aB G 2000 g_text)] H := hP
    have hD : va_D A [(h0, O_R f_raised a_all a_text a_saved a_undone f_undos f_reached f_length f_begin f_sort f_sign f_value f_word f_wrongAt f_badAt f_bad a_told f_value f_side a_pile f_piled a_open f_opened f_joins f_had a_size a_capped a_connected a_bestCost a_bestCrosses a_bestPart a_part a_trees f_treeMany a_nodes f_nodeMany f_moveNode f_movePart f_moveFirst f_moveThen f_moveOther a_out f_outMany a_kept), (a_text, aB G 2000 g_text)] := hD
    refine lv_if_ne (tgt := 45) hx hb d_R_takes_33 (by decide) (fun c2 => ?_) (fun c2 => ?_)
    · have hf := di_f c2 hf
      exact hJ45 f_reached f_begin f_sort f_sign f_value f_word f_wrongAt f_badAt f_bad f_value H locs ls ⟨hP, hD, hS⟩ (lv_sub hl [0] rfl) hf
    · have hf := di_t c2 hf
      refine lv_aload_n hx hb d_R_takes_36 rfl (lv_at hl 0 rfl) ?_
      refine lv_iconst (v := (2 : Int32)) hx hb d_R_takes_37 (by decide) ?_
      refine lv_aload_n hx hb d_R_takes_38 rfl (lv_at hl 0 rfl) ?_
      refine va_get (D := G.1) (ci := 12) (v := .int f_begin) (C := n_R) (T := T_R) (N := 44) hx hb htl iw_R hown hK hP 0 rfl rfl 8 (by decide) (htl _ k_1204) (fun _ h9 => h9) rfl d_R_takes_39 ?_
      obtain ⟨t3, hv4, hf⟩ := db_e hf
      refine call_v (isC := [0]) (run_V (As := [.int (2 : Int32), .int f_begin]) (rest := []) (ci := 12) (q0 := 0) hx hb hml hown htl (c_R_isBad l G Y  h0 a_all a_text a_saved a_undone a_told a_pile a_open a_size a_capped a_connected a_bestCost a_bestCrosses a_bestPart a_part a_trees a_nodes a_out a_kept f_raised f_undos f_reached f_length f_begin f_sort f_sign f_value f_word f_wrongAt f_badAt f_bad f_value f_side f_piled f_opened f_joins f_had f_treeMany f_nodeMany f_moveNode f_movePart f_moveFirst f_moveThen f_moveOther f_outMany (2 : Int32) f_begin t3 hv4) mv_R_isBad k_1370 (hRk (by decide) (by decide)) hK hsk hS hP hD (isC := [0]) rfl (by decide) rfl rfl rfl hl.1 rfl (lv_room (Nat.le_of_ble_eq_true rfl)) d_R_takes_42) hP hD hS rfl rfl (fun H locs hP hD hS => ?_)
      have hP : va_P G.1 classes [(h0, O_R f_raised a_all a_text a_saved a_undone f_undos f_reached f_length f_begin f_sort f_sign f_value f_word f_wrongAt t3.1 t3.2 a_told f_value f_side a_pile f_piled a_open f_opened f_joins f_had a_size a_capped a_connected a_bestCost a_bestCrosses a_bestPart a_part a_trees f_treeMany a_nodes f_nodeMany f_moveNode f_movePart f_moveFirst f_moveThen f_moveOther a_out f_outMany a_kept), (a_text, aB G 2000 g_text)] H := hP
      have hD : va_D A [(h0, O_R f_raised a_all a_text a_saved a_undone f_undos f_reached f_length f_begin f_sort f_sign f_value f_word f_wrongAt t3.1 t3.2 a_told f_value f_side a_pile f_piled a_open f_opened f_joins f_had a_size a_capped a_connected a_bestCost a_bestCrosses a_bestPart a_part a_trees f_treeMany a_nodes f_nodeMany f_moveNode f_movePart f_moveFirst f_moveThen f_moveOther a_out f_outMany a_kept), (a_text, aB G 2000 g_text)] := hD
      exact hJ45 f_reached f_begin f_sort f_sign f_value f_word f_wrongAt t3.1 t3.2 f_value H locs ls ⟨hP, hD, hS⟩ (lv_sub hl [0] rfl) hf
  · have hf := di_f c1 hf
    refine lv_aload_n hx hb d_R_takes_8 rfl (lv_at hl 0 rfl) ?_
    obtain ⟨t5, hv6, hf⟩ := db_e hf
    refine call_i (isC := [0]) (run_V (As := []) (rest := []) (ci := 12) (q0 := 0) hx hb hml hown htl (c_R_fails l G Y  h0 a_all a_text a_saved a_undone a_told a_pile a_open a_size a_capped a_connected a_bestCost a_bestCrosses a_bestPart a_part a_trees a_nodes a_out a_kept f_raised f_undos f_reached f_length f_begin f_sort f_sign f_value f_word f_wrongAt f_badAt f_bad f_read f_side f_piled f_opened f_joins f_had f_treeMany f_nodeMany f_moveNode f_movePart f_moveFirst f_moveThen f_moveOther f_outMany t5 hv6) mv_R_fails k_1379 (hRk (by decide) (by decide)) hK hsk hS hP hD (isC := [0]) rfl (by decide) rfl rfl rfl hl.1 rfl (lv_room (Nat.le_of_ble_eq_true rfl)) d_R_takes_9) hP hD hS rfl rfl (fun H locs hP hD hS => ?_)
    have hP : va_P G.1 classes [(h0, O_R f_raised a_all a_text a_saved a_undone f_undos f_reached f_length f_begin f_sort f_sign f_value f_word t5.2 f_badAt f_bad a_told f_read f_side a_pile f_piled a_open f_opened f_joins f_had a_size a_capped a_connected a_bestCost a_bestCrosses a_bestPart a_part a_trees f_treeMany a_nodes f_nodeMany f_moveNode f_movePart f_moveFirst f_moveThen f_moveOther a_out f_outMany a_kept), (a_text, aB G 2000 g_text)] H := hP
    have hD : va_D A [(h0, O_R f_raised a_all a_text a_saved a_undone f_undos f_reached f_length f_begin f_sort f_sign f_value f_word t5.2 f_badAt f_bad a_told f_read f_side a_pile f_piled a_open f_opened f_joins f_had a_size a_capped a_connected a_bestCost a_bestCrosses a_bestPart a_part a_trees f_treeMany a_nodes f_nodeMany f_moveNode f_movePart f_moveFirst f_moveThen f_moveOther a_out f_outMany a_kept), (a_text, aB G 2000 g_text)] := hD
    obtain ⟨c7, hf⟩ := dk_e hf
    cases hf
    exact hret 12 ls H locs c7 hP hS d_R_takes_12
set_option maxHeartbeats 4000000 in
set_option maxRecDepth 100000 in
theorem c_R_takesSign (l : Launch) (G : va_G × (Nat → ClassId)) (Y : (Nat → Nat) × (Nat → Nat)) (h0 : Nat) (a_all : Nat) (a_text : Nat) (a_saved : Nat) (a_undone : Nat) (a_told : Nat) (a_pile : Nat) (a_open : Nat) (a_size : Nat) (a_capped : Nat) (a_connected : Nat) (a_bestCost : Nat) (a_bestCrosses : Nat) (a_bestPart : Nat) (a_part : Nat) (a_trees : Nat) (a_nodes : Nat) (a_out : Nat) (a_kept : Nat) (f_raised : Int32) (f_undos : Int32) (f_reached : Int32) (f_length : Int32) (f_begin : Int32) (f_sort : Int32) (f_sign : Int32) (f_value : Int32) (f_word : Int64) (f_wrongAt : Int32) (f_badAt : Int32) (f_bad : Int32) (f_read : Int32) (f_side : Int32) (f_piled : Int32) (f_opened : Int32) (f_joins : Int32) (f_had : Int32) (f_treeMany : Int32) (f_nodeMany : Int32) (f_moveNode : Int32) (f_movePart : Int32) (f_moveFirst : Int32) (f_moveThen : Int32) (f_moveOther : Int32) (f_outMany : Int32) (g_text : Nat → Int32) (x1 : Int32) (N : Nat) (res : Int32 × Int32 × Int32 × Int32 × Int32 × Int32 × Int64 × Int32) (hf : R_takesSign N f_reached f_length f_begin f_sort f_sign f_value f_word f_wrongAt g_text x1 = some res) : Ci l classes y_R_takesSign b_R_takesSign 2 (some .boolean) (rmk 2) G.1 (tyL G) Y [.ref h0, .int x1] [(h0, O_R f_raised a_all a_text a_saved a_undone f_undos f_reached f_length f_begin f_sort f_sign f_value f_word f_wrongAt f_badAt f_bad a_told f_read f_side a_pile f_piled a_open f_opened f_joins f_had a_size a_capped a_connected a_bestCost a_bestCrosses a_bestPart a_part a_trees f_treeMany a_nodes f_nodeMany f_moveNode f_movePart f_moveFirst f_moveThen f_moveOther a_out f_outMany a_kept), (a_text, aB G 2000 g_text)] [(h0, O_R f_raised a_all a_text a_saved a_undone f_undos res.2.1 f_length res.2.2.1 res.2.2.2.1 res.2.2.2.2.1 res.2.2.2.2.2.1 res.2.2.2.2.2.2.1 res.2.2.2.2.2.2.2 f_badAt f_bad a_told f_read f_side a_pile f_piled a_open f_opened f_joins f_had a_size a_capped a_connected a_bestCost a_bestCrosses a_bestPart a_part a_trees f_treeMany a_nodes f_nodeMany f_moveNode f_movePart f_moveFirst f_moveThen f_moveOther a_out f_outMany a_kept), (a_text, aB G 2000 g_text)] res.1 := by
  refine entZ (by decide) (Nat.le_of_ble_eq_true rfl) ?_
  intro p e s m args below meth c ls A Q hx hb hml hown htl hK hsk wq hl hret
  obtain ⟨hP, hD, hS⟩ := wq
  have hl : lv_has ls 2 [(0, .ref h0), (1, .int x1)] := hl
  have hS : va_S A s.heap s.heap [] := hS
  obtain ⟨H, hH⟩ : ∃ H : Heap, H = s.heap := ⟨_, rfl⟩
  obtain ⟨locs, hlocs⟩ : ∃ z : List Loc, z = [] := ⟨_, rfl⟩
  rw [← hH] at hP
  replace hS : va_S A s.heap H locs := by rw [hH, hlocs]; exact hS
  suffices hgo : W p l e (rmk 2) s m args below meth c H locs 0 0 Q (F0 m 0 ls []) by rw [hH, hlocs] at hgo; exact hgo
  have hJ16 : ∀ (f_reached : Int32) (f_begin : Int32) (f_sort : Int32) (f_sign : Int32) (f_value : Int32) (f_word : Int64) (f_wrongAt : Int32) (H : Heap) (locs : List Loc) (ls : Array Slot), PDS G.1 classes A s [(h0, O_R f_raised a_all a_text a_saved a_undone f_undos f_reached f_length f_begin f_sort f_sign f_value f_word f_wrongAt f_badAt f_bad a_told f_read f_side a_pile f_piled a_open f_opened f_joins f_had a_size a_capped a_connected a_bestCost a_bestCrosses a_bestPart a_part a_trees f_treeMany a_nodes f_nodeMany f_moveNode f_movePart f_moveFirst f_moveThen f_moveOther a_out f_outMany a_kept), (a_text, aB G 2000 g_text)] H locs → lv_has ls 2 [(0, .ref h0)] → R_takesSign_16 N f_reached f_length f_begin f_sort f_sign f_value f_word f_wrongAt g_text = some res → W p l e (rmk 2) s m args below meth c H locs 0 0 Q (F0 m 16 ls []) := by
    intro f_reached f_begin f_sort f_sign f_value f_word f_wrongAt H locs ls wq hl hf
    obtain ⟨hP, hD, hS⟩ := wq
    refine lv_aload_n hx hb d_R_takesSign_16 rfl (lv_at hl 0 rfl) ?_
    obtain ⟨t5, hv6, hf⟩ := db_e hf
    refine call_i (isC := [0]) (run_V (As := []) (rest := []) (ci := 12) (q0 := 0) hx hb hml hown htl (c_R_fails l G Y  h0 a_all a_text a_saved a_undone a_told a_pile a_open a_size a_capped a_connected a_bestCost a_bestCrosses a_bestPart a_part a_trees a_nodes a_out a_kept f_raised f_undos f_reached f_length f_begin f_sort f_sign f_value f_word f_wrongAt f_badAt f_bad f_read f_side f_piled f_opened f_joins f_had f_treeMany f_nodeMany f_moveNode f_movePart f_moveFirst f_moveThen f_moveOther f_outMany t5 hv6) mv_R_fails k_1379 (hRk (by decide) (by decide)) hK hsk hS hP hD (isC := [0]) rfl (by decide) rfl rfl rfl hl.1 rfl (lv_room (Nat.le_of_ble_eq_true rfl)) d_R_takesSign_17) hP hD hS rfl rfl (fun H locs hP hD hS => ?_)
    have hP : va_P G.1 classes [(h0, O_R f_raised a_all a_text a_saved a_undone f_undos f_reached f_length f_begin f_sort f_sign f_value f_word t5.2 f_badAt f_bad a_told f_read f_side a_pile f_piled a_open f_opened f_joins f_had a_size a_capped a_connected a_bestCost a_bestCrosses a_bestPart a_part a_trees f_treeMany a_nodes f_nodeMany f_moveNode f_movePart f_moveFirst f_moveThen f_moveOther a_out f_outMany a_kept), (a_text, aB G 2000 g_text)] H := hP
    have hD : va_D A [(h0, O_R f_raised a_all a_text a_saved a_undone f_undos f_reached f_length f_begin f_sort f_sign f_value f_word t5.2 f_badAt f_bad a_told f_read f_side a_pile f_piled a_open f_opened f_joins f_had a_size a_capped a_connected a_bestCost a_bestCrosses a_bestPart a_part a_trees f_treeMany a_nodes f_nodeMany f_moveNode f_movePart f_moveFirst f_moveThen f_moveOther a_out f_outMany a_kept), (a_text, aB G 2000 g_text)] := hD
    obtain ⟨c7, hf⟩ := dk_e hf
    cases hf
    exact hret 20 ls H locs c7 hP hS d_R_takesSign_20
  refine lv_aload_n hx hb d_R_takesSign_0 rfl (lv_at hl 0 rfl) ?_
  refine va_get (D := G.1) (ci := 12) (v := .int f_sort) (C := n_R) (T := T_R) (N := 44) hx hb htl iw_R hown hK hP 0 rfl rfl 9 (by decide) (htl _ k_1205) (fun _ h9 => h9) rfl d_R_takesSign_1 ?_
  refine lv_iconst (v := (4 : Int32)) hx hb d_R_takesSign_4 (by decide) ?_
  refine lv_icmp_ne (tgt := 16) hx hb d_R_takesSign_5 (by decide) (fun c1 => ?_) (fun c1 => ?_)
  · have hf := di_f c1 hf
    exact hJ16 f_reached f_begin f_sort f_sign f_value f_word f_wrongAt H locs ls ⟨hP, hD, hS⟩ (lv_sub hl [0] rfl) hf
  · have hf := di_t c1 hf
    refine lv_aload_n hx hb d_R_takesSign_8 rfl (lv_at hl 0 rfl) ?_
    refine va_get (D := G.1) (ci := 12) (v := .int f_sign) (C := n_R) (T := T_R) (N := 44) hx hb htl iw_R hown hK hP 0 rfl rfl 10 (by decide) (htl _ k_1206) (fun _ h9 => h9) rfl d_R_takesSign_9 ?_
    refine lv_iload_n hx hb d_R_takesSign_12 rfl (lv_at hl 1 rfl) ?_
    refine lv_icmp_eq (tgt := 21) hx hb d_R_takesSign_13 (by decide) (fun c2 => ?_) (fun c2 => ?_)
    · have hf := di_t c2 hf
      refine lv_aload_n hx hb d_R_takesSign_21 rfl (lv_at hl 0 rfl) ?_
      obtain ⟨t3, hv4, hf⟩ := db_e hf
      refine call_v (isC := [0, 1]) (run_V (As := []) (rest := []) (ci := 12) (q0 := 0) hx hb hml hown htl (c_R_token l G Y  h0 a_all a_text a_saved a_undone a_told a_pile a_open a_size a_capped a_connected a_bestCost a_bestCrosses a_bestPart a_part a_trees a_nodes a_out a_kept f_raised f_undos f_reached f_length f_begin f_sort f_sign f_value f_word f_wrongAt f_badAt f_bad f_read f_side f_piled f_opened f_joins f_had f_treeMany f_nodeMany f_moveNode f_movePart f_moveFirst f_moveThen f_moveOther f_outMany g_text N t3 hv4) mv_R_token k_1346 (hRk (by decide) (by decide)) hK hsk hS hP hD (isC := [0, 1]) rfl (by decide) rfl rfl rfl hl.1 rfl (lv_room (Nat.le_of_ble_eq_true rfl)) d_R_takesSign_22) hP hD hS rfl rfl (fun H locs hP hD hS => ?_)
      have hP : va_P G.1 classes [(h0, O_R f_raised a_all a_text a_saved a_undone f_undos t3.1 f_length t3.2.1 t3.2.2.1 t3.2.2.2.1 t3.2.2.2.2.1 t3.2.2.2.2.2 f_wrongAt f_badAt f_bad a_told f_read f_side a_pile f_piled a_open f_opened f_joins f_had a_size a_capped a_connected a_bestCost a_bestCrosses a_bestPart a_part a_trees f_treeMany a_nodes f_nodeMany f_moveNode f_movePart f_moveFirst f_moveThen f_moveOther a_out f_outMany a_kept), (a_text, aB G 2000 g_text)] H := hP
      have hD : va_D A [(h0, O_R f_raised a_all a_text a_saved a_undone f_undos t3.1 f_length t3.2.1 t3.2.2.1 t3.2.2.2.1 t3.2.2.2.2.1 t3.2.2.2.2.2 f_wrongAt f_badAt f_bad a_told f_read f_side a_pile f_piled a_open f_opened f_joins f_had a_size a_capped a_connected a_bestCost a_bestCrosses a_bestPart a_part a_trees f_treeMany a_nodes f_nodeMany f_moveNode f_movePart f_moveFirst f_moveThen f_moveOther a_out f_outMany a_kept), (a_text, aB G 2000 g_text)] := hD
      refine lv_iconst (v := (1 : Int32)) hx hb d_R_takesSign_25 (by decide) ?_
      cases hf
      exact hret 26 ls H locs z_1 hP hS d_R_takesSign_26
    · have hf := di_f c2 hf
      exact hJ16 f_reached f_begin f_sort f_sign f_value f_word f_wrongAt H locs ls ⟨hP, hD, hS⟩ (lv_sub hl [0] rfl) hf
set_option maxHeartbeats 4000000 in
set_option maxRecDepth 100000 in
theorem c_R_starts (l : Launch) (G : va_G × (Nat → ClassId)) (Y : (Nat → Nat) × (Nat → Nat)) (h0 : Nat) (a_all : Nat) (a_text : Nat) (a_saved : Nat) (a_undone : Nat) (a_told : Nat) (a_pile : Nat) (a_open : Nat) (a_size : Nat) (a_capped : Nat) (a_connected : Nat) (a_bestCost : Nat) (a_bestCrosses : Nat) (a_bestPart : Nat) (a_part : Nat) (a_trees : Nat) (a_nodes : Nat) (a_out : Nat) (a_kept : Nat) (f_raised : Int32) (f_undos : Int32) (f_reached : Int32) (f_length : Int32) (f_begin : Int32) (f_sort : Int32) (f_sign : Int32) (f_value : Int32) (f_word : Int64) (f_wrongAt : Int32) (f_badAt : Int32) (f_bad : Int32) (f_read : Int32) (f_side : Int32) (f_piled : Int32) (f_opened : Int32) (f_joins : Int32) (f_had : Int32) (f_treeMany : Int32) (f_nodeMany : Int32) (f_moveNode : Int32) (f_movePart : Int32) (f_moveFirst : Int32) (f_moveThen : Int32) (f_moveOther : Int32) (f_outMany : Int32) (g_all : Nat → Int32) (g_text : Nat → Int32) (N : Nat) (res : Int32 × Int32 × Int32 × Int32 × Int32 × Int32 × Int64 × Int32 × Int32 × (Nat → Int32)) (hf : R_starts N f_reached f_length f_begin f_sort f_sign f_value f_word f_badAt f_bad g_all g_text = some res) : Cv l classes y_R_starts b_R_starts 1 none (rmk 2) G.1 (tyL G) Y [.ref h0] [(h0, O_R f_raised a_all a_text a_saved a_undone f_undos f_reached f_length f_begin f_sort f_sign f_value f_word f_wrongAt f_badAt f_bad a_told f_read f_side a_pile f_piled a_open f_opened f_joins f_had a_size a_capped a_connected a_bestCost a_bestCrosses a_bestPart a_part a_trees f_treeMany a_nodes f_nodeMany f_moveNode f_movePart f_moveFirst f_moveThen f_moveOther a_out f_outMany a_kept), (a_all, aI G 1276 g_all), (a_text, aB G 2000 g_text)] [(h0, O_R f_raised a_all a_text a_saved a_undone f_undos res.1 res.2.1 res.2.2.1 res.2.2.2.1 res.2.2.2.2.1 res.2.2.2.2.2.1 res.2.2.2.2.2.2.1 f_wrongAt res.2.2.2.2.2.2.2.1 res.2.2.2.2.2.2.2.2.1 a_told f_read f_side a_pile f_piled a_open f_opened f_joins f_had a_size a_capped a_connected a_bestCost a_bestCrosses a_bestPart a_part a_trees f_treeMany a_nodes f_nodeMany f_moveNode f_movePart f_moveFirst f_moveThen f_moveOther a_out f_outMany a_kept), (a_all, aI G 1276 res.2.2.2.2.2.2.2.2.2), (a_text, aB G 2000 g_text)] := by
  refine entV (by decide) (Nat.le_of_ble_eq_true rfl) ?_
  intro p e s m args below meth c ls A Q hx hb hml hown htl hK hsk wq hl hret
  obtain ⟨hP, hD, hS⟩ := wq
  have hl : lv_has ls 1 [(0, .ref h0)] := hl
  have hS : va_S A s.heap s.heap [] := hS
  obtain ⟨H, hH⟩ : ∃ H : Heap, H = s.heap := ⟨_, rfl⟩
  obtain ⟨locs, hlocs⟩ : ∃ z : List Loc, z = [] := ⟨_, rfl⟩
  rw [← hH] at hP
  replace hS : va_S A s.heap H locs := by rw [hH, hlocs]; exact hS
  suffices hgo : W p l e (rmk 2) s m args below meth c H locs 0 0 Q (F0 m 0 ls []) by rw [hH, hlocs] at hgo; exact hgo
  refine lv_aload_n hx hb d_R_starts_0 rfl (lv_at hl 0 rfl) ?_
  refine lv_aload_n hx hb d_R_starts_1 rfl (lv_at hl 0 rfl) ?_
  refine va_get (D := G.1) (ci := 12) (v := .ref a_all) (C := n_R) (T := T_R) (N := 44) hx hb htl iw_R hown hK hP 0 rfl rfl 1 (by decide) (htl _ k_1197) (fun _ h9 => h9) rfl d_R_starts_2 ?_
  refine lv_sipush (v := (316 : Int32)) hx hb d_R_starts_5 (by decide) ?_
  refine va_iald hx hb hK hP 1 1 rfl rfl (vp_lit (by decide)) d_R_starts_8 ?_
  refine lv_topi (fun v1 ev1 => ?_)
  have hf := dn_e ev1 hf
  refine va_put (D := G.1) (ci := 12) (v := .int v1) (ty := .int) (C := n_R) (T := T_R) (N := 44) hx hb htl iw_R ty_R ty_R_ok nm_R hown hK hP hD hS 0 rfl rfl 7 (by decide) (htl _ k_1203) (fun _ h9 => h9) rfl (by decide +kernel) rfl rfl (Nat.le_of_ble_eq_true rfl) d_R_starts_9 (fun H locs hP hD hS => ?_)
  have hP : va_P G.1 classes [(h0, O_R f_raised a_all a_text a_saved a_undone f_undos f_reached v1 f_begin f_sort f_sign f_value f_word f_wrongAt f_badAt f_bad a_told f_read f_side a_pile f_piled a_open f_opened f_joins f_had a_size a_capped a_connected a_bestCost a_bestCrosses a_bestPart a_part a_trees f_treeMany a_nodes f_nodeMany f_moveNode f_movePart f_moveFirst f_moveThen f_moveOther a_out f_outMany a_kept), (a_all, aI G 1276 g_all), (a_text, aB G 2000 g_text)] H := hP
  have hD : va_D A [(h0, O_R f_raised a_all a_text a_saved a_undone f_undos f_reached v1 f_begin f_sort f_sign f_value f_word f_wrongAt f_badAt f_bad a_told f_read f_side a_pile f_piled a_open f_opened f_joins f_had a_size a_capped a_connected a_bestCost a_bestCrosses a_bestPart a_part a_trees f_treeMany a_nodes f_nodeMany f_moveNode f_movePart f_moveFirst f_moveThen f_moveOther a_out f_outMany a_kept), (a_all, aI G 1276 g_all), (a_text, aB G 2000 g_text)] := hD
  refine lv_aload_n hx hb d_R_starts_12 rfl (lv_at hl 0 rfl) ?_
  refine va_get (D := G.1) (ci := 12) (v := .ref a_all) (C := n_R) (T := T_R) (N := 44) hx hb htl iw_R hown hK hP 0 rfl rfl 1 (by decide) (htl _ k_1197) (fun _ h9 => h9) rfl d_R_starts_13 ?_
  refine lv_sipush (v := (316 : Int32)) hx hb d_R_starts_16 (by decide) ?_
  refine lv_iconst (v := (0 : Int32)) hx hb d_R_starts_19 (by decide) ?_
  refine nx_iast hx hb hK hP hD hS 1 1 rfl rfl (vp_lit (by decide)) d_R_starts_20 (fun v2 ev2 H locs hP hD hS => ?_)
  have hf := dn_e ev2 hf
  have hP : va_P G.1 classes [(h0, O_R f_raised a_all a_text a_saved a_undone f_undos f_reached v1 f_begin f_sort f_sign f_value f_word f_wrongAt f_badAt f_bad a_told f_read f_side a_pile f_piled a_open f_opened f_joins f_had a_size a_capped a_connected a_bestCost a_bestCrosses a_bestPart a_part a_trees f_treeMany a_nodes f_nodeMany f_moveNode f_movePart f_moveFirst f_moveThen f_moveOther a_out f_outMany a_kept), (a_all, aI G 1276 v2), (a_text, aB G 2000 g_text)] H := hP
  have hD : va_D A [(h0, O_R f_raised a_all a_text a_saved a_undone f_undos f_reached v1 f_begin f_sort f_sign f_value f_word f_wrongAt f_badAt f_bad a_told f_read f_side a_pile f_piled a_open f_opened f_joins f_had a_size a_capped a_connected a_bestCost a_bestCrosses a_bestPart a_part a_trees f_treeMany a_nodes f_nodeMany f_moveNode f_movePart f_moveFirst f_moveThen f_moveOther a_out f_outMany a_kept), (a_all, aI G 1276 v2), (a_text, aB G 2000 g_text)] := hD
  refine lv_aload_n hx hb d_R_starts_21 rfl (lv_at hl 0 rfl) ?_
  refine lv_iconst (v := (0 : Int32)) hx hb d_R_starts_22 (by decide) ?_
  refine va_put (D := G.1) (ci := 12) (v := .int (0 : Int32)) (ty := .int) (C := n_R) (T := T_R) (N := 44) hx hb htl iw_R ty_R ty_R_ok nm_R hown hK hP hD hS 0 rfl rfl 15 (by decide) (htl _ k_1211) (fun _ h9 => h9) rfl (by decide +kernel) rfl rfl (Nat.le_of_ble_eq_true rfl) d_R_starts_23 (fun H locs hP hD hS => ?_)
  have hP : va_P G.1 classes [(h0, O_R f_raised a_all a_text a_saved a_undone f_undos f_reached v1 f_begin f_sort f_sign f_value f_word f_wrongAt f_badAt (0 : Int32) a_told f_read f_side a_pile f_piled a_open f_opened f_joins f_had a_size a_capped a_connected a_bestCost a_bestCrosses a_bestPart a_part a_trees f_treeMany a_nodes f_nodeMany f_moveNode f_movePart f_moveFirst f_moveThen f_moveOther a_out f_outMany a_kept), (a_all, aI G 1276 v2), (a_text, aB G 2000 g_text)] H := hP
  have hD : va_D A [(h0, O_R f_raised a_all a_text a_saved a_undone f_undos f_reached v1 f_begin f_sort f_sign f_value f_word f_wrongAt f_badAt (0 : Int32) a_told f_read f_side a_pile f_piled a_open f_opened f_joins f_had a_size a_capped a_connected a_bestCost a_bestCrosses a_bestPart a_part a_trees f_treeMany a_nodes f_nodeMany f_moveNode f_movePart f_moveFirst f_moveThen f_moveOther a_out f_outMany a_kept), (a_all, aI G 1276 v2), (a_text, aB G 2000 g_text)] := hD
  refine lv_aload_n hx hb d_R_starts_26 rfl (lv_at hl 0 rfl) ?_
  refine lv_iconst (v := (-1 : Int32)) hx hb d_R_starts_27 (by decide) ?_
  refine va_put (D := G.1) (ci := 12) (v := .int (-1 : Int32)) (ty := .int) (C := n_R) (T := T_R) (N := 44) hx hb htl iw_R ty_R ty_R_ok nm_R hown hK hP hD hS 0 rfl rfl 14 (by decide) (htl _ k_1210) (fun _ h9 => h9) rfl (by decide +kernel) rfl rfl (Nat.le_of_ble_eq_true rfl) d_R_starts_28 (fun H locs hP hD hS => ?_)
  have hP : va_P G.1 classes [(h0, O_R f_raised a_all a_text a_saved a_undone f_undos f_reached v1 f_begin f_sort f_sign f_value f_word f_wrongAt (-1 : Int32) (0 : Int32) a_told f_read f_side a_pile f_piled a_open f_opened f_joins f_had a_size a_capped a_connected a_bestCost a_bestCrosses a_bestPart a_part a_trees f_treeMany a_nodes f_nodeMany f_moveNode f_movePart f_moveFirst f_moveThen f_moveOther a_out f_outMany a_kept), (a_all, aI G 1276 v2), (a_text, aB G 2000 g_text)] H := hP
  have hD : va_D A [(h0, O_R f_raised a_all a_text a_saved a_undone f_undos f_reached v1 f_begin f_sort f_sign f_value f_word f_wrongAt (-1 : Int32) (0 : Int32) a_told f_read f_side a_pile f_piled a_open f_opened f_joins f_had a_size a_capped a_connected a_bestCost a_bestCrosses a_bestPart a_part a_trees f_treeMany a_nodes f_nodeMany f_moveNode f_movePart f_moveFirst f_moveThen f_moveOther a_out f_outMany a_kept), (a_all, aI G 1276 v2), (a_text, aB G 2000 g_text)] := hD
  refine lv_aload_n hx hb d_R_starts_31 rfl (lv_at hl 0 rfl) ?_
  refine lv_iconst (v := (0 : Int32)) hx hb d_R_starts_32 (by decide) ?_
  refine va_put (D := G.1) (ci := 12) (v := .int (0 : Int32)) (ty := .int) (C := n_R) (T := T_R) (N := 44) hx hb htl iw_R ty_R ty_R_ok nm_R hown hK hP hD hS 0 rfl rfl 6 (by decide) (htl _ k_1202) (fun _ h9 => h9) rfl (by decide +kernel) rfl rfl (Nat.le_of_ble_eq_true rfl) d_R_starts_33 (fun H locs hP hD hS => ?_)
  have hP : va_P G.1 classes [(h0, O_R f_raised a_all a_text a_saved a_undone f_undos (0 : Int32) v1 f_begin f_sort f_sign f_value f_word f_wrongAt (-1 : Int32) (0 : Int32) a_told f_read f_side a_pile f_piled a_open f_opened f_joins f_had a_size a_capped a_connected a_bestCost a_bestCrosses a_bestPart a_part a_trees f_treeMany a_nodes f_nodeMany f_moveNode f_movePart f_moveFirst f_moveThen f_moveOther a_out f_outMany a_kept), (a_all, aI G 1276 v2), (a_text, aB G 2000 g_text)] H := hP
  have hD : va_D A [(h0, O_R f_raised a_all a_text a_saved a_undone f_undos (0 : Int32) v1 f_begin f_sort f_sign f_value f_word f_wrongAt (-1 : Int32) (0 : Int32) a_told f_read f_side a_pile f_piled a_open f_opened f_joins f_had a_size a_capped a_connected a_bestCost a_bestCrosses a_bestPart a_part a_trees f_treeMany a_nodes f_nodeMany f_moveNode f_movePart f_moveFirst f_moveThen f_moveOther a_out f_outMany a_kept), (a_all, aI G 1276 v2), (a_text, aB G 2000 g_text)] := hD
  refine lv_aload_n hx hb d_R_starts_36 rfl (lv_at hl 0 rfl) ?_
  obtain ⟨t3, hv4, hf⟩ := db_e hf
  refine call_v (isC := [0, 2]) (run_V (As := []) (rest := []) (ci := 12) (q0 := 0) hx hb hml hown htl (c_R_token l G Y  h0 a_all a_text a_saved a_undone a_told a_pile a_open a_size a_capped a_connected a_bestCost a_bestCrosses a_bestPart a_part a_trees a_nodes a_out a_kept f_raised f_undos (0 : Int32) v1 f_begin f_sort f_sign f_value f_word f_wrongAt (-1 : Int32) (0 : Int32) f_read f_side f_piled f_opened f_joins f_had f_treeMany f_nodeMany f_moveNode f_movePart f_moveFirst f_moveThen f_moveOther f_outMany g_text N t3 hv4) mv_R_token k_1346 (hRk (by decide) (by decide)) hK hsk hS hP hD (isC := [0, 2]) rfl (by decide) rfl rfl rfl hl.1 rfl (lv_room (Nat.le_of_ble_eq_true rfl)) d_R_starts_37) hP hD hS rfl rfl (fun H locs hP hD hS => ?_)
  have hP : va_P G.1 classes [(h0, O_R f_raised a_all a_text a_saved a_undone f_undos t3.1 v1 t3.2.1 t3.2.2.1 t3.2.2.2.1 t3.2.2.2.2.1 t3.2.2.2.2.2 f_wrongAt (-1 : Int32) (0 : Int32) a_told f_read f_side a_pile f_piled a_open f_opened f_joins f_had a_size a_capped a_connected a_bestCost a_bestCrosses a_bestPart a_part a_trees f_treeMany a_nodes f_nodeMany f_moveNode f_movePart f_moveFirst f_moveThen f_moveOther a_out f_outMany a_kept), (a_all, aI G 1276 v2), (a_text, aB G 2000 g_text)] H := hP
  have hD : va_D A [(h0, O_R f_raised a_all a_text a_saved a_undone f_undos t3.1 v1 t3.2.1 t3.2.2.1 t3.2.2.2.1 t3.2.2.2.2.1 t3.2.2.2.2.2 f_wrongAt (-1 : Int32) (0 : Int32) a_told f_read f_side a_pile f_piled a_open f_opened f_joins f_had a_size a_capped a_connected a_bestCost a_bestCrosses a_bestPart a_part a_trees f_treeMany a_nodes f_nodeMany f_moveNode f_movePart f_moveFirst f_moveThen f_moveOther a_out f_outMany a_kept), (a_all, aI G 1276 v2), (a_text, aB G 2000 g_text)] := hD
  cases hf
  exact hret 40 ls H locs hP hS d_R_starts_40
set_option maxHeartbeats 4000000 in
set_option maxRecDepth 100000 in
theorem c_R_isFine (l : Launch) (G : va_G × (Nat → ClassId)) (Y : (Nat → Nat) × (Nat → Nat)) (h0 : Nat) (a_all : Nat) (a_text : Nat) (a_saved : Nat) (a_undone : Nat) (a_told : Nat) (a_pile : Nat) (a_open : Nat) (a_size : Nat) (a_capped : Nat) (a_connected : Nat) (a_bestCost : Nat) (a_bestCrosses : Nat) (a_bestPart : Nat) (a_part : Nat) (a_trees : Nat) (a_nodes : Nat) (a_out : Nat) (a_kept : Nat) (f_raised : Int32) (f_undos : Int32) (f_reached : Int32) (f_length : Int32) (f_begin : Int32) (f_sort : Int32) (f_sign : Int32) (f_value : Int32) (f_word : Int64) (f_wrongAt : Int32) (f_badAt : Int32) (f_bad : Int32) (f_read : Int32) (f_side : Int32) (f_piled : Int32) (f_opened : Int32) (f_joins : Int32) (f_had : Int32) (f_treeMany : Int32) (f_nodeMany : Int32) (f_moveNode : Int32) (f_movePart : Int32) (f_moveFirst : Int32) (f_moveThen : Int32) (f_moveOther : Int32) (f_outMany : Int32) (g_all : Nat → Int32) (x1 : Int32) (res : Int32 × (Nat → Int32)) (hf : R_isFine f_wrongAt f_badAt f_bad g_all x1 = some res) : Ci l classes y_R_isFine b_R_isFine 2 (some .boolean) (rmk 0) G.1 (tyL G) Y [.ref h0, .int x1] [(h0, O_R f_raised a_all a_text a_saved a_undone f_undos f_reached f_length f_begin f_sort f_sign f_value f_word f_wrongAt f_badAt f_bad a_told f_read f_side a_pile f_piled a_open f_opened f_joins f_had a_size a_capped a_connected a_bestCost a_bestCrosses a_bestPart a_part a_trees f_treeMany a_nodes f_nodeMany f_moveNode f_movePart f_moveFirst f_moveThen f_moveOther a_out f_outMany a_kept), (a_all, aI G 1276 g_all)] [(h0, O_R f_raised a_all a_text a_saved a_undone f_undos f_reached f_length f_begin f_sort f_sign f_value f_word f_wrongAt f_badAt f_bad a_told f_read f_side a_pile f_piled a_open f_opened f_joins f_had a_size a_capped a_connected a_bestCost a_bestCrosses a_bestPart a_part a_trees f_treeMany a_nodes f_nodeMany f_moveNode f_movePart f_moveFirst f_moveThen f_moveOther a_out f_outMany a_kept), (a_all, aI G 1276 res.2)] res.1 := by
  refine entZ (by decide) (Nat.le_of_ble_eq_true rfl) ?_
  intro p e s m args below meth c ls A Q hx hb hml hown htl hK hsk wq hl hret
  obtain ⟨hP, hD, hS⟩ := wq
  have hl : lv_has ls 2 [(0, .ref h0), (1, .int x1)] := hl
  have hS : va_S A s.heap s.heap [] := hS
  obtain ⟨H, hH⟩ : ∃ H : Heap, H = s.heap := ⟨_, rfl⟩
  obtain ⟨locs, hlocs⟩ : ∃ z : List Loc, z = [] := ⟨_, rfl⟩
  rw [← hH] at hP
  replace hS : va_S A s.heap H locs := by rw [hH, hlocs]; exact hS
  suffices hgo : W p l e (rmk 0) s m args below meth c H locs 0 0 Q (F0 m 0 ls []) by rw [hH, hlocs] at hgo; exact hgo
  have hJ42 : ∀ (g_all : Nat → Int32) (z1 : Int32) (z2 : Int32) (H : Heap) (locs : List Loc) (ls : Array Slot), PDS G.1 classes A s [(h0, O_R f_raised a_all a_text a_saved a_undone f_undos f_reached f_length f_begin f_sort f_sign f_value f_word f_wrongAt f_badAt f_bad a_told f_read f_side a_pile f_piled a_open f_opened f_joins f_had a_size a_capped a_connected a_bestCost a_bestCrosses a_bestPart a_part a_trees f_treeMany a_nodes f_nodeMany f_moveNode f_movePart f_moveFirst f_moveThen f_moveOther a_out f_outMany a_kept), (a_all, aI G 1276 g_all)] H locs → lv_has ls 2 [(0, .ref h0)] → R_isFine_42 f_wrongAt f_badAt f_bad g_all z1 z2 = some res → W p l e (rmk 0) s m args below meth c H locs 0 0 Q (F0 m 42 ls [.int z2, .int z1, .ref a_all]) := by
    intro g_all z1 z2 H locs ls wq hl hf
    obtain ⟨hP, hD, hS⟩ := wq
    obtain ⟨c5, hf⟩ := dk_e hf
    refine nx_iast hx hb hK hP hD hS 1 1 rfl rfl c5 d_R_isFine_42 (fun v6 ev6 H locs hP hD hS => ?_)
    have hf := dn_e ev6 hf
    have hP : va_P G.1 classes [(h0, O_R f_raised a_all a_text a_saved a_undone f_undos f_reached f_length f_begin f_sort f_sign f_value f_word f_wrongAt f_badAt f_bad a_told f_read f_side a_pile f_piled a_open f_opened f_joins f_had a_size a_capped a_connected a_bestCost a_bestCrosses a_bestPart a_part a_trees f_treeMany a_nodes f_nodeMany f_moveNode f_movePart f_moveFirst f_moveThen f_moveOther a_out f_outMany a_kept), (a_all, aI G 1276 v6)] H := hP
    have hD : va_D A [(h0, O_R f_raised a_all a_text a_saved a_undone f_undos f_reached f_length f_begin f_sort f_sign f_value f_word f_wrongAt f_badAt f_bad a_told f_read f_side a_pile f_piled a_open f_opened f_joins f_had a_size a_capped a_connected a_bestCost a_bestCrosses a_bestPart a_part a_trees f_treeMany a_nodes f_nodeMany f_moveNode f_movePart f_moveFirst f_moveThen f_moveOther a_out f_outMany a_kept), (a_all, aI G 1276 v6)] := hD
    refine lv_aload_n hx hb d_R_isFine_43 rfl (lv_at hl 0 rfl) ?_
    refine va_get (D := G.1) (ci := 12) (v := .ref a_all) (C := n_R) (T := T_R) (N := 44) hx hb htl iw_R hown hK hP 0 rfl rfl 1 (by decide) (htl _ k_1197) (fun _ h9 => h9) rfl d_R_isFine_44 ?_
    refine lv_sipush (v := (317 : Int32)) hx hb d_R_isFine_47 (by decide) ?_
    refine va_iald hx hb hK hP 1 1 rfl rfl (vp_lit (by decide)) d_R_isFine_50 ?_
    refine lv_if_ne (tgt := 58) hx hb d_R_isFine_51 (by decide) (fun c7 => ?_) (fun c7 => ?_)
    · have hf := di_f c7 hf
      refine lv_iconst (v := (0 : Int32)) hx hb d_R_isFine_58 (by decide) ?_
      cases hf
      exact hret 59 ls H locs z_0 hP hS d_R_isFine_59
    · have hf := di_t c7 hf
      refine lv_iconst (v := (1 : Int32)) hx hb d_R_isFine_54 (by decide) ?_
      refine lv_goto (tgt := 59) hx hb d_R_isFine_55 (by decide) ?_
      cases hf
      exact hret 59 ls H locs z_1 hP hS d_R_isFine_59
  have hJ19 : ∀ (g_all : Nat → Int32) (z1 : Int32) (z2 : Int32) (H : Heap) (locs : List Loc) (ls : Array Slot), PDS G.1 classes A s [(h0, O_R f_raised a_all a_text a_saved a_undone f_undos f_reached f_length f_begin f_sort f_sign f_value f_word f_wrongAt f_badAt f_bad a_told f_read f_side a_pile f_piled a_open f_opened f_joins f_had a_size a_capped a_connected a_bestCost a_bestCrosses a_bestPart a_part a_trees f_treeMany a_nodes f_nodeMany f_moveNode f_movePart f_moveFirst f_moveThen f_moveOther a_out f_outMany a_kept), (a_all, aI G 1276 g_all)] H locs → lv_has ls 2 [(0, .ref h0), (1, .int x1)] → R_isFine_19 f_wrongAt f_badAt f_bad g_all x1 z1 z2 = some res → W p l e (rmk 0) s m args below meth c H locs 0 0 Q (F0 m 19 ls [.int z2, .int z1, .ref a_all]) := by
    intro g_all z1 z2 H locs ls wq hl hf
    obtain ⟨hP, hD, hS⟩ := wq
    obtain ⟨c2, hf⟩ := dk_e hf
    refine nx_iast hx hb hK hP hD hS 1 1 rfl rfl c2 d_R_isFine_19 (fun v3 ev3 H locs hP hD hS => ?_)
    have hf := dn_e ev3 hf
    have hP : va_P G.1 classes [(h0, O_R f_raised a_all a_text a_saved a_undone f_undos f_reached f_length f_begin f_sort f_sign f_value f_word f_wrongAt f_badAt f_bad a_told f_read f_side a_pile f_piled a_open f_opened f_joins f_had a_size a_capped a_connected a_bestCost a_bestCrosses a_bestPart a_part a_trees f_treeMany a_nodes f_nodeMany f_moveNode f_movePart f_moveFirst f_moveThen f_moveOther a_out f_outMany a_kept), (a_all, aI G 1276 v3)] H := hP
    have hD : va_D A [(h0, O_R f_raised a_all a_text a_saved a_undone f_undos f_reached f_length f_begin f_sort f_sign f_value f_word f_wrongAt f_badAt f_bad a_told f_read f_side a_pile f_piled a_open f_opened f_joins f_had a_size a_capped a_connected a_bestCost a_bestCrosses a_bestPart a_part a_trees f_treeMany a_nodes f_nodeMany f_moveNode f_movePart f_moveFirst f_moveThen f_moveOther a_out f_outMany a_kept), (a_all, aI G 1276 v3)] := hD
    refine lv_aload_n hx hb d_R_isFine_20 rfl (lv_at hl 0 rfl) ?_
    refine va_get (D := G.1) (ci := 12) (v := .ref a_all) (C := n_R) (T := T_R) (N := 44) hx hb htl iw_R hown hK hP 0 rfl rfl 1 (by decide) (htl _ k_1197) (fun _ h9 => h9) rfl d_R_isFine_21 ?_
    refine lv_sipush (v := (318 : Int32)) hx hb d_R_isFine_24 (by decide) ?_
    refine lv_iload_n hx hb d_R_isFine_27 rfl (lv_at hl 1 rfl) ?_
    refine lv_if_eq (tgt := 38) hx hb d_R_isFine_28 (by decide) (fun c4 => ?_) (fun c4 => ?_)
    · have hf := di_t c4 hf
      refine lv_aload_n hx hb d_R_isFine_38 rfl (lv_at hl 0 rfl) ?_
      refine va_get (D := G.1) (ci := 12) (v := .int f_wrongAt) (C := n_R) (T := T_R) (N := 44) hx hb htl iw_R hown hK hP 0 rfl rfl 13 (by decide) (htl _ k_1209) (fun _ h9 => h9) rfl d_R_isFine_39 ?_
      exact hJ42 v3 (318 : Int32) f_wrongAt H locs ls ⟨hP, hD, hS⟩ (lv_sub hl [0] rfl) hf
    · have hf := di_f c4 hf
      refine lv_aload_n hx hb d_R_isFine_31 rfl (lv_at hl 0 rfl) ?_
      refine va_get (D := G.1) (ci := 12) (v := .int f_badAt) (C := n_R) (T := T_R) (N := 44) hx hb htl iw_R hown hK hP 0 rfl rfl 14 (by decide) (htl _ k_1210) (fun _ h9 => h9) rfl d_R_isFine_32 ?_
      refine lv_goto (tgt := 42) hx hb d_R_isFine_35 (by decide) ?_
      exact hJ42 v3 (318 : Int32) f_badAt H locs ls ⟨hP, hD, hS⟩ (lv_sub hl [0] rfl) hf
  refine lv_aload_n hx hb d_R_isFine_0 rfl (lv_at hl 0 rfl) ?_
  refine va_get (D := G.1) (ci := 12) (v := .ref a_all) (C := n_R) (T := T_R) (N := 44) hx hb htl iw_R hown hK hP 0 rfl rfl 1 (by decide) (htl _ k_1197) (fun _ h9 => h9) rfl d_R_isFine_1 ?_
  refine lv_sipush (v := (317 : Int32)) hx hb d_R_isFine_4 (by decide) ?_
  refine lv_iload_n hx hb d_R_isFine_7 rfl (lv_at hl 1 rfl) ?_
  refine lv_if_eq (tgt := 18) hx hb d_R_isFine_8 (by decide) (fun c1 => ?_) (fun c1 => ?_)
  · have hf := di_t c1 hf
    refine lv_iconst (v := (1 : Int32)) hx hb d_R_isFine_18 (by decide) ?_
    exact hJ19 g_all (317 : Int32) (1 : Int32) H locs ls ⟨hP, hD, hS⟩ (lv_sub hl [0, 1] rfl) hf
  · have hf := di_f c1 hf
    refine lv_aload_n hx hb d_R_isFine_11 rfl (lv_at hl 0 rfl) ?_
    refine va_get (D := G.1) (ci := 12) (v := .int f_bad) (C := n_R) (T := T_R) (N := 44) hx hb htl iw_R hown hK hP 0 rfl rfl 15 (by decide) (htl _ k_1211) (fun _ h9 => h9) rfl d_R_isFine_12 ?_
    refine lv_goto (tgt := 19) hx hb d_R_isFine_15 (by decide) ?_
    exact hJ19 g_all (317 : Int32) f_bad H locs ls ⟨hP, hD, hS⟩ (lv_sub hl [0, 1] rfl) hf
set_option maxHeartbeats 4000000 in
set_option maxRecDepth 100000 in
theorem c_R_relationLine (l : Launch) (G : va_G × (Nat → ClassId)) (Y : (Nat → Nat) × (Nat → Nat)) (h0 : Nat) (a_all : Nat) (a_text : Nat) (a_saved : Nat) (a_undone : Nat) (a_told : Nat) (a_pile : Nat) (a_open : Nat) (a_size : Nat) (a_capped : Nat) (a_connected : Nat) (a_bestCost : Nat) (a_bestCrosses : Nat) (a_bestPart : Nat) (a_part : Nat) (a_trees : Nat) (a_nodes : Nat) (a_out : Nat) (a_kept : Nat) (f_raised : Int32) (f_undos : Int32) (f_reached : Int32) (f_length : Int32) (f_begin : Int32) (f_sort : Int32) (f_sign : Int32) (f_value : Int32) (f_word : Int64) (f_wrongAt : Int32) (f_badAt : Int32) (f_bad : Int32) (f_read : Int32) (f_side : Int32) (f_piled : Int32) (f_opened : Int32) (f_joins : Int32) (f_had : Int32) (f_treeMany : Int32) (f_nodeMany : Int32) (f_moveNode : Int32) (f_movePart : Int32) (f_moveFirst : Int32) (f_moveThen : Int32) (f_moveOther : Int32) (f_outMany : Int32) (g_text : Nat → Int32) (g_told : Nat → Int32) (N : Nat) (res : Int32 × Int32 × Int32 × Int32 × Int32 × Int32 × Int64 × Int32 × Int32 × Int32 × Int32 × (Nat → Int32)) (hf : R_relationLine N f_reached f_length f_begin f_sort f_sign f_value f_word f_wrongAt f_badAt f_bad f_read g_text g_told = some res) : Ci l classes y_R_relationLine b_R_relationLine 1 (some .boolean) (rmk 3) G.1 (tyL G) Y [.ref h0] [(h0, O_R f_raised a_all a_text a_saved a_undone f_undos f_reached f_length f_begin f_sort f_sign f_value f_word f_wrongAt f_badAt f_bad a_told f_read f_side a_pile f_piled a_open f_opened f_joins f_had a_size a_capped a_connected a_bestCost a_bestCrosses a_bestPart a_part a_trees f_treeMany a_nodes f_nodeMany f_moveNode f_movePart f_moveFirst f_moveThen f_moveOther a_out f_outMany a_kept), (a_text, aB G 2000 g_text), (a_told, aI G 316 g_told)] [(h0, O_R f_raised a_all a_text a_saved a_undone f_undos res.2.1 f_length res.2.2.1 res.2.2.2.1 res.2.2.2.2.1 res.2.2.2.2.2.1 res.2.2.2.2.2.2.1 res.2.2.2.2.2.2.2.1 res.2.2.2.2.2.2.2.2.1 res.2.2.2.2.2.2.2.2.2.1 a_told res.2.2.2.2.2.2.2.2.2.2.1 f_side a_pile f_piled a_open f_opened f_joins f_had a_size a_capped a_connected a_bestCost a_bestCrosses a_bestPart a_part a_trees f_treeMany a_nodes f_nodeMany f_moveNode f_movePart f_moveFirst f_moveThen f_moveOther a_out f_outMany a_kept), (a_text, aB G 2000 g_text), (a_told, aI G 316 res.2.2.2.2.2.2.2.2.2.2.2)] res.1 := by
  refine entZ (by decide) (Nat.le_of_ble_eq_true rfl) ?_
  intro p e s m args below meth c ls A Q hx hb hml hown htl hK hsk wq hl hret
  obtain ⟨hP, hD, hS⟩ := wq
  have hl : lv_has ls 1 [(0, .ref h0)] := hl
  have hS : va_S A s.heap s.heap [] := hS
  obtain ⟨H, hH⟩ : ∃ H : Heap, H = s.heap := ⟨_, rfl⟩
  obtain ⟨locs, hlocs⟩ : ∃ z : List Loc, z = [] := ⟨_, rfl⟩
  rw [← hH] at hP
  replace hS : va_S A s.heap H locs := by rw [hH, hlocs]; exact hS
  suffices hgo : W p l e (rmk 3) s m args below meth c H locs 0 0 Q (F0 m 0 ls []) by rw [hH, hlocs] at hgo; exact hgo
  have hJ20 : ∀ (f_reached : Int32) (f_begin : Int32) (f_sort : Int32) (f_sign : Int32) (f_value : Int32) (f_word : Int64) (f_wrongAt : Int32) (f_badAt : Int32) (f_bad : Int32) (f_read : Int32) (g_told : Nat → Int32) (H : Heap) (locs : List Loc) (ls : Array Slot), PDS G.1 classes A s [(h0, O_R f_raised a_all a_text a_saved a_undone f_undos f_reached f_length f_begin f_sort f_sign f_value f_word f_wrongAt f_badAt f_bad a_told f_read f_side a_pile f_piled a_open f_opened f_joins f_had a_size a_capped a_connected a_bestCost a_bestCrosses a_bestPart a_part a_trees f_treeMany a_nodes f_nodeMany f_moveNode f_movePart f_moveFirst f_moveThen f_moveOther a_out f_outMany a_kept), (a_text, aB G 2000 g_text), (a_told, aI G 316 g_told)] H locs → lv_has ls 1 [(0, .ref h0)] → R_relationLine_20 N f_reached f_length f_begin f_sort f_sign f_value f_word f_wrongAt f_badAt f_bad f_read g_text g_told = some res → W p l e (rmk 3) s m args below meth c H locs 0 0 Q (F0 m 20 ls []) := by
    intro f_reached f_begin f_sort f_sign f_value f_word f_wrongAt f_badAt f_bad f_read g_told H locs ls wq hl hf
    obtain ⟨hP, hD, hS⟩ := wq
    refine lv_aload_n hx hb d_R_relationLine_20 rfl (lv_at hl 0 rfl) ?_
    obtain ⟨t4, hv5, hf⟩ := db_e hf
    refine call_v (isC := [0, 1]) (run_V (As := []) (rest := []) (ci := 12) (q0 := 0) hx hb hml hown htl (c_R_token l G Y  h0 a_all a_text a_saved a_undone a_told a_pile a_open a_size a_capped a_connected a_bestCost a_bestCrosses a_bestPart a_part a_trees a_nodes a_out a_kept f_raised f_undos f_reached f_length f_begin f_sort f_sign f_value f_word f_wrongAt f_badAt f_bad f_read f_side f_piled f_opened f_joins f_had f_treeMany f_nodeMany f_moveNode f_movePart f_moveFirst f_moveThen f_moveOther f_outMany g_text N t4 hv5) mv_R_token k_1346 (hRk (by decide) (by decide)) hK hsk hS hP hD (isC := [0, 1]) rfl (by decide) rfl rfl rfl hl.1 rfl (lv_room (Nat.le_of_ble_eq_true rfl)) d_R_relationLine_21) hP hD hS rfl rfl (fun H locs hP hD hS => ?_)
    have hP : va_P G.1 classes [(h0, O_R f_raised a_all a_text a_saved a_undone f_undos t4.1 f_length t4.2.1 t4.2.2.1 t4.2.2.2.1 t4.2.2.2.2.1 t4.2.2.2.2.2 f_wrongAt f_badAt f_bad a_told f_read f_side a_pile f_piled a_open f_opened f_joins f_had a_size a_capped a_connected a_bestCost a_bestCrosses a_bestPart a_part a_trees f_treeMany a_nodes f_nodeMany f_moveNode f_movePart f_moveFirst f_moveThen f_moveOther a_out f_outMany a_kept), (a_text, aB G 2000 g_text), (a_told, aI G 316 g_told)] H := hP
    have hD : va_D A [(h0, O_R f_raised a_all a_text a_saved a_undone f_undos t4.1 f_length t4.2.1 t4.2.2.1 t4.2.2.2.1 t4.2.2.2.2.1 t4.2.2.2.2.2 f_wrongAt f_badAt f_bad a_told f_read f_side a_pile f_piled a_open f_opened f_joins f_had a_size a_capped a_connected a_bestCost a_bestCrosses a_bestPart a_part a_trees f_treeMany a_nodes f_nodeMany f_moveNode f_movePart f_moveFirst f_moveThen f_moveOther a_out f_outMany a_kept), (a_text, aB G 2000 g_text), (a_told, aI G 316 g_told)] := hD
    refine lv_aload_n hx hb d_R_relationLine_24 rfl (lv_at hl 0 rfl) ?_
    refine lv_iconst (v := (1 : Int32)) hx hb d_R_relationLine_25 (by decide) ?_
    refine lv_ldc (v := (1000000 : Int32)) hx hb hown (htl _ k_1374) d_R_relationLine_26 ?_
    obtain ⟨t6, hv7, hf⟩ := db_e hf
    refine call_i (isC := [0, 1]) (run_V (As := [.int (1 : Int32), .int (1000000 : Int32)]) (rest := []) (ci := 12) (q0 := 0) hx hb hml hown htl (c_R_takes l G Y  h0 a_all a_text a_saved a_undone a_told a_pile a_open a_size a_capped a_connected a_bestCost a_bestCrosses a_bestPart a_part a_trees a_nodes a_out a_kept f_raised f_undos t4.1 f_length t4.2.1 t4.2.2.1 t4.2.2.2.1 t4.2.2.2.2.1 t4.2.2.2.2.2 f_wrongAt f_badAt f_bad f_read f_side f_piled f_opened f_joins f_had f_treeMany f_nodeMany f_moveNode f_movePart f_moveFirst f_moveThen f_moveOther f_outMany g_text (1 : Int32) (1000000 : Int32) N t6 hv7) mv_R_takes k_1375 (hRk (by decide) (by decide)) hK hsk hS hP hD (isC := [0, 1]) rfl (by decide) rfl rfl rfl hl.1 rfl (lv_room (Nat.le_of_ble_eq_true rfl)) d_R_relationLine_28) hP hD hS rfl rfl (fun H locs hP hD hS => ?_)
    have hP : va_P G.1 classes [(h0, O_R f_raised a_all a_text a_saved a_undone f_undos t6.2.1 f_length t6.2.2.1 t6.2.2.2.1 t6.2.2.2.2.1 t6.2.2.2.2.2.1 t6.2.2.2.2.2.2.1 t6.2.2.2.2.2.2.2.1 t6.2.2.2.2.2.2.2.2.1 t6.2.2.2.2.2.2.2.2.2.1 a_told t6.2.2.2.2.2.2.2.2.2.2 f_side a_pile f_piled a_open f_opened f_joins f_had a_size a_capped a_connected a_bestCost a_bestCrosses a_bestPart a_part a_trees f_treeMany a_nodes f_nodeMany f_moveNode f_movePart f_moveFirst f_moveThen f_moveOther a_out f_outMany a_kept), (a_text, aB G 2000 g_text), (a_told, aI G 316 g_told)] H := hP
    have hD : va_D A [(h0, O_R f_raised a_all a_text a_saved a_undone f_undos t6.2.1 f_length t6.2.2.1 t6.2.2.2.1 t6.2.2.2.2.1 t6.2.2.2.2.2.1 t6.2.2.2.2.2.2.1 t6.2.2.2.2.2.2.2.1 t6.2.2.2.2.2.2.2.2.1 t6.2.2.2.2.2.2.2.2.2.1 a_told t6.2.2.2.2.2.2.2.2.2.2 f_side a_pile f_piled a_open f_opened f_joins f_had a_size a_capped a_connected a_bestCost a_bestCrosses a_bestPart a_part a_trees f_treeMany a_nodes f_nodeMany f_moveNode f_movePart f_moveFirst f_moveThen f_moveOther a_out f_outMany a_kept), (a_text, aB G 2000 g_text), (a_told, aI G 316 g_told)] := hD
    refine lv_if_ne (tgt := 36) hx hb d_R_relationLine_31 (by decide) (fun c8 => ?_) (fun c8 => ?_)
    · have hf := di_f c8 hf
      refine lv_aload_n hx hb d_R_relationLine_36 rfl (lv_at hl 0 rfl) ?_
      refine va_get (D := G.1) (ci := 12) (v := .ref a_told) (C := n_R) (T := T_R) (N := 44) hx hb htl iw_R hown hK hP 0 rfl rfl 16 (by decide) (htl _ k_1212) (fun _ h9 => h9) rfl d_R_relationLine_37 ?_
      refine lv_iconst (v := (0 : Int32)) hx hb d_R_relationLine_40 (by decide) ?_
      refine va_iald hx hb hK hP 2 1 rfl rfl (vp_lit (by decide)) d_R_relationLine_41 ?_
      refine lv_bipush (v := (8 : Int32)) hx hb d_R_relationLine_42 (by decide) ?_
      refine lv_icmp_ge (tgt := 74) hx hb d_R_relationLine_44 (by decide) (fun c9 => ?_) (fun c9 => ?_)
      · have hf := di_t c9 hf
        refine lv_iconst (v := (1 : Int32)) hx hb d_R_relationLine_74 (by decide) ?_
        cases hf
        exact hret 75 ls H locs z_1 hP hS d_R_relationLine_75
      · have hf := di_f c9 hf
        refine lv_aload_n hx hb d_R_relationLine_47 rfl (lv_at hl 0 rfl) ?_
        refine va_get (D := G.1) (ci := 12) (v := .ref a_told) (C := n_R) (T := T_R) (N := 44) hx hb htl iw_R hown hK hP 0 rfl rfl 16 (by decide) (htl _ k_1212) (fun _ h9 => h9) rfl d_R_relationLine_48 ?_
        refine lv_iconst (v := (1 : Int32)) hx hb d_R_relationLine_51 (by decide) ?_
        refine lv_aload_n hx hb d_R_relationLine_52 rfl (lv_at hl 0 rfl) ?_
        refine va_get (D := G.1) (ci := 12) (v := .ref a_told) (C := n_R) (T := T_R) (N := 44) hx hb htl iw_R hown hK hP 0 rfl rfl 16 (by decide) (htl _ k_1212) (fun _ h9 => h9) rfl d_R_relationLine_53 ?_
        refine lv_iconst (v := (0 : Int32)) hx hb d_R_relationLine_56 (by decide) ?_
        refine va_iald hx hb hK hP 2 1 rfl rfl (vp_lit (by decide)) d_R_relationLine_57 ?_
        refine lv_iadd hx hb d_R_relationLine_58 ?_
        refine lv_aload_n hx hb d_R_relationLine_59 rfl (lv_at hl 0 rfl) ?_
        refine va_get (D := G.1) (ci := 12) (v := .int t6.2.2.2.2.2.2.2.2.2.2) (C := n_R) (T := T_R) (N := 44) hx hb htl iw_R hown hK hP 0 rfl rfl 17 (by decide) (htl _ k_1213) (fun _ h9 => h9) rfl d_R_relationLine_60 ?_
        obtain ⟨c10, hf⟩ := dk_e hf
        refine nx_iast hx hb hK hP hD hS 2 1 rfl rfl c10 d_R_relationLine_63 (fun v11 ev11 H locs hP hD hS => ?_)
        have hf := dn_e ev11 hf
        have hP : va_P G.1 classes [(h0, O_R f_raised a_all a_text a_saved a_undone f_undos t6.2.1 f_length t6.2.2.1 t6.2.2.2.1 t6.2.2.2.2.1 t6.2.2.2.2.2.1 t6.2.2.2.2.2.2.1 t6.2.2.2.2.2.2.2.1 t6.2.2.2.2.2.2.2.2.1 t6.2.2.2.2.2.2.2.2.2.1 a_told t6.2.2.2.2.2.2.2.2.2.2 f_side a_pile f_piled a_open f_opened f_joins f_had a_size a_capped a_connected a_bestCost a_bestCrosses a_bestPart a_part a_trees f_treeMany a_nodes f_nodeMany f_moveNode f_movePart f_moveFirst f_moveThen f_moveOther a_out f_outMany a_kept), (a_text, aB G 2000 g_text), (a_told, aI G 316 v11)] H := hP
        have hD : va_D A [(h0, O_R f_raised a_all a_text a_saved a_undone f_undos t6.2.1 f_length t6.2.2.1 t6.2.2.2.1 t6.2.2.2.2.1 t6.2.2.2.2.2.1 t6.2.2.2.2.2.2.1 t6.2.2.2.2.2.2.2.1 t6.2.2.2.2.2.2.2.2.1 t6.2.2.2.2.2.2.2.2.2.1 a_told t6.2.2.2.2.2.2.2.2.2.2 f_side a_pile f_piled a_open f_opened f_joins f_had a_size a_capped a_connected a_bestCost a_bestCrosses a_bestPart a_part a_trees f_treeMany a_nodes f_nodeMany f_moveNode f_movePart f_moveFirst f_moveThen f_moveOther a_out f_outMany a_kept), (a_text, aB G 2000 g_text), (a_told, aI G 316 v11)] := hD
        refine lv_aload_n hx hb d_R_relationLine_64 rfl (lv_at hl 0 rfl) ?_
        refine va_get (D := G.1) (ci := 12) (v := .ref a_told) (C := n_R) (T := T_R) (N := 44) hx hb htl iw_R hown hK hP 0 rfl rfl 16 (by decide) (htl _ k_1212) (fun _ h9 => h9) rfl d_R_relationLine_65 ?_
        refine lv_iconst (v := (0 : Int32)) hx hb d_R_relationLine_68 (by decide) ?_
        refine lv_dup2_11 hx hb d_R_relationLine_69 rfl rfl ?_
        refine va_iald hx hb hK hP 2 1 rfl rfl (vp_lit (by decide)) d_R_relationLine_70 ?_
        refine lv_iconst (v := (1 : Int32)) hx hb d_R_relationLine_71 (by decide) ?_
        refine lv_iadd hx hb d_R_relationLine_72 ?_
        refine nx_iast hx hb hK hP hD hS 2 1 rfl rfl (vp_lit (by decide)) d_R_relationLine_73 (fun v12 ev12 H locs hP hD hS => ?_)
        have hf := dn_e ev12 hf
        have hP : va_P G.1 classes [(h0, O_R f_raised a_all a_text a_saved a_undone f_undos t6.2.1 f_length t6.2.2.1 t6.2.2.2.1 t6.2.2.2.2.1 t6.2.2.2.2.2.1 t6.2.2.2.2.2.2.1 t6.2.2.2.2.2.2.2.1 t6.2.2.2.2.2.2.2.2.1 t6.2.2.2.2.2.2.2.2.2.1 a_told t6.2.2.2.2.2.2.2.2.2.2 f_side a_pile f_piled a_open f_opened f_joins f_had a_size a_capped a_connected a_bestCost a_bestCrosses a_bestPart a_part a_trees f_treeMany a_nodes f_nodeMany f_moveNode f_movePart f_moveFirst f_moveThen f_moveOther a_out f_outMany a_kept), (a_text, aB G 2000 g_text), (a_told, aI G 316 v12)] H := hP
        have hD : va_D A [(h0, O_R f_raised a_all a_text a_saved a_undone f_undos t6.2.1 f_length t6.2.2.1 t6.2.2.2.1 t6.2.2.2.2.1 t6.2.2.2.2.2.1 t6.2.2.2.2.2.2.1 t6.2.2.2.2.2.2.2.1 t6.2.2.2.2.2.2.2.2.1 t6.2.2.2.2.2.2.2.2.2.1 a_told t6.2.2.2.2.2.2.2.2.2.2 f_side a_pile f_piled a_open f_opened f_joins f_had a_size a_capped a_connected a_bestCost a_bestCrosses a_bestPart a_part a_trees f_treeMany a_nodes f_nodeMany f_moveNode f_movePart f_moveFirst f_moveThen f_moveOther a_out f_outMany a_kept), (a_text, aB G 2000 g_text), (a_told, aI G 316 v12)] := hD
        refine lv_iconst (v := (1 : Int32)) hx hb d_R_relationLine_74 (by decide) ?_
        cases hf
        exact hret 75 ls H locs z_1 hP hS d_R_relationLine_75
    · have hf := di_t c8 hf
      refine lv_iconst (v := (0 : Int32)) hx hb d_R_relationLine_34 (by decide) ?_
      cases hf
      exact hret 35 ls H locs z_0 hP hS d_R_relationLine_35
  refine lv_aload_n hx hb d_R_relationLine_0 rfl (lv_at hl 0 rfl) ?_
  refine va_get (D := G.1) (ci := 12) (v := .ref a_told) (C := n_R) (T := T_R) (N := 44) hx hb htl iw_R hown hK hP 0 rfl rfl 16 (by decide) (htl _ k_1212) (fun _ h9 => h9) rfl d_R_relationLine_1 ?_
  refine lv_iconst (v := (0 : Int32)) hx hb d_R_relationLine_4 (by decide) ?_
  refine va_iald hx hb hK hP 2 1 rfl rfl (vp_lit (by decide)) d_R_relationLine_5 ?_
  refine lv_bipush (v := (8 : Int32)) hx hb d_R_relationLine_6 (by decide) ?_
  refine lv_icmp_ne (tgt := 20) hx hb d_R_relationLine_8 (by decide) (fun c1 => ?_) (fun c1 => ?_)
  · have hf := di_f c1 hf
    exact hJ20 f_reached f_begin f_sort f_sign f_value f_word f_wrongAt f_badAt f_bad f_read g_told H locs ls ⟨hP, hD, hS⟩ (lv_sub hl [0] rfl) hf
  · have hf := di_t c1 hf
    refine lv_aload_n hx hb d_R_relationLine_11 rfl (lv_at hl 0 rfl) ?_
    refine lv_iconst (v := (4 : Int32)) hx hb d_R_relationLine_12 (by decide) ?_
    refine lv_aload_n hx hb d_R_relationLine_13 rfl (lv_at hl 0 rfl) ?_
    refine va_get (D := G.1) (ci := 12) (v := .int f_begin) (C := n_R) (T := T_R) (N := 44) hx hb htl iw_R hown hK hP 0 rfl rfl 8 (by decide) (htl _ k_1204) (fun _ h9 => h9) rfl d_R_relationLine_14 ?_
    obtain ⟨t2, hv3, hf⟩ := db_e hf
    refine call_v (isC := [0]) (run_V (As := [.int (4 : Int32), .int f_begin]) (rest := []) (ci := 12) (q0 := 0) hx hb hml hown htl (c_R_isBad l G Y  h0 a_all a_text a_saved a_undone a_told a_pile a_open a_size a_capped a_connected a_bestCost a_bestCrosses a_bestPart a_part a_trees a_nodes a_out a_kept f_raised f_undos f_reached f_length f_begin f_sort f_sign f_value f_word f_wrongAt f_badAt f_bad f_read f_side f_piled f_opened f_joins f_had f_treeMany f_nodeMany f_moveNode f_movePart f_moveFirst f_moveThen f_moveOther f_outMany (4 : Int32) f_begin t2 hv3) mv_R_isBad k_1370 (hRk (by decide) (by decide)) hK hsk hS hP hD (isC := [0]) rfl (by decide) rfl rfl rfl hl.1 rfl (lv_room (Nat.le_of_ble_eq_true rfl)) d_R_relationLine_17) hP hD hS rfl rfl (fun H locs hP hD hS => ?_)
    have hP : va_P G.1 classes [(h0, O_R f_raised a_all a_text a_saved a_undone f_undos f_reached f_length f_begin f_sort f_sign f_value f_word f_wrongAt t2.1 t2.2 a_told f_read f_side a_pile f_piled a_open f_opened f_joins f_had a_size a_capped a_connected a_bestCost a_bestCrosses a_bestPart a_part a_trees f_treeMany a_nodes f_nodeMany f_moveNode f_movePart f_moveFirst f_moveThen f_moveOther a_out f_outMany a_kept), (a_text, aB G 2000 g_text), (a_told, aI G 316 g_told)] H := hP
    have hD : va_D A [(h0, O_R f_raised a_all a_text a_saved a_undone f_undos f_reached f_length f_begin f_sort f_sign f_value f_word f_wrongAt t2.1 t2.2 a_told f_read f_side a_pile f_piled a_open f_opened f_joins f_had a_size a_capped a_connected a_bestCost a_bestCrosses a_bestPart a_part a_trees f_treeMany a_nodes f_nodeMany f_moveNode f_movePart f_moveFirst f_moveThen f_moveOther a_out f_outMany a_kept), (a_text, aB G 2000 g_text), (a_told, aI G 316 g_told)] := hD
    exact hJ20 f_reached f_begin f_sort f_sign f_value f_word f_wrongAt t2.1 t2.2 f_read g_told H locs ls ⟨hP, hD, hS⟩ (lv_sub hl [0] rfl) hf
set_option maxHeartbeats 4000000 in
set_option maxRecDepth 100000 in
theorem c_R_takesSide (l : Launch) (G : va_G × (Nat → ClassId)) (Y : (Nat → Nat) × (Nat → Nat)) (h0 : Nat) (a_all : Nat) (a_text : Nat) (a_saved : Nat) (a_undone : Nat) (a_told : Nat) (a_pile : Nat) (a_open : Nat) (a_size : Nat) (a_capped : Nat) (a_connected : Nat) (a_bestCost : Nat) (a_bestCrosses : Nat) (a_bestPart : Nat) (a_part : Nat) (a_trees : Nat) (a_nodes : Nat) (a_out : Nat) (a_kept : Nat) (f_raised : Int32) (f_undos : Int32) (f_reached : Int32) (f_length : Int32) (f_begin : Int32) (f_sort : Int32) (f_sign : Int32) (f_value : Int32) (f_word : Int64) (f_wrongAt : Int32) (f_badAt : Int32) (f_bad : Int32) (f_read : Int32) (f_side : Int32) (f_piled : Int32) (f_opened : Int32) (f_joins : Int32) (f_had : Int32) (f_treeMany : Int32) (f_nodeMany : Int32) (f_moveNode : Int32) (f_movePart : Int32) (f_moveFirst : Int32) (f_moveThen : Int32) (f_moveOther : Int32) (f_outMany : Int32) (g_text : Nat → Int32) (g_told : Nat → Int32) (x1 : Int32) (N : Nat) (res : Int32 × Int32 × Int32 × Int32 × Int32 × Int32 × Int64 × Int32 × Int32 × Int32 × Int32) (hf : R_takesSide N f_reached f_length f_begin f_sort f_sign f_value f_word f_wrongAt f_badAt f_bad f_side g_text g_told x1 = some res) : Ci l classes y_R_takesSide b_R_takesSide 2 (some .boolean) (rmk 2) G.1 (tyL G) Y [.ref h0, .int x1] [(h0, O_R f_raised a_all a_text a_saved a_undone f_undos f_reached f_length f_begin f_sort f_sign f_value f_word f_wrongAt f_badAt f_bad a_told f_read f_side a_pile f_piled a_open f_opened f_joins f_had a_size a_capped a_connected a_bestCost a_bestCrosses a_bestPart a_part a_trees f_treeMany a_nodes f_nodeMany f_moveNode f_movePart f_moveFirst f_moveThen f_moveOther a_out f_outMany a_kept), (a_text, aB G 2000 g_text), (a_told, aI G 316 g_told)] [(h0, O_R f_raised a_all a_text a_saved a_undone f_undos res.2.1 f_length res.2.2.1 res.2.2.2.1 res.2.2.2.2.1 res.2.2.2.2.2.1 res.2.2.2.2.2.2.1 res.2.2.2.2.2.2.2.1 res.2.2.2.2.2.2.2.2.1 res.2.2.2.2.2.2.2.2.2.1 a_told f_read res.2.2.2.2.2.2.2.2.2.2 a_pile f_piled a_open f_opened f_joins f_had a_size a_capped a_connected a_bestCost a_bestCrosses a_bestPart a_part a_trees f_treeMany a_nodes f_nodeMany f_moveNode f_movePart f_moveFirst f_moveThen f_moveOther a_out f_outMany a_kept), (a_text, aB G 2000 g_text), (a_told, aI G 316 g_told)] res.1 := by
  refine entZ (by decide) (Nat.le_of_ble_eq_true rfl) ?_
  intro p e s m args below meth c ls A Q hx hb hml hown htl hK hsk wq hl hret
  obtain ⟨hP, hD, hS⟩ := wq
  have hl : lv_has ls 2 [(0, .ref h0), (1, .int x1)] := hl
  have hS : va_S A s.heap s.heap [] := hS
  obtain ⟨H, hH⟩ : ∃ H : Heap, H = s.heap := ⟨_, rfl⟩
  obtain ⟨locs, hlocs⟩ : ∃ z : List Loc, z = [] := ⟨_, rfl⟩
  rw [← hH] at hP
  replace hS : va_S A s.heap H locs := by rw [hH, hlocs]; exact hS
  suffices hgo : W p l e (rmk 2) s m args below meth c H locs 0 0 Q (F0 m 0 ls []) by rw [hH, hlocs] at hgo; exact hgo
  have hJ102 : ∀ (f_reached : Int32) (f_begin : Int32) (f_sort : Int32) (f_sign : Int32) (f_value : Int32) (f_word : Int64) (f_wrongAt : Int32) (f_badAt : Int32) (f_bad : Int32) (f_side : Int32) (H : Heap) (locs : List Loc) (ls : Array Slot), PDS G.1 classes A s [(h0, O_R f_raised a_all a_text a_saved a_undone f_undos f_reached f_length f_begin f_sort f_sign f_value f_word f_wrongAt f_badAt f_bad a_told f_read f_side a_pile f_piled a_open f_opened f_joins f_had a_size a_capped a_connected a_bestCost a_bestCrosses a_bestPart a_part a_trees f_treeMany a_nodes f_nodeMany f_moveNode f_movePart f_moveFirst f_moveThen f_moveOther a_out f_outMany a_kept), (a_text, aB G 2000 g_text), (a_told, aI G 316 g_told)] H locs → lv_has ls 2 [] → R_takesSide_102 N f_reached f_length f_begin f_sort f_sign f_value f_word f_wrongAt f_badAt f_bad f_side g_text g_told = some res → W p l e (rmk 2) s m args below meth c H locs 0 0 Q (F0 m 102 ls []) := by
    intro f_reached f_begin f_sort f_sign f_value f_word f_wrongAt f_badAt f_bad f_side H locs ls wq hl hf
    obtain ⟨hP, hD, hS⟩ := wq
    refine lv_iconst (v := (1 : Int32)) hx hb d_R_takesSide_102 (by decide) ?_
    cases hf
    exact hret 103 ls H locs z_1 hP hS d_R_takesSide_103
  have hJ18 : ∀ (f_reached : Int32) (f_begin : Int32) (f_sort : Int32) (f_sign : Int32) (f_value : Int32) (f_word : Int64) (f_wrongAt : Int32) (f_badAt : Int32) (f_bad : Int32) (f_side : Int32) (H : Heap) (locs : List Loc) (ls : Array Slot), PDS G.1 classes A s [(h0, O_R f_raised a_all a_text a_saved a_undone f_undos f_reached f_length f_begin f_sort f_sign f_value f_word f_wrongAt f_badAt f_bad a_told f_read f_side a_pile f_piled a_open f_opened f_joins f_had a_size a_capped a_connected a_bestCost a_bestCrosses a_bestPart a_part a_trees f_treeMany a_nodes f_nodeMany f_moveNode f_movePart f_moveFirst f_moveThen f_moveOther a_out f_outMany a_kept), (a_text, aB G 2000 g_text), (a_told, aI G 316 g_told)] H locs → lv_has ls 2 [(0, .ref h0), (1, .int x1)] → R_takesSide_18 N f_reached f_length f_begin f_sort f_sign f_value f_word f_wrongAt f_badAt f_bad f_side g_text g_told x1 = some res → W p l e (rmk 2) s m args below meth c H locs 0 0 Q (F0 m 18 ls []) := by
    intro f_reached f_begin f_sort f_sign f_value f_word f_wrongAt f_badAt f_bad f_side H locs ls wq hl hf
    obtain ⟨hP, hD, hS⟩ := wq
    obtain ⟨y18, hy18, hfo18⟩ := db_e hf
    have hL18 : ∀ (n : Nat) (f_reached : Int32) (f_begin : Int32) (f_sort : Int32) (f_sign : Int32) (f_value : Int32) (f_word : Int64) (f_badAt : Int32) (f_bad : Int32) (f_side : Int32) (H : Heap) (locs : List Loc) (ls : Array Slot), lp (fun x => R_takesSide_b18 N x.1 f_length x.2.1 x.2.2.1 x.2.2.2.1 x.2.2.2.2.1 x.2.2.2.2.2.1 f_wrongAt x.2.2.2.2.2.2.1 x.2.2.2.2.2.2.2.1 x.2.2.2.2.2.2.2.2 g_text g_told x1) n (f_reached, f_begin, f_sort, f_sign, f_value, f_word, f_badAt, f_bad, f_side) = some y18 → PDS G.1 classes A s [(h0, O_R f_raised a_all a_text a_saved a_undone f_undos f_reached f_length f_begin f_sort f_sign f_value f_word f_wrongAt f_badAt f_bad a_told f_read f_side a_pile f_piled a_open f_opened f_joins f_had a_size a_capped a_connected a_bestCost a_bestCrosses a_bestPart a_part a_trees f_treeMany a_nodes f_nodeMany f_moveNode f_movePart f_moveFirst f_moveThen f_moveOther a_out f_outMany a_kept), (a_text, aB G 2000 g_text), (a_told, aI G 316 g_told)] H locs → lv_has ls 2 [(0, .ref h0), (1, .int x1)] → W p l e (rmk 2) s m args below meth c H locs 0 0 Q (F0 m 18 ls []) := by
      intro n
      induction n with
      | zero =>
        intro f_reached f_begin f_sort f_sign f_value f_word f_badAt f_bad f_side H locs ls hf
        exact lp_0 hf
      | succ n ih18 =>
        intro f_reached f_begin f_sort f_sign f_value f_word f_badAt f_bad f_side H locs ls hf wq hl
        obtain ⟨hP, hD, hS⟩ := wq
        obtain ⟨r18, hf, hk18⟩ := lp_s hf
        have hf : R_takesSide_b18 N f_reached f_length f_begin f_sort f_sign f_value f_word f_wrongAt f_badAt f_bad f_side g_text g_told x1 = some r18 := hf
        have hJ95 : ∀ (f_reached : Int32) (f_begin : Int32) (f_sort : Int32) (f_sign : Int32) (f_value : Int32) (f_word : Int64) (f_badAt : Int32) (f_bad : Int32) (f_side : Int32) (H : Heap) (locs : List Loc) (ls : Array Slot), PDS G.1 classes A s [(h0, O_R f_raised a_all a_text a_saved a_undone f_undos f_reached f_length f_begin f_sort f_sign f_value f_word f_wrongAt f_badAt f_bad a_told f_read f_side a_pile f_piled a_open f_opened f_joins f_had a_size a_capped a_connected a_bestCost a_bestCrosses a_bestPart a_part a_trees f_treeMany a_nodes f_nodeMany f_moveNode f_movePart f_moveFirst f_moveThen f_moveOther a_out f_outMany a_kept), (a_text, aB G 2000 g_text), (a_told, aI G 316 g_told)] H locs → lv_has ls 2 [(0, .ref h0), (1, .int x1)] → R_takesSide_95 N f_reached f_length f_begin f_sort f_sign f_value f_word f_wrongAt f_badAt f_bad f_side g_text g_told x1 = some r18 → W p l e (rmk 2) s m args below meth c H locs 0 0 Q (F0 m 95 ls []) := by
          intro f_reached f_begin f_sort f_sign f_value f_word f_badAt f_bad f_side H locs ls wq hl hf
          obtain ⟨hP, hD, hS⟩ := wq
          refine lv_aload_n hx hb d_R_takesSide_95 rfl (lv_at hl 0 rfl) ?_
          obtain ⟨t13, hv14, hf⟩ := db_e hf
          refine call_v (isC := [0, 1]) (run_V (As := []) (rest := []) (ci := 12) (q0 := 0) hx hb hml hown htl (c_R_token l G Y  h0 a_all a_text a_saved a_undone a_told a_pile a_open a_size a_capped a_connected a_bestCost a_bestCrosses a_bestPart a_part a_trees a_nodes a_out a_kept f_raised f_undos f_reached f_length f_begin f_sort f_sign f_value f_word f_wrongAt f_badAt f_bad f_read f_side f_piled f_opened f_joins f_had f_treeMany f_nodeMany f_moveNode f_movePart f_moveFirst f_moveThen f_moveOther f_outMany g_text N t13 hv14) mv_R_token k_1346 (hRk (by decide) (by decide)) hK hsk hS hP hD (isC := [0, 1]) rfl (by decide) rfl rfl rfl hl.1 rfl (lv_room (Nat.le_of_ble_eq_true rfl)) d_R_takesSide_96) hP hD hS rfl rfl (fun H locs hP hD hS => ?_)
          have hP : va_P G.1 classes [(h0, O_R f_raised a_all a_text a_saved a_undone f_undos t13.1 f_length t13.2.1 t13.2.2.1 t13.2.2.2.1 t13.2.2.2.2.1 t13.2.2.2.2.2 f_wrongAt f_badAt f_bad a_told f_read f_side a_pile f_piled a_open f_opened f_joins f_had a_size a_capped a_connected a_bestCost a_bestCrosses a_bestPart a_part a_trees f_treeMany a_nodes f_nodeMany f_moveNode f_movePart f_moveFirst f_moveThen f_moveOther a_out f_outMany a_kept), (a_text, aB G 2000 g_text), (a_told, aI G 316 g_told)] H := hP
          have hD : va_D A [(h0, O_R f_raised a_all a_text a_saved a_undone f_undos t13.1 f_length t13.2.1 t13.2.2.1 t13.2.2.2.1 t13.2.2.2.2.1 t13.2.2.2.2.2 f_wrongAt f_badAt f_bad a_told f_read f_side a_pile f_piled a_open f_opened f_joins f_had a_size a_capped a_connected a_bestCost a_bestCrosses a_bestPart a_part a_trees f_treeMany a_nodes f_nodeMany f_moveNode f_movePart f_moveFirst f_moveThen f_moveOther a_out f_outMany a_kept), (a_text, aB G 2000 g_text), (a_told, aI G 316 g_told)] := hD
          refine lv_goto (tgt := 18) hx hb d_R_takesSide_99 (by decide) ?_
          exact ih18 t13.1 t13.2.1 t13.2.2.1 t13.2.2.2.1 t13.2.2.2.2.1 t13.2.2.2.2.2 f_badAt f_bad f_side H locs ls (lpk_i hf hk18) ⟨hP, hD, hS⟩ (lv_sub hl [0, 1] rfl)
        refine lv_aload_n hx hb d_R_takesSide_18 rfl (lv_at hl 0 rfl) ?_
        refine va_get (D := G.1) (ci := 12) (v := .int f_sort) (C := n_R) (T := T_R) (N := 44) hx hb htl iw_R hown hK hP 0 rfl rfl 9 (by decide) (htl _ k_1205) (fun _ h9 => h9) rfl d_R_takesSide_19 ?_
        refine lv_iconst (v := (3 : Int32)) hx hb d_R_takesSide_22 (by decide) ?_
        refine lv_icmp_ne (tgt := 102) hx hb d_R_takesSide_23 (by decide) (fun c5 => ?_) (fun c5 => ?_)
        · have hf := di_f c5 hf
          have hq18 := lpk_x hf hk18
          have hf := ex_y (f := fun y => R_takesSide_a18 N f_length f_wrongAt g_text g_told x1 y) hq18 hfo18
          have hf : R_takesSide_102 N f_reached f_length f_begin f_sort f_sign f_value f_word f_wrongAt f_badAt f_bad f_side g_text g_told = some res := hf
          exact hJ102 f_reached f_begin f_sort f_sign f_value f_word f_wrongAt f_badAt f_bad f_side H locs ls ⟨hP, hD, hS⟩ (lv_sub hl [] rfl) hf
        · have hf := di_t c5 hf
          refine lv_aload_n hx hb d_R_takesSide_26 rfl (lv_at hl 0 rfl) ?_
          refine va_get (D := G.1) (ci := 12) (v := .int f_value) (C := n_R) (T := T_R) (N := 44) hx hb htl iw_R hown hK hP 0 rfl rfl 11 (by decide) (htl _ k_1207) (fun _ h9 => h9) rfl d_R_takesSide_27 ?_
          refine lv_aload_n hx hb d_R_takesSide_30 rfl (lv_at hl 0 rfl) ?_
          refine va_get (D := G.1) (ci := 12) (v := .ref a_told) (C := n_R) (T := T_R) (N := 44) hx hb htl iw_R hown hK hP 0 rfl rfl 16 (by decide) (htl _ k_1212) (fun _ h9 => h9) rfl d_R_takesSide_31 ?_
          refine lv_iconst (v := (0 : Int32)) hx hb d_R_takesSide_34 (by decide) ?_
          refine va_iald hx hb hK hP 2 1 rfl rfl (vp_lit (by decide)) d_R_takesSide_35 ?_
          refine lv_icmp_lt (tgt := 51) hx hb d_R_takesSide_36 (by decide) (fun c6 => ?_) (fun c6 => ?_)
          · have hf := di_t c6 hf
            refine lv_iload_n hx hb d_R_takesSide_51 rfl (lv_at hl 1 rfl) ?_
            refine lv_aload_n hx hb d_R_takesSide_52 rfl (lv_at hl 0 rfl) ?_
            refine va_get (D := G.1) (ci := 12) (v := .int f_side) (C := n_R) (T := T_R) (N := 44) hx hb htl iw_R hown hK hP 0 rfl rfl 18 (by decide) (htl _ k_1214) (fun _ h9 => h9) rfl d_R_takesSide_53 ?_
            refine lv_ior hx hb d_R_takesSide_56 ?_
            refine lv_aload_n hx hb d_R_takesSide_57 rfl (lv_at hl 0 rfl) ?_
            refine va_get (D := G.1) (ci := 12) (v := .int f_value) (C := n_R) (T := T_R) (N := 44) hx hb htl iw_R hown hK hP 0 rfl rfl 11 (by decide) (htl _ k_1207) (fun _ h9 => h9) rfl d_R_takesSide_58 ?_
            refine lv_ishr hx hb d_R_takesSide_61 ?_
            refine lv_iconst (v := (1 : Int32)) hx hb d_R_takesSide_62 (by decide) ?_
            refine lv_iand hx hb d_R_takesSide_63 ?_
            refine lv_iconst (v := (1 : Int32)) hx hb d_R_takesSide_64 (by decide) ?_
            refine lv_icmp_ne (tgt := 80) hx hb d_R_takesSide_65 (by decide) (fun c7 => ?_) (fun c7 => ?_)
            · have hf := di_f c7 hf
              refine lv_aload_n hx hb d_R_takesSide_80 rfl (lv_at hl 0 rfl) ?_
              refine lv_dup hx hb d_R_takesSide_81 rfl ?_
              refine va_get (D := G.1) (ci := 12) (v := .int f_side) (C := n_R) (T := T_R) (N := 44) hx hb htl iw_R hown hK hP 0 rfl rfl 18 (by decide) (htl _ k_1214) (fun _ h9 => h9) rfl d_R_takesSide_82 ?_
              refine lv_iconst (v := (1 : Int32)) hx hb d_R_takesSide_85 (by decide) ?_
              refine lv_aload_n hx hb d_R_takesSide_86 rfl (lv_at hl 0 rfl) ?_
              refine va_get (D := G.1) (ci := 12) (v := .int f_value) (C := n_R) (T := T_R) (N := 44) hx hb htl iw_R hown hK hP 0 rfl rfl 11 (by decide) (htl _ k_1207) (fun _ h9 => h9) rfl d_R_takesSide_87 ?_
              refine lv_ishl hx hb d_R_takesSide_90 ?_
              refine lv_ior hx hb d_R_takesSide_91 ?_
              refine lv_topi (fun v8 ev8 => ?_)
              have hf := dn_e ev8 hf
              refine va_put (D := G.1) (ci := 12) (v := .int v8) (ty := .int) (C := n_R) (T := T_R) (N := 44) hx hb htl iw_R ty_R ty_R_ok nm_R hown hK hP hD hS 0 rfl rfl 18 (by decide) (htl _ k_1214) (fun _ h9 => h9) rfl (by decide +kernel) rfl rfl (Nat.le_of_ble_eq_true rfl) d_R_takesSide_92 (fun H locs hP hD hS => ?_)
              have hP : va_P G.1 classes [(h0, O_R f_raised a_all a_text a_saved a_undone f_undos f_reached f_length f_begin f_sort f_sign f_value f_word f_wrongAt f_badAt f_bad a_told f_read v8 a_pile f_piled a_open f_opened f_joins f_had a_size a_capped a_connected a_bestCost a_bestCrosses a_bestPart a_part a_trees f_treeMany a_nodes f_nodeMany f_moveNode f_movePart f_moveFirst f_moveThen f_moveOther a_out f_outMany a_kept), (a_text, aB G 2000 g_text), (a_told, aI G 316 g_told)] H := hP
              have hD : va_D A [(h0, O_R f_raised a_all a_text a_saved a_undone f_undos f_reached f_length f_begin f_sort f_sign f_value f_word f_wrongAt f_badAt f_bad a_told f_read v8 a_pile f_piled a_open f_opened f_joins f_had a_size a_capped a_connected a_bestCost a_bestCrosses a_bestPart a_part a_trees f_treeMany a_nodes f_nodeMany f_moveNode f_movePart f_moveFirst f_moveThen f_moveOther a_out f_outMany a_kept), (a_text, aB G 2000 g_text), (a_told, aI G 316 g_told)] := hD
              exact hJ95 f_reached f_begin f_sort f_sign f_value f_word f_badAt f_bad v8 H locs ls ⟨hP, hD, hS⟩ (lv_sub hl [0, 1] rfl) hf
            · have hf := di_t c7 hf
              refine lv_aload_n hx hb d_R_takesSide_68 rfl (lv_at hl 0 rfl) ?_
              refine lv_iconst (v := (3 : Int32)) hx hb d_R_takesSide_69 (by decide) ?_
              refine lv_aload_n hx hb d_R_takesSide_70 rfl (lv_at hl 0 rfl) ?_
              refine va_get (D := G.1) (ci := 12) (v := .int f_begin) (C := n_R) (T := T_R) (N := 44) hx hb htl iw_R hown hK hP 0 rfl rfl 8 (by decide) (htl _ k_1204) (fun _ h9 => h9) rfl d_R_takesSide_71 ?_
              obtain ⟨t9, hv10, hf⟩ := db_e hf
              refine call_v (isC := [0]) (run_V (As := [.int (3 : Int32), .int f_begin]) (rest := []) (ci := 12) (q0 := 0) hx hb hml hown htl (c_R_isBad l G Y  h0 a_all a_text a_saved a_undone a_told a_pile a_open a_size a_capped a_connected a_bestCost a_bestCrosses a_bestPart a_part a_trees a_nodes a_out a_kept f_raised f_undos f_reached f_length f_begin f_sort f_sign f_value f_word f_wrongAt f_badAt f_bad f_read f_side f_piled f_opened f_joins f_had f_treeMany f_nodeMany f_moveNode f_movePart f_moveFirst f_moveThen f_moveOther f_outMany (3 : Int32) f_begin t9 hv10) mv_R_isBad k_1370 (hRk (by decide) (by decide)) hK hsk hS hP hD (isC := [0]) rfl (by decide) rfl rfl rfl hl.1 rfl (lv_room (Nat.le_of_ble_eq_true rfl)) d_R_takesSide_74) hP hD hS rfl rfl (fun H locs hP hD hS => ?_)
              have hP : va_P G.1 classes [(h0, O_R f_raised a_all a_text a_saved a_undone f_undos f_reached f_length f_begin f_sort f_sign f_value f_word f_wrongAt t9.1 t9.2 a_told f_read f_side a_pile f_piled a_open f_opened f_joins f_had a_size a_capped a_connected a_bestCost a_bestCrosses a_bestPart a_part a_trees f_treeMany a_nodes f_nodeMany f_moveNode f_movePart f_moveFirst f_moveThen f_moveOther a_out f_outMany a_kept), (a_text, aB G 2000 g_text), (a_told, aI G 316 g_told)] H := hP
              have hD : va_D A [(h0, O_R f_raised a_all a_text a_saved a_undone f_undos f_reached f_length f_begin f_sort f_sign f_value f_word f_wrongAt t9.1 t9.2 a_told f_read f_side a_pile f_piled a_open f_opened f_joins f_had a_size a_capped a_connected a_bestCost a_bestCrosses a_bestPart a_part a_trees f_treeMany a_nodes f_nodeMany f_moveNode f_movePart f_moveFirst f_moveThen f_moveOther a_out f_outMany a_kept), (a_text, aB G 2000 g_text), (a_told, aI G 316 g_told)] := hD
              refine lv_goto (tgt := 95) hx hb d_R_takesSide_77 (by decide) ?_
              exact hJ95 f_reached f_begin f_sort f_sign f_value f_word t9.1 t9.2 f_side H locs ls ⟨hP, hD, hS⟩ (lv_sub hl [0, 1] rfl) hf
          · have hf := di_f c6 hf
            refine lv_aload_n hx hb d_R_takesSide_39 rfl (lv_at hl 0 rfl) ?_
            refine lv_iconst (v := (2 : Int32)) hx hb d_R_takesSide_40 (by decide) ?_
            refine lv_aload_n hx hb d_R_takesSide_41 rfl (lv_at hl 0 rfl) ?_
            refine va_get (D := G.1) (ci := 12) (v := .int f_begin) (C := n_R) (T := T_R) (N := 44) hx hb htl iw_R hown hK hP 0 rfl rfl 8 (by decide) (htl _ k_1204) (fun _ h9 => h9) rfl d_R_takesSide_42 ?_
            obtain ⟨t11, hv12, hf⟩ := db_e hf
            refine call_v (isC := [0]) (run_V (As := [.int (2 : Int32), .int f_begin]) (rest := []) (ci := 12) (q0 := 0) hx hb hml hown htl (c_R_isBad l G Y  h0 a_all a_text a_saved a_undone a_told a_pile a_open a_size a_capped a_connected a_bestCost a_bestCrosses a_bestPart a_part a_trees a_nodes a_out a_kept f_raised f_undos f_reached f_length f_begin f_sort f_sign f_value f_word f_wrongAt f_badAt f_bad f_read f_side f_piled f_opened f_joins f_had f_treeMany f_nodeMany f_moveNode f_movePart f_moveFirst f_moveThen f_moveOther f_outMany (2 : Int32) f_begin t11 hv12) mv_R_isBad k_1370 (hRk (by decide) (by decide)) hK hsk hS hP hD (isC := [0]) rfl (by decide) rfl rfl rfl hl.1 rfl (lv_room (Nat.le_of_ble_eq_true rfl)) d_R_takesSide_45) hP hD hS rfl rfl (fun H locs hP hD hS => ?_)
            have hP : va_P G.1 classes [(h0, O_R f_raised a_all a_text a_saved a_undone f_undos f_reached f_length f_begin f_sort f_sign f_value f_word f_wrongAt t11.1 t11.2 a_told f_read f_side a_pile f_piled a_open f_opened f_joins f_had a_size a_capped a_connected a_bestCost a_bestCrosses a_bestPart a_part a_trees f_treeMany a_nodes f_nodeMany f_moveNode f_movePart f_moveFirst f_moveThen f_moveOther a_out f_outMany a_kept), (a_text, aB G 2000 g_text), (a_told, aI G 316 g_told)] H := hP
            have hD : va_D A [(h0, O_R f_raised a_all a_text a_saved a_undone f_undos f_reached f_length f_begin f_sort f_sign f_value f_word f_wrongAt t11.1 t11.2 a_told f_read f_side a_pile f_piled a_open f_opened f_joins f_had a_size a_capped a_connected a_bestCost a_bestCrosses a_bestPart a_part a_trees f_treeMany a_nodes f_nodeMany f_moveNode f_movePart f_moveFirst f_moveThen f_moveOther a_out f_outMany a_kept), (a_text, aB G 2000 g_text), (a_told, aI G 316 g_told)] := hD
            refine lv_goto (tgt := 95) hx hb d_R_takesSide_48 (by decide) ?_
            exact hJ95 f_reached f_begin f_sort f_sign f_value f_word t11.1 t11.2 f_side H locs ls ⟨hP, hD, hS⟩ (lv_sub hl [0, 1] rfl) hf
    exact hL18 N f_reached f_begin f_sort f_sign f_value f_word f_badAt f_bad f_side H locs ls hy18 ⟨hP, hD, hS⟩ hl
  refine lv_aload_n hx hb d_R_takesSide_0 rfl (lv_at hl 0 rfl) ?_
  refine lv_iconst (v := (0 : Int32)) hx hb d_R_takesSide_1 (by decide) ?_
  refine va_put (D := G.1) (ci := 12) (v := .int (0 : Int32)) (ty := .int) (C := n_R) (T := T_R) (N := 44) hx hb htl iw_R ty_R ty_R_ok nm_R hown hK hP hD hS 0 rfl rfl 18 (by decide) (htl _ k_1214) (fun _ h9 => h9) rfl (by decide +kernel) rfl rfl (Nat.le_of_ble_eq_true rfl) d_R_takesSide_2 (fun H locs hP hD hS => ?_)
  have hP : va_P G.1 classes [(h0, O_R f_raised a_all a_text a_saved a_undone f_undos f_reached f_length f_begin f_sort f_sign f_value f_word f_wrongAt f_badAt f_bad a_told f_read (0 : Int32) a_pile f_piled a_open f_opened f_joins f_had a_size a_capped a_connected a_bestCost a_bestCrosses a_bestPart a_part a_trees f_treeMany a_nodes f_nodeMany f_moveNode f_movePart f_moveFirst f_moveThen f_moveOther a_out f_outMany a_kept), (a_text, aB G 2000 g_text), (a_told, aI G 316 g_told)] H := hP
  have hD : va_D A [(h0, O_R f_raised a_all a_text a_saved a_undone f_undos f_reached f_length f_begin f_sort f_sign f_value f_word f_wrongAt f_badAt f_bad a_told f_read (0 : Int32) a_pile f_piled a_open f_opened f_joins f_had a_size a_capped a_connected a_bestCost a_bestCrosses a_bestPart a_part a_trees f_treeMany a_nodes f_nodeMany f_moveNode f_movePart f_moveFirst f_moveThen f_moveOther a_out f_outMany a_kept), (a_text, aB G 2000 g_text), (a_told, aI G 316 g_told)] := hD
  refine lv_aload_n hx hb d_R_takesSide_5 rfl (lv_at hl 0 rfl) ?_
  refine va_get (D := G.1) (ci := 12) (v := .int f_sort) (C := n_R) (T := T_R) (N := 44) hx hb htl iw_R hown hK hP 0 rfl rfl 9 (by decide) (htl _ k_1205) (fun _ h9 => h9) rfl d_R_takesSide_6 ?_
  refine lv_iconst (v := (3 : Int32)) hx hb d_R_takesSide_9 (by decide) ?_
  refine lv_icmp_eq (tgt := 18) hx hb d_R_takesSide_10 (by decide) (fun c1 => ?_) (fun c1 => ?_)
  · have hf := di_t c1 hf
    exact hJ18 f_reached f_begin f_sort f_sign f_value f_word f_wrongAt f_badAt f_bad (0 : Int32) H locs ls ⟨hP, hD, hS⟩ (lv_sub hl [0, 1] rfl) hf
  · have hf := di_f c1 hf
    refine lv_aload_n hx hb d_R_takesSide_13 rfl (lv_at hl 0 rfl) ?_
    obtain ⟨t2, hv3, hf⟩ := db_e hf
    refine call_i (isC := [0]) (run_V (As := []) (rest := []) (ci := 12) (q0 := 0) hx hb hml hown htl (c_R_fails l G Y  h0 a_all a_text a_saved a_undone a_told a_pile a_open a_size a_capped a_connected a_bestCost a_bestCrosses a_bestPart a_part a_trees a_nodes a_out a_kept f_raised f_undos f_reached f_length f_begin f_sort f_sign f_value f_word f_wrongAt f_badAt f_bad f_read (0 : Int32) f_piled f_opened f_joins f_had f_treeMany f_nodeMany f_moveNode f_movePart f_moveFirst f_moveThen f_moveOther f_outMany t2 hv3) mv_R_fails k_1379 (hRk (by decide) (by decide)) hK hsk hS hP hD (isC := [0]) rfl (by decide) rfl rfl rfl hl.1 rfl (lv_room (Nat.le_of_ble_eq_true rfl)) d_R_takesSide_14) hP hD hS rfl rfl (fun H locs hP hD hS => ?_)
    have hP : va_P G.1 classes [(h0, O_R f_raised a_all a_text a_saved a_undone f_undos f_reached f_length f_begin f_sort f_sign f_value f_word t2.2 f_badAt f_bad a_told f_read (0 : Int32) a_pile f_piled a_open f_opened f_joins f_had a_size a_capped a_connected a_bestCost a_bestCrosses a_bestPart a_part a_trees f_treeMany a_nodes f_nodeMany f_moveNode f_movePart f_moveFirst f_moveThen f_moveOther a_out f_outMany a_kept), (a_text, aB G 2000 g_text), (a_told, aI G 316 g_told)] H := hP
    have hD : va_D A [(h0, O_R f_raised a_all a_text a_saved a_undone f_undos f_reached f_length f_begin f_sort f_sign f_value f_word t2.2 f_badAt f_bad a_told f_read (0 : Int32) a_pile f_piled a_open f_opened f_joins f_had a_size a_capped a_connected a_bestCost a_bestCrosses a_bestPart a_part a_trees f_treeMany a_nodes f_nodeMany f_moveNode f_movePart f_moveFirst f_moveThen f_moveOther a_out f_outMany a_kept), (a_text, aB G 2000 g_text), (a_told, aI G 316 g_told)] := hD
    obtain ⟨c4, hf⟩ := dk_e hf
    cases hf
    exact hret 17 ls H locs c4 hP hS d_R_takesSide_17
set_option maxHeartbeats 4000000 in
set_option maxRecDepth 100000 in
theorem c_R_edgeLine (l : Launch) (G : va_G × (Nat → ClassId)) (Y : (Nat → Nat) × (Nat → Nat)) (h0 : Nat) (a_all : Nat) (a_text : Nat) (a_saved : Nat) (a_undone : Nat) (a_told : Nat) (a_pile : Nat) (a_open : Nat) (a_size : Nat) (a_capped : Nat) (a_connected : Nat) (a_bestCost : Nat) (a_bestCrosses : Nat) (a_bestPart : Nat) (a_part : Nat) (a_trees : Nat) (a_nodes : Nat) (a_out : Nat) (a_kept : Nat) (f_raised : Int32) (f_undos : Int32) (f_reached : Int32) (f_length : Int32) (f_begin : Int32) (f_sort : Int32) (f_sign : Int32) (f_value : Int32) (f_word : Int64) (f_wrongAt : Int32) (f_badAt : Int32) (f_bad : Int32) (f_read : Int32) (f_side : Int32) (f_piled : Int32) (f_opened : Int32) (f_joins : Int32) (f_had : Int32) (f_treeMany : Int32) (f_nodeMany : Int32) (f_moveNode : Int32) (f_movePart : Int32) (f_moveFirst : Int32) (f_moveThen : Int32) (f_moveOther : Int32) (f_outMany : Int32) (g_text : Nat → Int32) (g_told : Nat → Int32) (N : Nat) (res : Int32 × Int32 × Int32 × Int32 × Int32 × Int32 × Int64 × Int32 × Int32 × Int32 × Int32 × Int32 × (Nat → Int32)) (hf : R_edgeLine N f_reached f_length f_begin f_sort f_sign f_value f_word f_wrongAt f_badAt f_bad f_read f_side g_text g_told = some res) : Ci l classes y_R_edgeLine b_R_edgeLine 4 (some .boolean) (rmk 3) G.1 (tyL G) Y [.ref h0] [(h0, O_R f_raised a_all a_text a_saved a_undone f_undos f_reached f_length f_begin f_sort f_sign f_value f_word f_wrongAt f_badAt f_bad a_told f_read f_side a_pile f_piled a_open f_opened f_joins f_had a_size a_capped a_connected a_bestCost a_bestCrosses a_bestPart a_part a_trees f_treeMany a_nodes f_nodeMany f_moveNode f_movePart f_moveFirst f_moveThen f_moveOther a_out f_outMany a_kept), (a_text, aB G 2000 g_text), (a_told, aI G 316 g_told)] [(h0, O_R f_raised a_all a_text a_saved a_undone f_undos res.2.1 f_length res.2.2.1 res.2.2.2.1 res.2.2.2.2.1 res.2.2.2.2.2.1 res.2.2.2.2.2.2.1 res.2.2.2.2.2.2.2.1 res.2.2.2.2.2.2.2.2.1 res.2.2.2.2.2.2.2.2.2.1 a_told res.2.2.2.2.2.2.2.2.2.2.1 res.2.2.2.2.2.2.2.2.2.2.2.1 a_pile f_piled a_open f_opened f_joins f_had a_size a_capped a_connected a_bestCost a_bestCrosses a_bestPart a_part a_trees f_treeMany a_nodes f_nodeMany f_moveNode f_movePart f_moveFirst f_moveThen f_moveOther a_out f_outMany a_kept), (a_text, aB G 2000 g_text), (a_told, aI G 316 res.2.2.2.2.2.2.2.2.2.2.2.2)] res.1 := by
  refine entZ (by decide) (Nat.le_of_ble_eq_true rfl) ?_
  intro p e s m args below meth c ls A Q hx hb hml hown htl hK hsk wq hl hret
  obtain ⟨hP, hD, hS⟩ := wq
  have hl : lv_has ls 4 [(0, .ref h0)] := hl
  have hS : va_S A s.heap s.heap [] := hS
  obtain ⟨H, hH⟩ : ∃ H : Heap, H = s.heap := ⟨_, rfl⟩
  obtain ⟨locs, hlocs⟩ : ∃ z : List Loc, z = [] := ⟨_, rfl⟩
  rw [← hH] at hP
  replace hS : va_S A s.heap H locs := by rw [hH, hlocs]; exact hS
  suffices hgo : W p l e (rmk 3) s m args below meth c H locs 0 0 Q (F0 m 0 ls []) by rw [hH, hlocs] at hgo; exact hgo
  have hJ83 : ∀ (f_reached : Int32) (f_begin : Int32) (f_sort : Int32) (f_sign : Int32) (f_value : Int32) (f_word : Int64) (f_wrongAt : Int32) (f_badAt : Int32) (f_bad : Int32) (f_read : Int32) (f_side : Int32) (g_told : Nat → Int32) (H : Heap) (locs : List Loc) (ls : Array Slot), PDS G.1 classes A s [(h0, O_R f_raised a_all a_text a_saved a_undone f_undos f_reached f_length f_begin f_sort f_sign f_value f_word f_wrongAt f_badAt f_bad a_told f_read f_side a_pile f_piled a_open f_opened f_joins f_had a_size a_capped a_connected a_bestCost a_bestCrosses a_bestPart a_part a_trees f_treeMany a_nodes f_nodeMany f_moveNode f_movePart f_moveFirst f_moveThen f_moveOther a_out f_outMany a_kept), (a_text, aB G 2000 g_text), (a_told, aI G 316 g_told)] H locs → lv_has ls 4 [(0, .ref h0)] → R_edgeLine_83 N f_reached f_length f_begin f_sort f_sign f_value f_word f_wrongAt f_badAt f_bad f_read f_side g_text g_told = some res → W p l e (rmk 3) s m args below meth c H locs 0 0 Q (F0 m 83 ls []) := by
    intro f_reached f_begin f_sort f_sign f_value f_word f_wrongAt f_badAt f_bad f_read f_side g_told H locs ls wq hl hf
    obtain ⟨hP, hD, hS⟩ := wq
    refine lv_aload_n hx hb d_R_edgeLine_83 rfl (lv_at hl 0 rfl) ?_
    obtain ⟨t31, hv32, hf⟩ := db_e hf
    refine call_i (isC := [0]) (run_V (As := []) (rest := []) (ci := 12) (q0 := 0) hx hb hml hown htl (c_R_fails l G Y  h0 a_all a_text a_saved a_undone a_told a_pile a_open a_size a_capped a_connected a_bestCost a_bestCrosses a_bestPart a_part a_trees a_nodes a_out a_kept f_raised f_undos f_reached f_length f_begin f_sort f_sign f_value f_word f_wrongAt f_badAt f_bad f_read f_side f_piled f_opened f_joins f_had f_treeMany f_nodeMany f_moveNode f_movePart f_moveFirst f_moveThen f_moveOther f_outMany t31 hv32) mv_R_fails k_1379 (hRk (by decide) (by decide)) hK hsk hS hP hD (isC := [0]) rfl (by decide) rfl rfl rfl hl.1 rfl (lv_room (Nat.le_of_ble_eq_true rfl)) d_R_edgeLine_84) hP hD hS rfl rfl (fun H locs hP hD hS => ?_)
    have hP : va_P G.1 classes [(h0, O_R f_raised a_all a_text a_saved a_undone f_undos f_reached f_length f_begin f_sort f_sign f_value f_word t31.2 f_badAt f_bad a_told f_read f_side a_pile f_piled a_open f_opened f_joins f_had a_size a_capped a_connected a_bestCost a_bestCrosses a_bestPart a_part a_trees f_treeMany a_nodes f_nodeMany f_moveNode f_movePart f_moveFirst f_moveThen f_moveOther a_out f_outMany a_kept), (a_text, aB G 2000 g_text), (a_told, aI G 316 g_told)] H := hP
    have hD : va_D A [(h0, O_R f_raised a_all a_text a_saved a_undone f_undos f_reached f_length f_begin f_sort f_sign f_value f_word t31.2 f_badAt f_bad a_told f_read f_side a_pile f_piled a_open f_opened f_joins f_had a_size a_capped a_connected a_bestCost a_bestCrosses a_bestPart a_part a_trees f_treeMany a_nodes f_nodeMany f_moveNode f_movePart f_moveFirst f_moveThen f_moveOther a_out f_outMany a_kept), (a_text, aB G 2000 g_text), (a_told, aI G 316 g_told)] := hD
    obtain ⟨c33, hf⟩ := dk_e hf
    cases hf
    exact hret 87 ls H locs c33 hP hS d_R_edgeLine_87
  have hJ21 : ∀ (f_reached : Int32) (f_begin : Int32) (f_sort : Int32) (f_sign : Int32) (f_value : Int32) (f_word : Int64) (f_wrongAt : Int32) (f_badAt : Int32) (f_bad : Int32) (f_read : Int32) (f_side : Int32) (g_told : Nat → Int32) (H : Heap) (locs : List Loc) (ls : Array Slot), PDS G.1 classes A s [(h0, O_R f_raised a_all a_text a_saved a_undone f_undos f_reached f_length f_begin f_sort f_sign f_value f_word f_wrongAt f_badAt f_bad a_told f_read f_side a_pile f_piled a_open f_opened f_joins f_had a_size a_capped a_connected a_bestCost a_bestCrosses a_bestPart a_part a_trees f_treeMany a_nodes f_nodeMany f_moveNode f_movePart f_moveFirst f_moveThen f_moveOther a_out f_outMany a_kept), (a_text, aB G 2000 g_text), (a_told, aI G 316 g_told)] H locs → lv_has ls 4 [(0, .ref h0)] → R_edgeLine_21 N f_reached f_length f_begin f_sort f_sign f_value f_word f_wrongAt f_badAt f_bad f_read f_side g_text g_told = some res → W p l e (rmk 3) s m args below meth c H locs 0 0 Q (F0 m 21 ls []) := by
    intro f_reached f_begin f_sort f_sign f_value f_word f_wrongAt f_badAt f_bad f_read f_side g_told H locs ls wq hl hf
    obtain ⟨hP, hD, hS⟩ := wq
    refine lv_aload_n hx hb d_R_edgeLine_21 rfl (lv_at hl 0 rfl) ?_
    obtain ⟨t4, hv5, hf⟩ := db_e hf
    refine call_v (isC := [0, 1]) (run_V (As := []) (rest := []) (ci := 12) (q0 := 0) hx hb hml hown htl (c_R_token l G Y  h0 a_all a_text a_saved a_undone a_told a_pile a_open a_size a_capped a_connected a_bestCost a_bestCrosses a_bestPart a_part a_trees a_nodes a_out a_kept f_raised f_undos f_reached f_length f_begin f_sort f_sign f_value f_word f_wrongAt f_badAt f_bad f_read f_side f_piled f_opened f_joins f_had f_treeMany f_nodeMany f_moveNode f_movePart f_moveFirst f_moveThen f_moveOther f_outMany g_text N t4 hv5) mv_R_token k_1346 (hRk (by decide) (by decide)) hK hsk hS hP hD (isC := [0, 1]) rfl (by decide) rfl rfl rfl hl.1 rfl (lv_room (Nat.le_of_ble_eq_true rfl)) d_R_edgeLine_22) hP hD hS rfl rfl (fun H locs hP hD hS => ?_)
    have hP : va_P G.1 classes [(h0, O_R f_raised a_all a_text a_saved a_undone f_undos t4.1 f_length t4.2.1 t4.2.2.1 t4.2.2.2.1 t4.2.2.2.2.1 t4.2.2.2.2.2 f_wrongAt f_badAt f_bad a_told f_read f_side a_pile f_piled a_open f_opened f_joins f_had a_size a_capped a_connected a_bestCost a_bestCrosses a_bestPart a_part a_trees f_treeMany a_nodes f_nodeMany f_moveNode f_movePart f_moveFirst f_moveThen f_moveOther a_out f_outMany a_kept), (a_text, aB G 2000 g_text), (a_told, aI G 316 g_told)] H := hP
    have hD : va_D A [(h0, O_R f_raised a_all a_text a_saved a_undone f_undos t4.1 f_length t4.2.1 t4.2.2.1 t4.2.2.2.1 t4.2.2.2.2.1 t4.2.2.2.2.2 f_wrongAt f_badAt f_bad a_told f_read f_side a_pile f_piled a_open f_opened f_joins f_had a_size a_capped a_connected a_bestCost a_bestCrosses a_bestPart a_part a_trees f_treeMany a_nodes f_nodeMany f_moveNode f_movePart f_moveFirst f_moveThen f_moveOther a_out f_outMany a_kept), (a_text, aB G 2000 g_text), (a_told, aI G 316 g_told)] := hD
    refine lv_aload_n hx hb d_R_edgeLine_25 rfl (lv_at hl 0 rfl) ?_
    refine lv_iconst (v := (0 : Int32)) hx hb d_R_edgeLine_26 (by decide) ?_
    obtain ⟨t6, hv7, hf⟩ := db_e hf
    refine call_i (isC := [0, 1, 2]) (run_V (As := [.int (0 : Int32)]) (rest := []) (ci := 12) (q0 := 0) hx hb hml hown htl (c_R_takesSide l G Y  h0 a_all a_text a_saved a_undone a_told a_pile a_open a_size a_capped a_connected a_bestCost a_bestCrosses a_bestPart a_part a_trees a_nodes a_out a_kept f_raised f_undos t4.1 f_length t4.2.1 t4.2.2.1 t4.2.2.2.1 t4.2.2.2.2.1 t4.2.2.2.2.2 f_wrongAt f_badAt f_bad f_read f_side f_piled f_opened f_joins f_had f_treeMany f_nodeMany f_moveNode f_movePart f_moveFirst f_moveThen f_moveOther f_outMany g_text g_told (0 : Int32) N t6 hv7) mv_R_takesSide k_1388 (hRk (by decide) (by decide)) hK hsk hS hP hD (isC := [0, 1, 2]) rfl (by decide) rfl rfl rfl hl.1 rfl (lv_room (Nat.le_of_ble_eq_true rfl)) d_R_edgeLine_27) hP hD hS rfl rfl (fun H locs hP hD hS => ?_)
    have hP : va_P G.1 classes [(h0, O_R f_raised a_all a_text a_saved a_undone f_undos t6.2.1 f_length t6.2.2.1 t6.2.2.2.1 t6.2.2.2.2.1 t6.2.2.2.2.2.1 t6.2.2.2.2.2.2.1 t6.2.2.2.2.2.2.2.1 t6.2.2.2.2.2.2.2.2.1 t6.2.2.2.2.2.2.2.2.2.1 a_told f_read t6.2.2.2.2.2.2.2.2.2.2 a_pile f_piled a_open f_opened f_joins f_had a_size a_capped a_connected a_bestCost a_bestCrosses a_bestPart a_part a_trees f_treeMany a_nodes f_nodeMany f_moveNode f_movePart f_moveFirst f_moveThen f_moveOther a_out f_outMany a_kept), (a_text, aB G 2000 g_text), (a_told, aI G 316 g_told)] H := hP
    have hD : va_D A [(h0, O_R f_raised a_all a_text a_saved a_undone f_undos t6.2.1 f_length t6.2.2.1 t6.2.2.2.1 t6.2.2.2.2.1 t6.2.2.2.2.2.1 t6.2.2.2.2.2.2.1 t6.2.2.2.2.2.2.2.1 t6.2.2.2.2.2.2.2.2.1 t6.2.2.2.2.2.2.2.2.2.1 a_told f_read t6.2.2.2.2.2.2.2.2.2.2 a_pile f_piled a_open f_opened f_joins f_had a_size a_capped a_connected a_bestCost a_bestCrosses a_bestPart a_part a_trees f_treeMany a_nodes f_nodeMany f_moveNode f_movePart f_moveFirst f_moveThen f_moveOther a_out f_outMany a_kept), (a_text, aB G 2000 g_text), (a_told, aI G 316 g_told)] := hD
    refine lv_if_ne (tgt := 35) hx hb d_R_edgeLine_30 (by decide) (fun c8 => ?_) (fun c8 => ?_)
    · have hf := di_f c8 hf
      refine lv_aload_n hx hb d_R_edgeLine_35 rfl (lv_at hl 0 rfl) ?_
      refine va_get (D := G.1) (ci := 12) (v := .int t6.2.2.2.2.2.2.2.2.2.2) (C := n_R) (T := T_R) (N := 44) hx hb htl iw_R hown hK hP 0 rfl rfl 18 (by decide) (htl _ k_1214) (fun _ h9 => h9) rfl d_R_edgeLine_36 ?_
      refine lv_istore_n (lv' := [(1, .int t6.2.2.2.2.2.2.2.2.2.2), (0, .ref h0)]) hx hb d_R_edgeLine_39 rfl hl (by decide) rfl (fun ls hl => ?_)
      refine lv_aload_n hx hb d_R_edgeLine_40 rfl (lv_at hl 1 rfl) ?_
      refine lv_bipush (v := (45 : Int32)) hx hb d_R_edgeLine_41 (by decide) ?_
      obtain ⟨t9, hv10, hf⟩ := db_e hf
      refine call_i (isC := [0, 1]) (run_V (As := [.int (45 : Int32)]) (rest := []) (ci := 12) (q0 := 0) hx hb hml hown htl (c_R_takesSign l G Y  h0 a_all a_text a_saved a_undone a_told a_pile a_open a_size a_capped a_connected a_bestCost a_bestCrosses a_bestPart a_part a_trees a_nodes a_out a_kept f_raised f_undos t6.2.1 f_length t6.2.2.1 t6.2.2.2.1 t6.2.2.2.2.1 t6.2.2.2.2.2.1 t6.2.2.2.2.2.2.1 t6.2.2.2.2.2.2.2.1 t6.2.2.2.2.2.2.2.2.1 t6.2.2.2.2.2.2.2.2.2.1 f_read t6.2.2.2.2.2.2.2.2.2.2 f_piled f_opened f_joins f_had f_treeMany f_nodeMany f_moveNode f_movePart f_moveFirst f_moveThen f_moveOther f_outMany g_text (45 : Int32) N t9 hv10) mv_R_takesSign k_1392 (hRk (by decide) (by decide)) hK hsk hS hP hD (isC := [0, 1]) rfl (by decide) rfl rfl rfl hl.1 rfl (lv_room (Nat.le_of_ble_eq_true rfl)) d_R_edgeLine_43) hP hD hS rfl rfl (fun H locs hP hD hS => ?_)
      have hP : va_P G.1 classes [(h0, O_R f_raised a_all a_text a_saved a_undone f_undos t9.2.1 f_length t9.2.2.1 t9.2.2.2.1 t9.2.2.2.2.1 t9.2.2.2.2.2.1 t9.2.2.2.2.2.2.1 t9.2.2.2.2.2.2.2 t6.2.2.2.2.2.2.2.2.1 t6.2.2.2.2.2.2.2.2.2.1 a_told f_read t6.2.2.2.2.2.2.2.2.2.2 a_pile f_piled a_open f_opened f_joins f_had a_size a_capped a_connected a_bestCost a_bestCrosses a_bestPart a_part a_trees f_treeMany a_nodes f_nodeMany f_moveNode f_movePart f_moveFirst f_moveThen f_moveOther a_out f_outMany a_kept), (a_text, aB G 2000 g_text), (a_told, aI G 316 g_told)] H := hP
      have hD : va_D A [(h0, O_R f_raised a_all a_text a_saved a_undone f_undos t9.2.1 f_length t9.2.2.1 t9.2.2.2.1 t9.2.2.2.2.1 t9.2.2.2.2.2.1 t9.2.2.2.2.2.2.1 t9.2.2.2.2.2.2.2 t6.2.2.2.2.2.2.2.2.1 t6.2.2.2.2.2.2.2.2.2.1 a_told f_read t6.2.2.2.2.2.2.2.2.2.2 a_pile f_piled a_open f_opened f_joins f_had a_size a_capped a_connected a_bestCost a_bestCrosses a_bestPart a_part a_trees f_treeMany a_nodes f_nodeMany f_moveNode f_movePart f_moveFirst f_moveThen f_moveOther a_out f_outMany a_kept), (a_text, aB G 2000 g_text), (a_told, aI G 316 g_told)] := hD
      refine lv_if_eq (tgt := 57) hx hb d_R_edgeLine_46 (by decide) (fun c11 => ?_) (fun c11 => ?_)
      · have hf := di_t c11 hf
        refine lv_iconst (v := (0 : Int32)) hx hb d_R_edgeLine_57 (by decide) ?_
        cases hf
        exact hret 58 ls H locs z_0 hP hS d_R_edgeLine_58
      · have hf := di_f c11 hf
        refine lv_aload_n hx hb d_R_edgeLine_49 rfl (lv_at hl 1 rfl) ?_
        refine lv_iload_n hx hb d_R_edgeLine_50 rfl (lv_at hl 0 rfl) ?_
        obtain ⟨t12, hv13, hf⟩ := db_e hf
        refine call_i (isC := [0, 1, 2]) (run_V (As := [.int t6.2.2.2.2.2.2.2.2.2.2]) (rest := []) (ci := 12) (q0 := 0) hx hb hml hown htl (c_R_takesSide l G Y  h0 a_all a_text a_saved a_undone a_told a_pile a_open a_size a_capped a_connected a_bestCost a_bestCrosses a_bestPart a_part a_trees a_nodes a_out a_kept f_raised f_undos t9.2.1 f_length t9.2.2.1 t9.2.2.2.1 t9.2.2.2.2.1 t9.2.2.2.2.2.1 t9.2.2.2.2.2.2.1 t9.2.2.2.2.2.2.2 t6.2.2.2.2.2.2.2.2.1 t6.2.2.2.2.2.2.2.2.2.1 f_read t6.2.2.2.2.2.2.2.2.2.2 f_piled f_opened f_joins f_had f_treeMany f_nodeMany f_moveNode f_movePart f_moveFirst f_moveThen f_moveOther f_outMany g_text g_told t6.2.2.2.2.2.2.2.2.2.2 N t12 hv13) mv_R_takesSide k_1388 (hRk (by decide) (by decide)) hK hsk hS hP hD (isC := [0, 1, 2]) rfl (by decide) rfl rfl rfl hl.1 rfl (lv_room (Nat.le_of_ble_eq_true rfl)) d_R_edgeLine_51) hP hD hS rfl rfl (fun H locs hP hD hS => ?_)
        have hP : va_P G.1 classes [(h0, O_R f_raised a_all a_text a_saved a_undone f_undos t12.2.1 f_length t12.2.2.1 t12.2.2.2.1 t12.2.2.2.2.1 t12.2.2.2.2.2.1 t12.2.2.2.2.2.2.1 t12.2.2.2.2.2.2.2.1 t12.2.2.2.2.2.2.2.2.1 t12.2.2.2.2.2.2.2.2.2.1 a_told f_read t12.2.2.2.2.2.2.2.2.2.2 a_pile f_piled a_open f_opened f_joins f_had a_size a_capped a_connected a_bestCost a_bestCrosses a_bestPart a_part a_trees f_treeMany a_nodes f_nodeMany f_moveNode f_movePart f_moveFirst f_moveThen f_moveOther a_out f_outMany a_kept), (a_text, aB G 2000 g_text), (a_told, aI G 316 g_told)] H := hP
        have hD : va_D A [(h0, O_R f_raised a_all a_text a_saved a_undone f_undos t12.2.1 f_length t12.2.2.1 t12.2.2.2.1 t12.2.2.2.2.1 t12.2.2.2.2.2.1 t12.2.2.2.2.2.2.1 t12.2.2.2.2.2.2.2.1 t12.2.2.2.2.2.2.2.2.1 t12.2.2.2.2.2.2.2.2.2.1 a_told f_read t12.2.2.2.2.2.2.2.2.2.2 a_pile f_piled a_open f_opened f_joins f_had a_size a_capped a_connected a_bestCost a_bestCrosses a_bestPart a_part a_trees f_treeMany a_nodes f_nodeMany f_moveNode f_movePart f_moveFirst f_moveThen f_moveOther a_out f_outMany a_kept), (a_text, aB G 2000 g_text), (a_told, aI G 316 g_told)] := hD
        refine lv_if_ne (tgt := 59) hx hb d_R_edgeLine_54 (by decide) (fun c14 => ?_) (fun c14 => ?_)
        · have hf := di_f c14 hf
          refine lv_aload_n hx hb d_R_edgeLine_59 rfl (lv_at hl 1 rfl) ?_
          refine va_get (D := G.1) (ci := 12) (v := .int t12.2.2.2.2.2.2.2.2.2.2) (C := n_R) (T := T_R) (N := 44) hx hb htl iw_R hown hK hP 0 rfl rfl 18 (by decide) (htl _ k_1214) (fun _ h9 => h9) rfl d_R_edgeLine_60 ?_
          refine lv_istore_n (lv' := [(2, .int t12.2.2.2.2.2.2.2.2.2.2), (1, .int t6.2.2.2.2.2.2.2.2.2.2), (0, .ref h0)]) hx hb d_R_edgeLine_63 rfl hl (by decide) rfl (fun ls hl => ?_)
          refine lv_aload_n hx hb d_R_edgeLine_64 rfl (lv_at hl 2 rfl) ?_
          refine va_get (D := G.1) (ci := 12) (v := .int t12.2.2.2.1) (C := n_R) (T := T_R) (N := 44) hx hb htl iw_R hown hK hP 0 rfl rfl 9 (by decide) (htl _ k_1205) (fun _ h9 => h9) rfl d_R_edgeLine_65 ?_
          refine lv_iconst (v := (2 : Int32)) hx hb d_R_edgeLine_68 (by decide) ?_
          refine lv_icmp_ne (tgt := 83) hx hb d_R_edgeLine_69 (by decide) (fun c15 => ?_) (fun c15 => ?_)
          · have hf := di_f c15 hf
            exact hJ83 t12.2.1 t12.2.2.1 t12.2.2.2.1 t12.2.2.2.2.1 t12.2.2.2.2.2.1 t12.2.2.2.2.2.2.1 t12.2.2.2.2.2.2.2.1 t12.2.2.2.2.2.2.2.2.1 t12.2.2.2.2.2.2.2.2.2.1 f_read t12.2.2.2.2.2.2.2.2.2.2 g_told H locs ls ⟨hP, hD, hS⟩ (lv_sub hl [2] rfl) hf
          · have hf := di_t c15 hf
            refine lv_aload_n hx hb d_R_edgeLine_72 rfl (lv_at hl 2 rfl) ?_
            refine va_get (D := G.1) (ci := 12) (v := .long t12.2.2.2.2.2.2.1) (C := n_R) (T := T_R) (N := 44) hx hb htl iw_R hown hK hP 0 rfl rfl 12 (by decide) (htl _ k_1208) (fun _ h9 => h9) rfl d_R_edgeLine_73 ?_
            refine lv_ldc2 (v := (25209 : Int64)) hx hb hown (htl _ k_1396) d_R_edgeLine_76 ?_
            refine lx_eq (tgt := 88) hx hb d_R_edgeLine_79 d_R_edgeLine_80 (by decide) (fun c16 => ?_) (fun c16 => ?_)
            · have hf := di_t c16 hf
              refine lv_aload_n hx hb d_R_edgeLine_88 rfl (lv_at hl 2 rfl) ?_
              obtain ⟨t17, hv18, hf⟩ := db_e hf
              refine call_v (isC := [0, 1]) (run_V (As := []) (rest := []) (ci := 12) (q0 := 0) hx hb hml hown htl (c_R_token l G Y  h0 a_all a_text a_saved a_undone a_told a_pile a_open a_size a_capped a_connected a_bestCost a_bestCrosses a_bestPart a_part a_trees a_nodes a_out a_kept f_raised f_undos t12.2.1 f_length t12.2.2.1 t12.2.2.2.1 t12.2.2.2.2.1 t12.2.2.2.2.2.1 t12.2.2.2.2.2.2.1 t12.2.2.2.2.2.2.2.1 t12.2.2.2.2.2.2.2.2.1 t12.2.2.2.2.2.2.2.2.2.1 f_read t12.2.2.2.2.2.2.2.2.2.2 f_piled f_opened f_joins f_had f_treeMany f_nodeMany f_moveNode f_movePart f_moveFirst f_moveThen f_moveOther f_outMany g_text N t17 hv18) mv_R_token k_1346 (hRk (by decide) (by decide)) hK hsk hS hP hD (isC := [0, 1]) rfl (by decide) rfl rfl rfl hl.1 rfl (lv_room (Nat.le_of_ble_eq_true rfl)) d_R_edgeLine_89) hP hD hS rfl rfl (fun H locs hP hD hS => ?_)
              have hP : va_P G.1 classes [(h0, O_R f_raised a_all a_text a_saved a_undone f_undos t17.1 f_length t17.2.1 t17.2.2.1 t17.2.2.2.1 t17.2.2.2.2.1 t17.2.2.2.2.2 t12.2.2.2.2.2.2.2.1 t12.2.2.2.2.2.2.2.2.1 t12.2.2.2.2.2.2.2.2.2.1 a_told f_read t12.2.2.2.2.2.2.2.2.2.2 a_pile f_piled a_open f_opened f_joins f_had a_size a_capped a_connected a_bestCost a_bestCrosses a_bestPart a_part a_trees f_treeMany a_nodes f_nodeMany f_moveNode f_movePart f_moveFirst f_moveThen f_moveOther a_out f_outMany a_kept), (a_text, aB G 2000 g_text), (a_told, aI G 316 g_told)] H := hP
              have hD : va_D A [(h0, O_R f_raised a_all a_text a_saved a_undone f_undos t17.1 f_length t17.2.1 t17.2.2.1 t17.2.2.2.1 t17.2.2.2.2.1 t17.2.2.2.2.2 t12.2.2.2.2.2.2.2.1 t12.2.2.2.2.2.2.2.2.1 t12.2.2.2.2.2.2.2.2.2.1 a_told f_read t12.2.2.2.2.2.2.2.2.2.2 a_pile f_piled a_open f_opened f_joins f_had a_size a_capped a_connected a_bestCost a_bestCrosses a_bestPart a_part a_trees f_treeMany a_nodes f_nodeMany f_moveNode f_movePart f_moveFirst f_moveThen f_moveOther a_out f_outMany a_kept), (a_text, aB G 2000 g_text), (a_told, aI G 316 g_told)] := hD
              refine lv_aload_n hx hb d_R_edgeLine_92 rfl (lv_at hl 2 rfl) ?_
              refine lv_iconst (v := (1 : Int32)) hx hb d_R_edgeLine_93 (by decide) ?_
              refine lv_ldc (v := (100000 : Int32)) hx hb hown (htl _ k_1397) d_R_edgeLine_94 ?_
              obtain ⟨t19, hv20, hf⟩ := db_e hf
              refine call_i (isC := [0, 1]) (run_V (As := [.int (1 : Int32), .int (100000 : Int32)]) (rest := []) (ci := 12) (q0 := 0) hx hb hml hown htl (c_R_takes l G Y  h0 a_all a_text a_saved a_undone a_told a_pile a_open a_size a_capped a_connected a_bestCost a_bestCrosses a_bestPart a_part a_trees a_nodes a_out a_kept f_raised f_undos t17.1 f_length t17.2.1 t17.2.2.1 t17.2.2.2.1 t17.2.2.2.2.1 t17.2.2.2.2.2 t12.2.2.2.2.2.2.2.1 t12.2.2.2.2.2.2.2.2.1 t12.2.2.2.2.2.2.2.2.2.1 f_read t12.2.2.2.2.2.2.2.2.2.2 f_piled f_opened f_joins f_had f_treeMany f_nodeMany f_moveNode f_movePart f_moveFirst f_moveThen f_moveOther f_outMany g_text (1 : Int32) (100000 : Int32) N t19 hv20) mv_R_takes k_1375 (hRk (by decide) (by decide)) hK hsk hS hP hD (isC := [0, 1]) rfl (by decide) rfl rfl rfl hl.1 rfl (lv_room (Nat.le_of_ble_eq_true rfl)) d_R_edgeLine_96) hP hD hS rfl rfl (fun H locs hP hD hS => ?_)
              have hP : va_P G.1 classes [(h0, O_R f_raised a_all a_text a_saved a_undone f_undos t19.2.1 f_length t19.2.2.1 t19.2.2.2.1 t19.2.2.2.2.1 t19.2.2.2.2.2.1 t19.2.2.2.2.2.2.1 t19.2.2.2.2.2.2.2.1 t19.2.2.2.2.2.2.2.2.1 t19.2.2.2.2.2.2.2.2.2.1 a_told t19.2.2.2.2.2.2.2.2.2.2 t12.2.2.2.2.2.2.2.2.2.2 a_pile f_piled a_open f_opened f_joins f_had a_size a_capped a_connected a_bestCost a_bestCrosses a_bestPart a_part a_trees f_treeMany a_nodes f_nodeMany f_moveNode f_movePart f_moveFirst f_moveThen f_moveOther a_out f_outMany a_kept), (a_text, aB G 2000 g_text), (a_told, aI G 316 g_told)] H := hP
              have hD : va_D A [(h0, O_R f_raised a_all a_text a_saved a_undone f_undos t19.2.1 f_length t19.2.2.1 t19.2.2.2.1 t19.2.2.2.2.1 t19.2.2.2.2.2.1 t19.2.2.2.2.2.2.1 t19.2.2.2.2.2.2.2.1 t19.2.2.2.2.2.2.2.2.1 t19.2.2.2.2.2.2.2.2.2.1 a_told t19.2.2.2.2.2.2.2.2.2.2 t12.2.2.2.2.2.2.2.2.2.2 a_pile f_piled a_open f_opened f_joins f_had a_size a_capped a_connected a_bestCost a_bestCrosses a_bestPart a_part a_trees f_treeMany a_nodes f_nodeMany f_moveNode f_movePart f_moveFirst f_moveThen f_moveOther a_out f_outMany a_kept), (a_text, aB G 2000 g_text), (a_told, aI G 316 g_told)] := hD
              refine lv_if_ne (tgt := 104) hx hb d_R_edgeLine_99 (by decide) (fun c21 => ?_) (fun c21 => ?_)
              · have hf := di_f c21 hf
                refine lv_aload_n hx hb d_R_edgeLine_104 rfl (lv_at hl 2 rfl) ?_
                refine va_get (D := G.1) (ci := 12) (v := .ref a_told) (C := n_R) (T := T_R) (N := 44) hx hb htl iw_R hown hK hP 0 rfl rfl 16 (by decide) (htl _ k_1212) (fun _ h9 => h9) rfl d_R_edgeLine_105 ?_
                refine lv_bipush (v := (9 : Int32)) hx hb d_R_edgeLine_108 (by decide) ?_
                refine va_iald hx hb hK hP 2 1 rfl rfl (vp_lit (by decide)) d_R_edgeLine_110 ?_
                refine lv_bipush (v := (16 : Int32)) hx hb d_R_edgeLine_111 (by decide) ?_
                refine lv_icmp_ge (tgt := 168) hx hb d_R_edgeLine_113 (by decide) (fun c22 => ?_) (fun c22 => ?_)
                · have hf := di_t c22 hf
                  refine lv_iconst (v := (1 : Int32)) hx hb d_R_edgeLine_168 (by decide) ?_
                  cases hf
                  exact hret 169 ls H locs z_1 hP hS d_R_edgeLine_169
                · have hf := di_f c22 hf
                  refine lv_bipush (v := (10 : Int32)) hx hb d_R_edgeLine_116 (by decide) ?_
                  refine lv_iconst (v := (3 : Int32)) hx hb d_R_edgeLine_118 (by decide) ?_
                  refine lv_aload_n hx hb d_R_edgeLine_119 rfl (lv_at hl 2 rfl) ?_
                  refine va_get (D := G.1) (ci := 12) (v := .ref a_told) (C := n_R) (T := T_R) (N := 44) hx hb htl iw_R hown hK hP 0 rfl rfl 16 (by decide) (htl _ k_1212) (fun _ h9 => h9) rfl d_R_edgeLine_120 ?_
                  refine lv_bipush (v := (9 : Int32)) hx hb d_R_edgeLine_123 (by decide) ?_
                  refine va_iald hx hb hK hP 2 1 rfl rfl (vp_lit (by decide)) d_R_edgeLine_125 ?_
                  refine lv_imul hx hb d_R_edgeLine_126 ?_
                  refine lv_iadd hx hb d_R_edgeLine_127 ?_
                  refine lv_topi (fun v23 ev23 => ?_)
                  have hf := dn_e ev23 hf
                  refine lv_istore_n (lv' := [(3, .int v23), (2, .int t12.2.2.2.2.2.2.2.2.2.2), (1, .int t6.2.2.2.2.2.2.2.2.2.2), (0, .ref h0)]) hx hb d_R_edgeLine_128 rfl hl (by decide) rfl (fun ls hl => ?_)
                  refine lv_aload_n hx hb d_R_edgeLine_129 rfl (lv_at hl 3 rfl) ?_
                  refine va_get (D := G.1) (ci := 12) (v := .ref a_told) (C := n_R) (T := T_R) (N := 44) hx hb htl iw_R hown hK hP 0 rfl rfl 16 (by decide) (htl _ k_1212) (fun _ h9 => h9) rfl d_R_edgeLine_130 ?_
                  refine lv_iload_n hx hb d_R_edgeLine_133 rfl (lv_at hl 0 rfl) ?_
                  refine lv_iload_n hx hb d_R_edgeLine_134 rfl (lv_at hl 2 rfl) ?_
                  obtain ⟨c24, hf⟩ := dk_e hf
                  refine nx_iast hx hb hK hP hD hS 2 1 rfl rfl c24 d_R_edgeLine_135 (fun v25 ev25 H locs hP hD hS => ?_)
                  have hf := dn_e ev25 hf
                  have hP : va_P G.1 classes [(h0, O_R f_raised a_all a_text a_saved a_undone f_undos t19.2.1 f_length t19.2.2.1 t19.2.2.2.1 t19.2.2.2.2.1 t19.2.2.2.2.2.1 t19.2.2.2.2.2.2.1 t19.2.2.2.2.2.2.2.1 t19.2.2.2.2.2.2.2.2.1 t19.2.2.2.2.2.2.2.2.2.1 a_told t19.2.2.2.2.2.2.2.2.2.2 t12.2.2.2.2.2.2.2.2.2.2 a_pile f_piled a_open f_opened f_joins f_had a_size a_capped a_connected a_bestCost a_bestCrosses a_bestPart a_part a_trees f_treeMany a_nodes f_nodeMany f_moveNode f_movePart f_moveFirst f_moveThen f_moveOther a_out f_outMany a_kept), (a_text, aB G 2000 g_text), (a_told, aI G 316 v25)] H := hP
                  have hD : va_D A [(h0, O_R f_raised a_all a_text a_saved a_undone f_undos t19.2.1 f_length t19.2.2.1 t19.2.2.2.1 t19.2.2.2.2.1 t19.2.2.2.2.2.1 t19.2.2.2.2.2.2.1 t19.2.2.2.2.2.2.2.1 t19.2.2.2.2.2.2.2.2.1 t19.2.2.2.2.2.2.2.2.2.1 a_told t19.2.2.2.2.2.2.2.2.2.2 t12.2.2.2.2.2.2.2.2.2.2 a_pile f_piled a_open f_opened f_joins f_had a_size a_capped a_connected a_bestCost a_bestCrosses a_bestPart a_part a_trees f_treeMany a_nodes f_nodeMany f_moveNode f_movePart f_moveFirst f_moveThen f_moveOther a_out f_outMany a_kept), (a_text, aB G 2000 g_text), (a_told, aI G 316 v25)] := hD
                  refine lv_aload_n hx hb d_R_edgeLine_136 rfl (lv_at hl 3 rfl) ?_
                  refine va_get (D := G.1) (ci := 12) (v := .ref a_told) (C := n_R) (T := T_R) (N := 44) hx hb htl iw_R hown hK hP 0 rfl rfl 16 (by decide) (htl _ k_1212) (fun _ h9 => h9) rfl d_R_edgeLine_137 ?_
                  refine lv_iload_n hx hb d_R_edgeLine_140 rfl (lv_at hl 0 rfl) ?_
                  refine lv_iconst (v := (1 : Int32)) hx hb d_R_edgeLine_141 (by decide) ?_
                  refine lv_iadd hx hb d_R_edgeLine_142 ?_
                  refine lv_iload_n hx hb d_R_edgeLine_143 rfl (lv_at hl 1 rfl) ?_
                  obtain ⟨c26, hf⟩ := dk_e hf
                  refine nx_iast hx hb hK hP hD hS 2 1 rfl rfl c26 d_R_edgeLine_144 (fun v27 ev27 H locs hP hD hS => ?_)
                  have hf := dn_e ev27 hf
                  have hP : va_P G.1 classes [(h0, O_R f_raised a_all a_text a_saved a_undone f_undos t19.2.1 f_length t19.2.2.1 t19.2.2.2.1 t19.2.2.2.2.1 t19.2.2.2.2.2.1 t19.2.2.2.2.2.2.1 t19.2.2.2.2.2.2.2.1 t19.2.2.2.2.2.2.2.2.1 t19.2.2.2.2.2.2.2.2.2.1 a_told t19.2.2.2.2.2.2.2.2.2.2 t12.2.2.2.2.2.2.2.2.2.2 a_pile f_piled a_open f_opened f_joins f_had a_size a_capped a_connected a_bestCost a_bestCrosses a_bestPart a_part a_trees f_treeMany a_nodes f_nodeMany f_moveNode f_movePart f_moveFirst f_moveThen f_moveOther a_out f_outMany a_kept), (a_text, aB G 2000 g_text), (a_told, aI G 316 v27)] H := hP
                  have hD : va_D A [(h0, O_R f_raised a_all a_text a_saved a_undone f_undos t19.2.1 f_length t19.2.2.1 t19.2.2.2.1 t19.2.2.2.2.1 t19.2.2.2.2.2.1 t19.2.2.2.2.2.2.1 t19.2.2.2.2.2.2.2.1 t19.2.2.2.2.2.2.2.2.1 t19.2.2.2.2.2.2.2.2.2.1 a_told t19.2.2.2.2.2.2.2.2.2.2 t12.2.2.2.2.2.2.2.2.2.2 a_pile f_piled a_open f_opened f_joins f_had a_size a_capped a_connected a_bestCost a_bestCrosses a_bestPart a_part a_trees f_treeMany a_nodes f_nodeMany f_moveNode f_movePart f_moveFirst f_moveThen f_moveOther a_out f_outMany a_kept), (a_text, aB G 2000 g_text), (a_told, aI G 316 v27)] := hD
                  refine lv_aload_n hx hb d_R_edgeLine_145 rfl (lv_at hl 3 rfl) ?_
                  refine va_get (D := G.1) (ci := 12) (v := .ref a_told) (C := n_R) (T := T_R) (N := 44) hx hb htl iw_R hown hK hP 0 rfl rfl 16 (by decide) (htl _ k_1212) (fun _ h9 => h9) rfl d_R_edgeLine_146 ?_
                  refine lv_iload_n hx hb d_R_edgeLine_149 rfl (lv_at hl 0 rfl) ?_
                  refine lv_iconst (v := (2 : Int32)) hx hb d_R_edgeLine_150 (by decide) ?_
                  refine lv_iadd hx hb d_R_edgeLine_151 ?_
                  refine lv_aload_n hx hb d_R_edgeLine_152 rfl (lv_at hl 3 rfl) ?_
                  refine va_get (D := G.1) (ci := 12) (v := .int t19.2.2.2.2.2.2.2.2.2.2) (C := n_R) (T := T_R) (N := 44) hx hb htl iw_R hown hK hP 0 rfl rfl 17 (by decide) (htl _ k_1213) (fun _ h9 => h9) rfl d_R_edgeLine_153 ?_
                  obtain ⟨c28, hf⟩ := dk_e hf
                  refine nx_iast hx hb hK hP hD hS 2 1 rfl rfl c28 d_R_edgeLine_156 (fun v29 ev29 H locs hP hD hS => ?_)
                  have hf := dn_e ev29 hf
                  have hP : va_P G.1 classes [(h0, O_R f_raised a_all a_text a_saved a_undone f_undos t19.2.1 f_length t19.2.2.1 t19.2.2.2.1 t19.2.2.2.2.1 t19.2.2.2.2.2.1 t19.2.2.2.2.2.2.1 t19.2.2.2.2.2.2.2.1 t19.2.2.2.2.2.2.2.2.1 t19.2.2.2.2.2.2.2.2.2.1 a_told t19.2.2.2.2.2.2.2.2.2.2 t12.2.2.2.2.2.2.2.2.2.2 a_pile f_piled a_open f_opened f_joins f_had a_size a_capped a_connected a_bestCost a_bestCrosses a_bestPart a_part a_trees f_treeMany a_nodes f_nodeMany f_moveNode f_movePart f_moveFirst f_moveThen f_moveOther a_out f_outMany a_kept), (a_text, aB G 2000 g_text), (a_told, aI G 316 v29)] H := hP
                  have hD : va_D A [(h0, O_R f_raised a_all a_text a_saved a_undone f_undos t19.2.1 f_length t19.2.2.1 t19.2.2.2.1 t19.2.2.2.2.1 t19.2.2.2.2.2.1 t19.2.2.2.2.2.2.1 t19.2.2.2.2.2.2.2.1 t19.2.2.2.2.2.2.2.2.1 t19.2.2.2.2.2.2.2.2.2.1 a_told t19.2.2.2.2.2.2.2.2.2.2 t12.2.2.2.2.2.2.2.2.2.2 a_pile f_piled a_open f_opened f_joins f_had a_size a_capped a_connected a_bestCost a_bestCrosses a_bestPart a_part a_trees f_treeMany a_nodes f_nodeMany f_moveNode f_movePart f_moveFirst f_moveThen f_moveOther a_out f_outMany a_kept), (a_text, aB G 2000 g_text), (a_told, aI G 316 v29)] := hD
                  refine lv_aload_n hx hb d_R_edgeLine_157 rfl (lv_at hl 3 rfl) ?_
                  refine va_get (D := G.1) (ci := 12) (v := .ref a_told) (C := n_R) (T := T_R) (N := 44) hx hb htl iw_R hown hK hP 0 rfl rfl 16 (by decide) (htl _ k_1212) (fun _ h9 => h9) rfl d_R_edgeLine_158 ?_
                  refine lv_bipush (v := (9 : Int32)) hx hb d_R_edgeLine_161 (by decide) ?_
                  refine lv_dup2_11 hx hb d_R_edgeLine_163 rfl rfl ?_
                  refine va_iald hx hb hK hP 2 1 rfl rfl (vp_lit (by decide)) d_R_edgeLine_164 ?_
                  refine lv_iconst (v := (1 : Int32)) hx hb d_R_edgeLine_165 (by decide) ?_
                  refine lv_iadd hx hb d_R_edgeLine_166 ?_
                  refine nx_iast hx hb hK hP hD hS 2 1 rfl rfl (vp_lit (by decide)) d_R_edgeLine_167 (fun v30 ev30 H locs hP hD hS => ?_)
                  have hf := dn_e ev30 hf
                  have hP : va_P G.1 classes [(h0, O_R f_raised a_all a_text a_saved a_undone f_undos t19.2.1 f_length t19.2.2.1 t19.2.2.2.1 t19.2.2.2.2.1 t19.2.2.2.2.2.1 t19.2.2.2.2.2.2.1 t19.2.2.2.2.2.2.2.1 t19.2.2.2.2.2.2.2.2.1 t19.2.2.2.2.2.2.2.2.2.1 a_told t19.2.2.2.2.2.2.2.2.2.2 t12.2.2.2.2.2.2.2.2.2.2 a_pile f_piled a_open f_opened f_joins f_had a_size a_capped a_connected a_bestCost a_bestCrosses a_bestPart a_part a_trees f_treeMany a_nodes f_nodeMany f_moveNode f_movePart f_moveFirst f_moveThen f_moveOther a_out f_outMany a_kept), (a_text, aB G 2000 g_text), (a_told, aI G 316 v30)] H := hP
                  have hD : va_D A [(h0, O_R f_raised a_all a_text a_saved a_undone f_undos t19.2.1 f_length t19.2.2.1 t19.2.2.2.1 t19.2.2.2.2.1 t19.2.2.2.2.2.1 t19.2.2.2.2.2.2.1 t19.2.2.2.2.2.2.2.1 t19.2.2.2.2.2.2.2.2.1 t19.2.2.2.2.2.2.2.2.2.1 a_told t19.2.2.2.2.2.2.2.2.2.2 t12.2.2.2.2.2.2.2.2.2.2 a_pile f_piled a_open f_opened f_joins f_had a_size a_capped a_connected a_bestCost a_bestCrosses a_bestPart a_part a_trees f_treeMany a_nodes f_nodeMany f_moveNode f_movePart f_moveFirst f_moveThen f_moveOther a_out f_outMany a_kept), (a_text, aB G 2000 g_text), (a_told, aI G 316 v30)] := hD
                  refine lv_iconst (v := (1 : Int32)) hx hb d_R_edgeLine_168 (by decide) ?_
                  cases hf
                  exact hret 169 ls H locs z_1 hP hS d_R_edgeLine_169
              · have hf := di_t c21 hf
                refine lv_iconst (v := (0 : Int32)) hx hb d_R_edgeLine_102 (by decide) ?_
                cases hf
                exact hret 103 ls H locs z_0 hP hS d_R_edgeLine_103
            · have hf := di_f c16 hf
              exact hJ83 t12.2.1 t12.2.2.1 t12.2.2.2.1 t12.2.2.2.2.1 t12.2.2.2.2.2.1 t12.2.2.2.2.2.2.1 t12.2.2.2.2.2.2.2.1 t12.2.2.2.2.2.2.2.2.1 t12.2.2.2.2.2.2.2.2.2.1 f_read t12.2.2.2.2.2.2.2.2.2.2 g_told H locs ls ⟨hP, hD, hS⟩ (lv_sub hl [2] rfl) hf
        · have hf := di_t c14 hf
          refine lv_iconst (v := (0 : Int32)) hx hb d_R_edgeLine_57 (by decide) ?_
          cases hf
          exact hret 58 ls H locs z_0 hP hS d_R_edgeLine_58
    · have hf := di_t c8 hf
      refine lv_iconst (v := (0 : Int32)) hx hb d_R_edgeLine_33 (by decide) ?_
      cases hf
      exact hret 34 ls H locs z_0 hP hS d_R_edgeLine_34
  refine lv_aload_n hx hb d_R_edgeLine_0 rfl (lv_at hl 0 rfl) ?_
  refine va_get (D := G.1) (ci := 12) (v := .ref a_told) (C := n_R) (T := T_R) (N := 44) hx hb htl iw_R hown hK hP 0 rfl rfl 16 (by decide) (htl _ k_1212) (fun _ h9 => h9) rfl d_R_edgeLine_1 ?_
  refine lv_bipush (v := (9 : Int32)) hx hb d_R_edgeLine_4 (by decide) ?_
  refine va_iald hx hb hK hP 2 1 rfl rfl (vp_lit (by decide)) d_R_edgeLine_6 ?_
  refine lv_bipush (v := (16 : Int32)) hx hb d_R_edgeLine_7 (by decide) ?_
  refine lv_icmp_ne (tgt := 21) hx hb d_R_edgeLine_9 (by decide) (fun c1 => ?_) (fun c1 => ?_)
  · have hf := di_f c1 hf
    exact hJ21 f_reached f_begin f_sort f_sign f_value f_word f_wrongAt f_badAt f_bad f_read f_side g_told H locs ls ⟨hP, hD, hS⟩ (lv_sub hl [0] rfl) hf
  · have hf := di_t c1 hf
    refine lv_aload_n hx hb d_R_edgeLine_12 rfl (lv_at hl 0 rfl) ?_
    refine lv_iconst (v := (4 : Int32)) hx hb d_R_edgeLine_13 (by decide) ?_
    refine lv_aload_n hx hb d_R_edgeLine_14 rfl (lv_at hl 0 rfl) ?_
    refine va_get (D := G.1) (ci := 12) (v := .int f_begin) (C := n_R) (T := T_R) (N := 44) hx hb htl iw_R hown hK hP 0 rfl rfl 8 (by decide) (htl _ k_1204) (fun _ h9 => h9) rfl d_R_edgeLine_15 ?_
    obtain ⟨t2, hv3, hf⟩ := db_e hf
    refine call_v (isC := [0]) (run_V (As := [.int (4 : Int32), .int f_begin]) (rest := []) (ci := 12) (q0 := 0) hx hb hml hown htl (c_R_isBad l G Y  h0 a_all a_text a_saved a_undone a_told a_pile a_open a_size a_capped a_connected a_bestCost a_bestCrosses a_bestPart a_part a_trees a_nodes a_out a_kept f_raised f_undos f_reached f_length f_begin f_sort f_sign f_value f_word f_wrongAt f_badAt f_bad f_read f_side f_piled f_opened f_joins f_had f_treeMany f_nodeMany f_moveNode f_movePart f_moveFirst f_moveThen f_moveOther f_outMany (4 : Int32) f_begin t2 hv3) mv_R_isBad k_1370 (hRk (by decide) (by decide)) hK hsk hS hP hD (isC := [0]) rfl (by decide) rfl rfl rfl hl.1 rfl (lv_room (Nat.le_of_ble_eq_true rfl)) d_R_edgeLine_18) hP hD hS rfl rfl (fun H locs hP hD hS => ?_)
    have hP : va_P G.1 classes [(h0, O_R f_raised a_all a_text a_saved a_undone f_undos f_reached f_length f_begin f_sort f_sign f_value f_word f_wrongAt t2.1 t2.2 a_told f_read f_side a_pile f_piled a_open f_opened f_joins f_had a_size a_capped a_connected a_bestCost a_bestCrosses a_bestPart a_part a_trees f_treeMany a_nodes f_nodeMany f_moveNode f_movePart f_moveFirst f_moveThen f_moveOther a_out f_outMany a_kept), (a_text, aB G 2000 g_text), (a_told, aI G 316 g_told)] H := hP
    have hD : va_D A [(h0, O_R f_raised a_all a_text a_saved a_undone f_undos f_reached f_length f_begin f_sort f_sign f_value f_word f_wrongAt t2.1 t2.2 a_told f_read f_side a_pile f_piled a_open f_opened f_joins f_had a_size a_capped a_connected a_bestCost a_bestCrosses a_bestPart a_part a_trees f_treeMany a_nodes f_nodeMany f_moveNode f_movePart f_moveFirst f_moveThen f_moveOther a_out f_outMany a_kept), (a_text, aB G 2000 g_text), (a_told, aI G 316 g_told)] := hD
    exact hJ21 f_reached f_begin f_sort f_sign f_value f_word f_wrongAt t2.1 t2.2 f_read f_side g_told H locs ls ⟨hP, hD, hS⟩ (lv_sub hl [0] rfl) hf
set_option maxHeartbeats 4000000 in
set_option maxRecDepth 100000 in
theorem c_R_line (l : Launch) (G : va_G × (Nat → ClassId)) (Y : (Nat → Nat) × (Nat → Nat)) (h0 : Nat) (a_all : Nat) (a_text : Nat) (a_saved : Nat) (a_undone : Nat) (a_told : Nat) (a_pile : Nat) (a_open : Nat) (a_size : Nat) (a_capped : Nat) (a_connected : Nat) (a_bestCost : Nat) (a_bestCrosses : Nat) (a_bestPart : Nat) (a_part : Nat) (a_trees : Nat) (a_nodes : Nat) (a_out : Nat) (a_kept : Nat) (f_raised : Int32) (f_undos : Int32) (f_reached : Int32) (f_length : Int32) (f_begin : Int32) (f_sort : Int32) (f_sign : Int32) (f_value : Int32) (f_word : Int64) (f_wrongAt : Int32) (f_badAt : Int32) (f_bad : Int32) (f_read : Int32) (f_side : Int32) (f_piled : Int32) (f_opened : Int32) (f_joins : Int32) (f_had : Int32) (f_treeMany : Int32) (f_nodeMany : Int32) (f_moveNode : Int32) (f_movePart : Int32) (f_moveFirst : Int32) (f_moveThen : Int32) (f_moveOther : Int32) (f_outMany : Int32) (g_text : Nat → Int32) (g_told : Nat → Int32) (N : Nat) (res : Int32 × Int32 × Int32 × Int32 × Int32 × Int32 × Int64 × Int32 × Int32 × Int32 × Int32 × Int32 × (Nat → Int32)) (hf : R_line N f_reached f_length f_begin f_sort f_sign f_value f_word f_wrongAt f_badAt f_bad f_read f_side g_text g_told = some res) : Ci l classes y_R_line b_R_line 4 (some .boolean) (rmk 4) G.1 (tyL G) Y [.ref h0] [(h0, O_R f_raised a_all a_text a_saved a_undone f_undos f_reached f_length f_begin f_sort f_sign f_value f_word f_wrongAt f_badAt f_bad a_told f_read f_side a_pile f_piled a_open f_opened f_joins f_had a_size a_capped a_connected a_bestCost a_bestCrosses a_bestPart a_part a_trees f_treeMany a_nodes f_nodeMany f_moveNode f_movePart f_moveFirst f_moveThen f_moveOther a_out f_outMany a_kept), (a_text, aB G 2000 g_text), (a_told, aI G 316 g_told)] [(h0, O_R f_raised a_all a_text a_saved a_undone f_undos res.2.1 f_length res.2.2.1 res.2.2.2.1 res.2.2.2.2.1 res.2.2.2.2.2.1 res.2.2.2.2.2.2.1 res.2.2.2.2.2.2.2.1 res.2.2.2.2.2.2.2.2.1 res.2.2.2.2.2.2.2.2.2.1 a_told res.2.2.2.2.2.2.2.2.2.2.1 res.2.2.2.2.2.2.2.2.2.2.2.1 a_pile f_piled a_open f_opened f_joins f_had a_size a_capped a_connected a_bestCost a_bestCrosses a_bestPart a_part a_trees f_treeMany a_nodes f_nodeMany f_moveNode f_movePart f_moveFirst f_moveThen f_moveOther a_out f_outMany a_kept), (a_text, aB G 2000 g_text), (a_told, aI G 316 res.2.2.2.2.2.2.2.2.2.2.2.2)] res.1 := by
  refine entZ (by decide) (Nat.le_of_ble_eq_true rfl) ?_
  intro p e s m args below meth c ls A Q hx hb hml hown htl hK hsk wq hl hret
  obtain ⟨hP, hD, hS⟩ := wq
  have hl : lv_has ls 4 [(0, .ref h0)] := hl
  have hS : va_S A s.heap s.heap [] := hS
  obtain ⟨H, hH⟩ : ∃ H : Heap, H = s.heap := ⟨_, rfl⟩
  obtain ⟨locs, hlocs⟩ : ∃ z : List Loc, z = [] := ⟨_, rfl⟩
  rw [← hH] at hP
  replace hS : va_S A s.heap H locs := by rw [hH, hlocs]; exact hS
  suffices hgo : W p l e (rmk 4) s m args below meth c H locs 0 0 Q (F0 m 0 ls []) by rw [hH, hlocs] at hgo; exact hgo
  have hJ16 : ∀ (f_reached : Int32) (f_begin : Int32) (f_sort : Int32) (f_sign : Int32) (f_value : Int32) (f_word : Int64) (f_wrongAt : Int32) (f_badAt : Int32) (f_bad : Int32) (f_read : Int32) (f_side : Int32) (g_told : Nat → Int32) (z0 : Int64) (H : Heap) (locs : List Loc) (ls : Array Slot), PDS G.1 classes A s [(h0, O_R f_raised a_all a_text a_saved a_undone f_undos f_reached f_length f_begin f_sort f_sign f_value f_word f_wrongAt f_badAt f_bad a_told f_read f_side a_pile f_piled a_open f_opened f_joins f_had a_size a_capped a_connected a_bestCost a_bestCrosses a_bestPart a_part a_trees f_treeMany a_nodes f_nodeMany f_moveNode f_movePart f_moveFirst f_moveThen f_moveOther a_out f_outMany a_kept), (a_text, aB G 2000 g_text), (a_told, aI G 316 g_told)] H locs → lv_has ls 4 [(0, .ref h0)] → R_line_16 N f_reached f_length f_begin f_sort f_sign f_value f_word f_wrongAt f_badAt f_bad f_read f_side g_text g_told z0 = some res → W p l e (rmk 4) s m args below meth c H locs 0 0 Q (F0 m 16 ls [.long z0]) := by
    intro f_reached f_begin f_sort f_sign f_value f_word f_wrongAt f_badAt f_bad f_read f_side g_told z0 H locs ls wq hl hf
    obtain ⟨hP, hD, hS⟩ := wq
    refine lv_lstore_n (lv' := [(1, .long z0), (0, .ref h0)]) hx hb d_R_line_16 rfl hl (by decide) rfl (fun ls hl => ?_)
    refine lv_lload_n hx hb d_R_line_17 rfl (lv_at hl 0 rfl) ?_
    refine lv_ldc2 (v := (8243113858792255342 : Int64)) hx hb hown (htl _ k_1365) d_R_line_18 ?_
    refine lx_ne (tgt := 30) hx hb d_R_line_21 d_R_line_22 (by decide) (fun c2 => ?_) (fun c2 => ?_)
    · have hf := di_f c2 hf
      refine lv_lload_n hx hb d_R_line_30 rfl (lv_at hl 0 rfl) ?_
      refine lv_ldc2 (v := (1701078885 : Int64)) hx hb hown (htl _ k_1383) d_R_line_31 ?_
      refine lx_ne (tgt := 43) hx hb d_R_line_34 d_R_line_35 (by decide) (fun c3 => ?_) (fun c3 => ?_)
      · have hf := di_f c3 hf
        refine lv_lload_n hx hb d_R_line_43 rfl (lv_at hl 0 rfl) ?_
        refine lv_ldc2 (v := (465625246068 : Int64)) hx hb hown (htl _ k_1398) d_R_line_44 ?_
        refine lx_eq (tgt := 56) hx hb d_R_line_47 d_R_line_48 (by decide) (fun c4 => ?_) (fun c4 => ?_)
        · have hf := di_t c4 hf
          refine lv_aload_n hx hb d_R_line_56 rfl (lv_at hl 1 rfl) ?_
          obtain ⟨t5, hv6, hf⟩ := db_e hf
          refine call_v (isC := [0, 1]) (run_V (As := []) (rest := []) (ci := 12) (q0 := 0) hx hb hml hown htl (c_R_token l G Y  h0 a_all a_text a_saved a_undone a_told a_pile a_open a_size a_capped a_connected a_bestCost a_bestCrosses a_bestPart a_part a_trees a_nodes a_out a_kept f_raised f_undos f_reached f_length f_begin f_sort f_sign f_value f_word f_wrongAt f_badAt f_bad f_read f_side f_piled f_opened f_joins f_had f_treeMany f_nodeMany f_moveNode f_movePart f_moveFirst f_moveThen f_moveOther f_outMany g_text N t5 hv6) mv_R_token k_1346 (hRk (by decide) (by decide)) hK hsk hS hP hD (isC := [0, 1]) rfl (by decide) rfl rfl rfl hl.1 rfl (lv_room (Nat.le_of_ble_eq_true rfl)) d_R_line_57) hP hD hS rfl rfl (fun H locs hP hD hS => ?_)
          have hP : va_P G.1 classes [(h0, O_R f_raised a_all a_text a_saved a_undone f_undos t5.1 f_length t5.2.1 t5.2.2.1 t5.2.2.2.1 t5.2.2.2.2.1 t5.2.2.2.2.2 f_wrongAt f_badAt f_bad a_told f_read f_side a_pile f_piled a_open f_opened f_joins f_had a_size a_capped a_connected a_bestCost a_bestCrosses a_bestPart a_part a_trees f_treeMany a_nodes f_nodeMany f_moveNode f_movePart f_moveFirst f_moveThen f_moveOther a_out f_outMany a_kept), (a_text, aB G 2000 g_text), (a_told, aI G 316 g_told)] H := hP
          have hD : va_D A [(h0, O_R f_raised a_all a_text a_saved a_undone f_undos t5.1 f_length t5.2.1 t5.2.2.1 t5.2.2.2.1 t5.2.2.2.2.1 t5.2.2.2.2.2 f_wrongAt f_badAt f_bad a_told f_read f_side a_pile f_piled a_open f_opened f_joins f_had a_size a_capped a_connected a_bestCost a_bestCrosses a_bestPart a_part a_trees f_treeMany a_nodes f_nodeMany f_moveNode f_movePart f_moveFirst f_moveThen f_moveOther a_out f_outMany a_kept), (a_text, aB G 2000 g_text), (a_told, aI G 316 g_told)] := hD
          refine lv_aload_n hx hb d_R_line_60 rfl (lv_at hl 1 rfl) ?_
          refine lv_iconst (v := (0 : Int32)) hx hb d_R_line_61 (by decide) ?_
          refine lv_sipush (v := (5000 : Int32)) hx hb d_R_line_62 (by decide) ?_
          obtain ⟨t7, hv8, hf⟩ := db_e hf
          refine call_i (isC := [0, 1]) (run_V (As := [.int (0 : Int32), .int (5000 : Int32)]) (rest := []) (ci := 12) (q0 := 0) hx hb hml hown htl (c_R_takes l G Y  h0 a_all a_text a_saved a_undone a_told a_pile a_open a_size a_capped a_connected a_bestCost a_bestCrosses a_bestPart a_part a_trees a_nodes a_out a_kept f_raised f_undos t5.1 f_length t5.2.1 t5.2.2.1 t5.2.2.2.1 t5.2.2.2.2.1 t5.2.2.2.2.2 f_wrongAt f_badAt f_bad f_read f_side f_piled f_opened f_joins f_had f_treeMany f_nodeMany f_moveNode f_movePart f_moveFirst f_moveThen f_moveOther f_outMany g_text (0 : Int32) (5000 : Int32) N t7 hv8) mv_R_takes k_1375 (hRk (by decide) (by decide)) hK hsk hS hP hD (isC := [0, 1]) rfl (by decide) rfl rfl rfl hl.1 rfl (lv_room (Nat.le_of_ble_eq_true rfl)) d_R_line_65) hP hD hS rfl rfl (fun H locs hP hD hS => ?_)
          have hP : va_P G.1 classes [(h0, O_R f_raised a_all a_text a_saved a_undone f_undos t7.2.1 f_length t7.2.2.1 t7.2.2.2.1 t7.2.2.2.2.1 t7.2.2.2.2.2.1 t7.2.2.2.2.2.2.1 t7.2.2.2.2.2.2.2.1 t7.2.2.2.2.2.2.2.2.1 t7.2.2.2.2.2.2.2.2.2.1 a_told t7.2.2.2.2.2.2.2.2.2.2 f_side a_pile f_piled a_open f_opened f_joins f_had a_size a_capped a_connected a_bestCost a_bestCrosses a_bestPart a_part a_trees f_treeMany a_nodes f_nodeMany f_moveNode f_movePart f_moveFirst f_moveThen f_moveOther a_out f_outMany a_kept), (a_text, aB G 2000 g_text), (a_told, aI G 316 g_told)] H := hP
          have hD : va_D A [(h0, O_R f_raised a_all a_text a_saved a_undone f_undos t7.2.1 f_length t7.2.2.1 t7.2.2.2.1 t7.2.2.2.2.1 t7.2.2.2.2.2.1 t7.2.2.2.2.2.2.1 t7.2.2.2.2.2.2.2.1 t7.2.2.2.2.2.2.2.2.1 t7.2.2.2.2.2.2.2.2.2.1 a_told t7.2.2.2.2.2.2.2.2.2.2 f_side a_pile f_piled a_open f_opened f_joins f_had a_size a_capped a_connected a_bestCost a_bestCrosses a_bestPart a_part a_trees f_treeMany a_nodes f_nodeMany f_moveNode f_movePart f_moveFirst f_moveThen f_moveOther a_out f_outMany a_kept), (a_text, aB G 2000 g_text), (a_told, aI G 316 g_told)] := hD
          refine lv_istore_n (lv' := [(3, .int t7.1), (1, .long z0), (0, .ref h0)]) hx hb d_R_line_68 rfl hl (by decide) rfl (fun ls hl => ?_)
          refine lv_aload_n hx hb d_R_line_69 rfl (lv_at hl 2 rfl) ?_
          refine va_get (D := G.1) (ci := 12) (v := .ref a_told) (C := n_R) (T := T_R) (N := 44) hx hb htl iw_R hown hK hP 0 rfl rfl 16 (by decide) (htl _ k_1212) (fun _ h9 => h9) rfl d_R_line_70 ?_
          refine lv_bipush (v := (58 : Int32)) hx hb d_R_line_73 (by decide) ?_
          refine lv_aload_n hx hb d_R_line_75 rfl (lv_at hl 2 rfl) ?_
          refine va_get (D := G.1) (ci := 12) (v := .int t7.2.2.2.2.2.2.2.2.2.2) (C := n_R) (T := T_R) (N := 44) hx hb htl iw_R hown hK hP 0 rfl rfl 17 (by decide) (htl _ k_1213) (fun _ h9 => h9) rfl d_R_line_76 ?_
          refine nx_iast hx hb hK hP hD hS 2 1 rfl rfl (vp_lit (by decide)) d_R_line_79 (fun v9 ev9 H locs hP hD hS => ?_)
          have hf := dn_e ev9 hf
          have hP : va_P G.1 classes [(h0, O_R f_raised a_all a_text a_saved a_undone f_undos t7.2.1 f_length t7.2.2.1 t7.2.2.2.1 t7.2.2.2.2.1 t7.2.2.2.2.2.1 t7.2.2.2.2.2.2.1 t7.2.2.2.2.2.2.2.1 t7.2.2.2.2.2.2.2.2.1 t7.2.2.2.2.2.2.2.2.2.1 a_told t7.2.2.2.2.2.2.2.2.2.2 f_side a_pile f_piled a_open f_opened f_joins f_had a_size a_capped a_connected a_bestCost a_bestCrosses a_bestPart a_part a_trees f_treeMany a_nodes f_nodeMany f_moveNode f_movePart f_moveFirst f_moveThen f_moveOther a_out f_outMany a_kept), (a_text, aB G 2000 g_text), (a_told, aI G 316 v9)] H := hP
          have hD : va_D A [(h0, O_R f_raised a_all a_text a_saved a_undone f_undos t7.2.1 f_length t7.2.2.1 t7.2.2.2.1 t7.2.2.2.2.1 t7.2.2.2.2.2.1 t7.2.2.2.2.2.2.1 t7.2.2.2.2.2.2.2.1 t7.2.2.2.2.2.2.2.2.1 t7.2.2.2.2.2.2.2.2.2.1 a_told t7.2.2.2.2.2.2.2.2.2.2 f_side a_pile f_piled a_open f_opened f_joins f_had a_size a_capped a_connected a_bestCost a_bestCrosses a_bestPart a_part a_trees f_treeMany a_nodes f_nodeMany f_moveNode f_movePart f_moveFirst f_moveThen f_moveOther a_out f_outMany a_kept), (a_text, aB G 2000 g_text), (a_told, aI G 316 v9)] := hD
          refine lv_iload_n hx hb d_R_line_80 rfl (lv_at hl 0 rfl) ?_
          obtain ⟨c10, hf⟩ := dk_e hf
          cases hf
          exact hret 81 ls H locs c10 hP hS d_R_line_81
        · have hf := di_f c4 hf
          refine lv_aload_n hx hb d_R_line_51 rfl (lv_at hl 1 rfl) ?_
          obtain ⟨t11, hv12, hf⟩ := db_e hf
          refine call_i (isC := [0]) (run_V (As := []) (rest := []) (ci := 12) (q0 := 0) hx hb hml hown htl (c_R_fails l G Y  h0 a_all a_text a_saved a_undone a_told a_pile a_open a_size a_capped a_connected a_bestCost a_bestCrosses a_bestPart a_part a_trees a_nodes a_out a_kept f_raised f_undos f_reached f_length f_begin f_sort f_sign f_value f_word f_wrongAt f_badAt f_bad f_read f_side f_piled f_opened f_joins f_had f_treeMany f_nodeMany f_moveNode f_movePart f_moveFirst f_moveThen f_moveOther f_outMany t11 hv12) mv_R_fails k_1379 (hRk (by decide) (by decide)) hK hsk hS hP hD (isC := [0]) rfl (by decide) rfl rfl rfl hl.1 rfl (lv_room (Nat.le_of_ble_eq_true rfl)) d_R_line_52) hP hD hS rfl rfl (fun H locs hP hD hS => ?_)
          have hP : va_P G.1 classes [(h0, O_R f_raised a_all a_text a_saved a_undone f_undos f_reached f_length f_begin f_sort f_sign f_value f_word t11.2 f_badAt f_bad a_told f_read f_side a_pile f_piled a_open f_opened f_joins f_had a_size a_capped a_connected a_bestCost a_bestCrosses a_bestPart a_part a_trees f_treeMany a_nodes f_nodeMany f_moveNode f_movePart f_moveFirst f_moveThen f_moveOther a_out f_outMany a_kept), (a_text, aB G 2000 g_text), (a_told, aI G 316 g_told)] H := hP
          have hD : va_D A [(h0, O_R f_raised a_all a_text a_saved a_undone f_undos f_reached f_length f_begin f_sort f_sign f_value f_word t11.2 f_badAt f_bad a_told f_read f_side a_pile f_piled a_open f_opened f_joins f_had a_size a_capped a_connected a_bestCost a_bestCrosses a_bestPart a_part a_trees f_treeMany a_nodes f_nodeMany f_moveNode f_movePart f_moveFirst f_moveThen f_moveOther a_out f_outMany a_kept), (a_text, aB G 2000 g_text), (a_told, aI G 316 g_told)] := hD
          obtain ⟨c13, hf⟩ := dk_e hf
          cases hf
          exact hret 55 ls H locs c13 hP hS d_R_line_55
      · have hf := di_t c3 hf
        refine lv_aload_n hx hb d_R_line_38 rfl (lv_at hl 1 rfl) ?_
        obtain ⟨t14, hv15, hf⟩ := db_e hf
        refine call_i (isC := [0, 1, 2]) (run_V (As := []) (rest := []) (ci := 12) (q0 := 0) hx hb hml hown htl (c_R_edgeLine l G Y  h0 a_all a_text a_saved a_undone a_told a_pile a_open a_size a_capped a_connected a_bestCost a_bestCrosses a_bestPart a_part a_trees a_nodes a_out a_kept f_raised f_undos f_reached f_length f_begin f_sort f_sign f_value f_word f_wrongAt f_badAt f_bad f_read f_side f_piled f_opened f_joins f_had f_treeMany f_nodeMany f_moveNode f_movePart f_moveFirst f_moveThen f_moveOther f_outMany g_text g_told N t14 hv15) mv_R_edgeLine k_1384 (hRk (by decide) (by decide)) hK hsk hS hP hD (isC := [0, 1, 2]) rfl (by decide) rfl rfl rfl hl.1 rfl (lv_room (Nat.le_of_ble_eq_true rfl)) d_R_line_39) hP hD hS rfl rfl (fun H locs hP hD hS => ?_)
        have hP : va_P G.1 classes [(h0, O_R f_raised a_all a_text a_saved a_undone f_undos t14.2.1 f_length t14.2.2.1 t14.2.2.2.1 t14.2.2.2.2.1 t14.2.2.2.2.2.1 t14.2.2.2.2.2.2.1 t14.2.2.2.2.2.2.2.1 t14.2.2.2.2.2.2.2.2.1 t14.2.2.2.2.2.2.2.2.2.1 a_told t14.2.2.2.2.2.2.2.2.2.2.1 t14.2.2.2.2.2.2.2.2.2.2.2.1 a_pile f_piled a_open f_opened f_joins f_had a_size a_capped a_connected a_bestCost a_bestCrosses a_bestPart a_part a_trees f_treeMany a_nodes f_nodeMany f_moveNode f_movePart f_moveFirst f_moveThen f_moveOther a_out f_outMany a_kept), (a_text, aB G 2000 g_text), (a_told, aI G 316 t14.2.2.2.2.2.2.2.2.2.2.2.2)] H := hP
        have hD : va_D A [(h0, O_R f_raised a_all a_text a_saved a_undone f_undos t14.2.1 f_length t14.2.2.1 t14.2.2.2.1 t14.2.2.2.2.1 t14.2.2.2.2.2.1 t14.2.2.2.2.2.2.1 t14.2.2.2.2.2.2.2.1 t14.2.2.2.2.2.2.2.2.1 t14.2.2.2.2.2.2.2.2.2.1 a_told t14.2.2.2.2.2.2.2.2.2.2.1 t14.2.2.2.2.2.2.2.2.2.2.2.1 a_pile f_piled a_open f_opened f_joins f_had a_size a_capped a_connected a_bestCost a_bestCrosses a_bestPart a_part a_trees f_treeMany a_nodes f_nodeMany f_moveNode f_movePart f_moveFirst f_moveThen f_moveOther a_out f_outMany a_kept), (a_text, aB G 2000 g_text), (a_told, aI G 316 t14.2.2.2.2.2.2.2.2.2.2.2.2)] := hD
        obtain ⟨c16, hf⟩ := dk_e hf
        cases hf
        exact hret 42 ls H locs c16 hP hS d_R_line_42
    · have hf := di_t c2 hf
      refine lv_aload_n hx hb d_R_line_25 rfl (lv_at hl 1 rfl) ?_
      obtain ⟨t17, hv18, hf⟩ := db_e hf
      refine call_i (isC := [0, 1, 2]) (run_V (As := []) (rest := []) (ci := 12) (q0 := 0) hx hb hml hown htl (c_R_relationLine l G Y  h0 a_all a_text a_saved a_undone a_told a_pile a_open a_size a_capped a_connected a_bestCost a_bestCrosses a_bestPart a_part a_trees a_nodes a_out a_kept f_raised f_undos f_reached f_length f_begin f_sort f_sign f_value f_word f_wrongAt f_badAt f_bad f_read f_side f_piled f_opened f_joins f_had f_treeMany f_nodeMany f_moveNode f_movePart f_moveFirst f_moveThen f_moveOther f_outMany g_text g_told N t17 hv18) mv_R_relationLine k_1366 (hRk (by decide) (by decide)) hK hsk hS hP hD (isC := [0, 1, 2]) rfl (by decide) rfl rfl rfl hl.1 rfl (lv_room (Nat.le_of_ble_eq_true rfl)) d_R_line_26) hP hD hS rfl rfl (fun H locs hP hD hS => ?_)
      have hP : va_P G.1 classes [(h0, O_R f_raised a_all a_text a_saved a_undone f_undos t17.2.1 f_length t17.2.2.1 t17.2.2.2.1 t17.2.2.2.2.1 t17.2.2.2.2.2.1 t17.2.2.2.2.2.2.1 t17.2.2.2.2.2.2.2.1 t17.2.2.2.2.2.2.2.2.1 t17.2.2.2.2.2.2.2.2.2.1 a_told t17.2.2.2.2.2.2.2.2.2.2.1 f_side a_pile f_piled a_open f_opened f_joins f_had a_size a_capped a_connected a_bestCost a_bestCrosses a_bestPart a_part a_trees f_treeMany a_nodes f_nodeMany f_moveNode f_movePart f_moveFirst f_moveThen f_moveOther a_out f_outMany a_kept), (a_text, aB G 2000 g_text), (a_told, aI G 316 t17.2.2.2.2.2.2.2.2.2.2.2)] H := hP
      have hD : va_D A [(h0, O_R f_raised a_all a_text a_saved a_undone f_undos t17.2.1 f_length t17.2.2.1 t17.2.2.2.1 t17.2.2.2.2.1 t17.2.2.2.2.2.1 t17.2.2.2.2.2.2.1 t17.2.2.2.2.2.2.2.1 t17.2.2.2.2.2.2.2.2.1 t17.2.2.2.2.2.2.2.2.2.1 a_told t17.2.2.2.2.2.2.2.2.2.2.1 f_side a_pile f_piled a_open f_opened f_joins f_had a_size a_capped a_connected a_bestCost a_bestCrosses a_bestPart a_part a_trees f_treeMany a_nodes f_nodeMany f_moveNode f_movePart f_moveFirst f_moveThen f_moveOther a_out f_outMany a_kept), (a_text, aB G 2000 g_text), (a_told, aI G 316 t17.2.2.2.2.2.2.2.2.2.2.2)] := hD
      obtain ⟨c19, hf⟩ := dk_e hf
      cases hf
      exact hret 29 ls H locs c19 hP hS d_R_line_29
  refine lv_aload_n hx hb d_R_line_0 rfl (lv_at hl 0 rfl) ?_
  refine va_get (D := G.1) (ci := 12) (v := .int f_sort) (C := n_R) (T := T_R) (N := 44) hx hb htl iw_R hown hK hP 0 rfl rfl 9 (by decide) (htl _ k_1205) (fun _ h9 => h9) rfl d_R_line_1 ?_
  refine lv_iconst (v := (2 : Int32)) hx hb d_R_line_4 (by decide) ?_
  refine lv_icmp_ne (tgt := 15) hx hb d_R_line_5 (by decide) (fun c1 => ?_) (fun c1 => ?_)
  · have hf := di_f c1 hf
    refine lv_lconst (v := (0 : Int64)) hx hb d_R_line_15 (by decide) ?_
    exact hJ16 f_reached f_begin f_sort f_sign f_value f_word f_wrongAt f_badAt f_bad f_read f_side g_told (0 : Int64) H locs ls ⟨hP, hD, hS⟩ (lv_sub hl [0] rfl) hf
  · have hf := di_t c1 hf
    refine lv_aload_n hx hb d_R_line_8 rfl (lv_at hl 0 rfl) ?_
    refine va_get (D := G.1) (ci := 12) (v := .long f_word) (C := n_R) (T := T_R) (N := 44) hx hb htl iw_R hown hK hP 0 rfl rfl 12 (by decide) (htl _ k_1208) (fun _ h9 => h9) rfl d_R_line_9 ?_
    refine lv_goto (tgt := 16) hx hb d_R_line_12 (by decide) ?_
    exact hJ16 f_reached f_begin f_sort f_sign f_value f_word f_wrongAt f_badAt f_bad f_read f_side g_told f_word H locs ls ⟨hP, hD, hS⟩ (lv_sub hl [0] rfl) hf
set_option maxHeartbeats 4000000 in
set_option maxRecDepth 100000 in
theorem c_R_query (l : Launch) (G : va_G × (Nat → ClassId)) (Y : (Nat → Nat) × (Nat → Nat)) (h0 : Nat) (a_all : Nat) (a_text : Nat) (a_saved : Nat) (a_undone : Nat) (a_told : Nat) (a_pile : Nat) (a_open : Nat) (a_size : Nat) (a_capped : Nat) (a_connected : Nat) (a_bestCost : Nat) (a_bestCrosses : Nat) (a_bestPart : Nat) (a_part : Nat) (a_trees : Nat) (a_nodes : Nat) (a_out : Nat) (a_kept : Nat) (f_raised : Int32) (f_undos : Int32) (f_reached : Int32) (f_length : Int32) (f_begin : Int32) (f_sort : Int32) (f_sign : Int32) (f_value : Int32) (f_word : Int64) (f_wrongAt : Int32) (f_badAt : Int32) (f_bad : Int32) (f_read : Int32) (f_side : Int32) (f_piled : Int32) (f_opened : Int32) (f_joins : Int32) (f_had : Int32) (f_treeMany : Int32) (f_nodeMany : Int32) (f_moveNode : Int32) (f_movePart : Int32) (f_moveFirst : Int32) (f_moveThen : Int32) (f_moveOther : Int32) (f_outMany : Int32) (g_all : Nat → Int32) (g_text : Nat → Int32) (g_told : Nat → Int32) (N : Nat) (res : Int32 × Int32 × Int32 × Int32 × Int32 × Int32 × Int32 × Int32 × Int32 × Int64 × Int32 × Int32 × Int32 × Int32 × Int32 × (Nat → Int32) × (Nat → Int32)) (hf : R_query N f_raised f_undos f_reached f_length f_begin f_sort f_sign f_value f_word f_wrongAt f_badAt f_bad f_read f_side g_all g_text g_told = some res) : Ci l classes y_R_query b_R_query 3 (some .int) (rmk 5) G.1 (tyL G) Y [.ref h0] [(h0, O_R f_raised a_all a_text a_saved a_undone f_undos f_reached f_length f_begin f_sort f_sign f_value f_word f_wrongAt f_badAt f_bad a_told f_read f_side a_pile f_piled a_open f_opened f_joins f_had a_size a_capped a_connected a_bestCost a_bestCrosses a_bestPart a_part a_trees f_treeMany a_nodes f_nodeMany f_moveNode f_movePart f_moveFirst f_moveThen f_moveOther a_out f_outMany a_kept), (a_all, aI G 1276 g_all), (a_text, aB G 2000 g_text), (a_told, aI G 316 g_told)] [(h0, O_R res.2.1 a_all a_text a_saved a_undone res.2.2.1 res.2.2.2.1 res.2.2.2.2.1 res.2.2.2.2.2.1 res.2.2.2.2.2.2.1 res.2.2.2.2.2.2.2.1 res.2.2.2.2.2.2.2.2.1 res.2.2.2.2.2.2.2.2.2.1 res.2.2.2.2.2.2.2.2.2.2.1 res.2.2.2.2.2.2.2.2.2.2.2.1 res.2.2.2.2.2.2.2.2.2.2.2.2.1 a_told res.2.2.2.2.2.2.2.2.2.2.2.2.2.1 res.2.2.2.2.2.2.2.2.2.2.2.2.2.2.1 a_pile f_piled a_open f_opened f_joins f_had a_size a_capped a_connected a_bestCost a_bestCrosses a_bestPart a_part a_trees f_treeMany a_nodes f_nodeMany f_moveNode f_movePart f_moveFirst f_moveThen f_moveOther a_out f_outMany a_kept), (a_all, aI G 1276 res.2.2.2.2.2.2.2.2.2.2.2.2.2.2.2.1), (a_text, aB G 2000 g_text), (a_told, aI G 316 res.2.2.2.2.2.2.2.2.2.2.2.2.2.2.2.2)] res.1 := by
  refine entI (by decide) (Nat.le_of_ble_eq_true rfl) ?_
  intro p e s m args below meth c ls A Q hx hb hml hown htl hK hsk wq hl hret
  obtain ⟨hP, hD, hS⟩ := wq
  have hl : lv_has ls 3 [(0, .ref h0)] := hl
  have hS : va_S A s.heap s.heap [] := hS
  obtain ⟨H, hH⟩ : ∃ H : Heap, H = s.heap := ⟨_, rfl⟩
  obtain ⟨locs, hlocs⟩ : ∃ z : List Loc, z = [] := ⟨_, rfl⟩
  rw [← hH] at hP
  replace hS : va_S A s.heap H locs := by rw [hH, hlocs]; exact hS
  suffices hgo : W p l e (rmk 5) s m args below meth c H locs 0 0 Q (F0 m 0 ls []) by rw [hH, hlocs] at hgo; exact hgo
  have hJ116 : ∀ (f_raised : Int32) (f_undos : Int32) (f_reached : Int32) (f_length : Int32) (f_begin : Int32) (f_sort : Int32) (f_sign : Int32) (f_value : Int32) (f_word : Int64) (f_wrongAt : Int32) (f_badAt : Int32) (f_bad : Int32) (f_read : Int32) (f_side : Int32) (g_all : Nat → Int32) (g_told : Nat → Int32) (H : Heap) (locs : List Loc) (ls : Array Slot), PDS G.1 classes A s [(h0, O_R f_raised a_all a_text a_saved a_undone f_undos f_reached f_length f_begin f_sort f_sign f_value f_word f_wrongAt f_badAt f_bad a_told f_read f_side a_pile f_piled a_open f_opened f_joins f_had a_size a_capped a_connected a_bestCost a_bestCrosses a_bestPart a_part a_trees f_treeMany a_nodes f_nodeMany f_moveNode f_movePart f_moveFirst f_moveThen f_moveOther a_out f_outMany a_kept), (a_all, aI G 1276 g_all), (a_text, aB G 2000 g_text), (a_told, aI G 316 g_told)] H locs → lv_has ls 3 [(0, .ref h0)] → R_query_116 N f_raised f_undos f_reached f_length f_begin f_sort f_sign f_value f_word f_wrongAt f_badAt f_bad f_read f_side g_all g_text g_told = some res → W p l e (rmk 5) s m args below meth c H locs 0 0 Q (F0 m 116 ls []) := by
    intro f_raised f_undos f_reached f_length f_begin f_sort f_sign f_value f_word f_wrongAt f_badAt f_bad f_read f_side g_all g_told H locs ls wq hl hf
    obtain ⟨hP, hD, hS⟩ := wq
    refine lv_aload_n hx hb d_R_query_116 rfl (lv_at hl 0 rfl) ?_
    refine lv_iconst (v := (0 : Int32)) hx hb d_R_query_117 (by decide) ?_
    refine va_put (D := G.1) (ci := 12) (v := .int (0 : Int32)) (ty := .int) (C := n_R) (T := T_R) (N := 44) hx hb htl iw_R ty_R ty_R_ok nm_R hown hK hP hD hS 0 rfl rfl 5 (by decide) (htl _ k_1201) (fun _ h9 => h9) rfl (by decide +kernel) rfl rfl (Nat.le_of_ble_eq_true rfl) d_R_query_118 (fun H locs hP hD hS => ?_)
    have hP : va_P G.1 classes [(h0, O_R f_raised a_all a_text a_saved a_undone (0 : Int32) f_reached f_length f_begin f_sort f_sign f_value f_word f_wrongAt f_badAt f_bad a_told f_read f_side a_pile f_piled a_open f_opened f_joins f_had a_size a_capped a_connected a_bestCost a_bestCrosses a_bestPart a_part a_trees f_treeMany a_nodes f_nodeMany f_moveNode f_movePart f_moveFirst f_moveThen f_moveOther a_out f_outMany a_kept), (a_all, aI G 1276 g_all), (a_text, aB G 2000 g_text), (a_told, aI G 316 g_told)] H := hP
    have hD : va_D A [(h0, O_R f_raised a_all a_text a_saved a_undone (0 : Int32) f_reached f_length f_begin f_sort f_sign f_value f_word f_wrongAt f_badAt f_bad a_told f_read f_side a_pile f_piled a_open f_opened f_joins f_had a_size a_capped a_connected a_bestCost a_bestCrosses a_bestPart a_part a_trees f_treeMany a_nodes f_nodeMany f_moveNode f_movePart f_moveFirst f_moveThen f_moveOther a_out f_outMany a_kept), (a_all, aI G 1276 g_all), (a_text, aB G 2000 g_text), (a_told, aI G 316 g_told)] := hD
    refine lv_aload_n hx hb d_R_query_121 rfl (lv_at hl 0 rfl) ?_
    refine va_get (D := G.1) (ci := 12) (v := .ref a_all) (C := n_R) (T := T_R) (N := 44) hx hb htl iw_R hown hK hP 0 rfl rfl 1 (by decide) (htl _ k_1197) (fun _ h9 => h9) rfl d_R_query_122 ?_
    refine lv_iconst (v := (0 : Int32)) hx hb d_R_query_125 (by decide) ?_
    refine va_iald hx hb hK hP 1 1 rfl rfl (vp_lit (by decide)) d_R_query_126 ?_
    cases hf
    exact hret 127 ls H locs hP hS d_R_query_127
  have hJ91 : ∀ (f_raised : Int32) (f_undos : Int32) (f_reached : Int32) (f_length : Int32) (f_begin : Int32) (f_sort : Int32) (f_sign : Int32) (f_value : Int32) (f_word : Int64) (f_wrongAt : Int32) (f_badAt : Int32) (f_bad : Int32) (f_read : Int32) (f_side : Int32) (g_all : Nat → Int32) (g_told : Nat → Int32) (x2 : Int32) (H : Heap) (locs : List Loc) (ls : Array Slot), PDS G.1 classes A s [(h0, O_R f_raised a_all a_text a_saved a_undone f_undos f_reached f_length f_begin f_sort f_sign f_value f_word f_wrongAt f_badAt f_bad a_told f_read f_side a_pile f_piled a_open f_opened f_joins f_had a_size a_capped a_connected a_bestCost a_bestCrosses a_bestPart a_part a_trees f_treeMany a_nodes f_nodeMany f_moveNode f_movePart f_moveFirst f_moveThen f_moveOther a_out f_outMany a_kept), (a_all, aI G 1276 g_all), (a_text, aB G 2000 g_text), (a_told, aI G 316 g_told)] H locs → lv_has ls 3 [(0, .ref h0), (2, .int x2)] → R_query_91 N f_raised f_undos f_reached f_length f_begin f_sort f_sign f_value f_word f_wrongAt f_badAt f_bad f_read f_side g_all g_text g_told x2 = some res → W p l e (rmk 5) s m args below meth c H locs 0 0 Q (F0 m 91 ls []) := by
    intro f_raised f_undos f_reached f_length f_begin f_sort f_sign f_value f_word f_wrongAt f_badAt f_bad f_read f_side g_all g_told x2 H locs ls wq hl hf
    obtain ⟨hP, hD, hS⟩ := wq
    obtain ⟨y91, hy91, hfo91⟩ := db_e hf
    have hL91 : ∀ (n : Nat) (g_all : Nat → Int32) (x2 : Int32) (H : Heap) (locs : List Loc) (ls : Array Slot), lp (fun x => R_query_b91 N f_raised f_undos f_reached f_length f_begin f_sort f_sign f_value f_word f_wrongAt f_badAt f_bad f_read f_side x.1 g_text g_told x.2) n (g_all, x2) = some y91 → PDS G.1 classes A s [(h0, O_R f_raised a_all a_text a_saved a_undone f_undos f_reached f_length f_begin f_sort f_sign f_value f_word f_wrongAt f_badAt f_bad a_told f_read f_side a_pile f_piled a_open f_opened f_joins f_had a_size a_capped a_connected a_bestCost a_bestCrosses a_bestPart a_part a_trees f_treeMany a_nodes f_nodeMany f_moveNode f_movePart f_moveFirst f_moveThen f_moveOther a_out f_outMany a_kept), (a_all, aI G 1276 g_all), (a_text, aB G 2000 g_text), (a_told, aI G 316 g_told)] H locs → lv_has ls 3 [(0, .ref h0), (2, .int x2)] → W p l e (rmk 5) s m args below meth c H locs 0 0 Q (F0 m 91 ls []) := by
      intro n
      induction n with
      | zero =>
        intro g_all x2 H locs ls hf
        exact lp_0 hf
      | succ n ih91 =>
        intro g_all x2 H locs ls hf wq hl
        obtain ⟨hP, hD, hS⟩ := wq
        obtain ⟨r91, hf, hk91⟩ := lp_s hf
        have hf : R_query_b91 N f_raised f_undos f_reached f_length f_begin f_sort f_sign f_value f_word f_wrongAt f_badAt f_bad f_read f_side g_all g_text g_told x2 = some r91 := hf
        refine lv_iload_n hx hb d_R_query_91 rfl (lv_at hl 1 rfl) ?_
        refine lv_sipush (v := (316 : Int32)) hx hb d_R_query_92 (by decide) ?_
        refine lv_icmp_ge (tgt := 116) hx hb d_R_query_95 (by decide) (fun c19 => ?_) (fun c19 => ?_)
        · have hf := di_t c19 hf
          have hq91 := lpk_x hf hk91
          have hf := ex_y (f := fun y => R_query_a91 N f_raised f_undos f_reached f_length f_begin f_sort f_sign f_value f_word f_wrongAt f_badAt f_bad f_read f_side g_text g_told y) hq91 hfo91
          have hf : R_query_116 N f_raised f_undos f_reached f_length f_begin f_sort f_sign f_value f_word f_wrongAt f_badAt f_bad f_read f_side g_all g_text g_told = some res := hf
          exact hJ116 f_raised f_undos f_reached f_length f_begin f_sort f_sign f_value f_word f_wrongAt f_badAt f_bad f_read f_side g_all g_told H locs ls ⟨hP, hD, hS⟩ (lv_sub hl [0] rfl) hf
        · have hf := di_f c19 hf
          refine lv_aload_n hx hb d_R_query_98 rfl (lv_at hl 0 rfl) ?_
          refine va_get (D := G.1) (ci := 12) (v := .ref a_all) (C := n_R) (T := T_R) (N := 44) hx hb htl iw_R hown hK hP 0 rfl rfl 1 (by decide) (htl _ k_1197) (fun _ h9 => h9) rfl d_R_query_99 ?_
          refine lv_iload_n hx hb d_R_query_102 rfl (lv_at hl 1 rfl) ?_
          refine lv_aload_n hx hb d_R_query_103 rfl (lv_at hl 0 rfl) ?_
          refine va_get (D := G.1) (ci := 12) (v := .ref a_told) (C := n_R) (T := T_R) (N := 44) hx hb htl iw_R hown hK hP 0 rfl rfl 16 (by decide) (htl _ k_1212) (fun _ h9 => h9) rfl d_R_query_104 ?_
          refine lv_iload_n hx hb d_R_query_107 rfl (lv_at hl 1 rfl) ?_
          obtain ⟨c20, hf⟩ := dk_e hf
          refine va_iald hx hb hK hP 3 1 rfl rfl c20 d_R_query_108 ?_
          obtain ⟨c21, hf⟩ := dk_e hf
          refine nx_iast hx hb hK hP hD hS 1 1 rfl rfl c21 d_R_query_109 (fun v22 ev22 H locs hP hD hS => ?_)
          have hf := dn_e ev22 hf
          have hP : va_P G.1 classes [(h0, O_R f_raised a_all a_text a_saved a_undone f_undos f_reached f_length f_begin f_sort f_sign f_value f_word f_wrongAt f_badAt f_bad a_told f_read f_side a_pile f_piled a_open f_opened f_joins f_had a_size a_capped a_connected a_bestCost a_bestCrosses a_bestPart a_part a_trees f_treeMany a_nodes f_nodeMany f_moveNode f_movePart f_moveFirst f_moveThen f_moveOther a_out f_outMany a_kept), (a_all, aI G 1276 v22), (a_text, aB G 2000 g_text), (a_told, aI G 316 g_told)] H := hP
          have hD : va_D A [(h0, O_R f_raised a_all a_text a_saved a_undone f_undos f_reached f_length f_begin f_sort f_sign f_value f_word f_wrongAt f_badAt f_bad a_told f_read f_side a_pile f_piled a_open f_opened f_joins f_had a_size a_capped a_connected a_bestCost a_bestCrosses a_bestPart a_part a_trees f_treeMany a_nodes f_nodeMany f_moveNode f_movePart f_moveFirst f_moveThen f_moveOther a_out f_outMany a_kept), (a_all, aI G 1276 v22), (a_text, aB G 2000 g_text), (a_told, aI G 316 g_told)] := hD
          obtain ⟨v23, ev23⟩ : ∃ z : Int32, z = x2 + (1 : Int32) := ⟨_, rfl⟩
          have hf := dn_e ev23 hf
          refine lv_iinc (v := v23) (lv' := [(2, .int v23), (0, .ref h0)]) hx hb d_R_query_110 hl (k := 1) rfl (by rw [ev23]; rfl) (by decide) rfl (fun ls hl => ?_)
          refine lv_goto (tgt := 91) hx hb d_R_query_113 (by decide) ?_
          exact ih91 v22 v23 H locs ls (lpk_i hf hk91) ⟨hP, hD, hS⟩ (lv_sub hl [1, 0] rfl)
    exact hL91 N g_all x2 H locs ls hy91 ⟨hP, hD, hS⟩ hl
  have hJ79 : ∀ (f_raised : Int32) (f_undos : Int32) (f_reached : Int32) (f_length : Int32) (f_begin : Int32) (f_sort : Int32) (f_sign : Int32) (f_value : Int32) (f_word : Int64) (f_wrongAt : Int32) (f_badAt : Int32) (f_bad : Int32) (f_read : Int32) (f_side : Int32) (g_all : Nat → Int32) (g_told : Nat → Int32) (x1 : Int32) (H : Heap) (locs : List Loc) (ls : Array Slot), PDS G.1 classes A s [(h0, O_R f_raised a_all a_text a_saved a_undone f_undos f_reached f_length f_begin f_sort f_sign f_value f_word f_wrongAt f_badAt f_bad a_told f_read f_side a_pile f_piled a_open f_opened f_joins f_had a_size a_capped a_connected a_bestCost a_bestCrosses a_bestPart a_part a_trees f_treeMany a_nodes f_nodeMany f_moveNode f_movePart f_moveFirst f_moveThen f_moveOther a_out f_outMany a_kept), (a_all, aI G 1276 g_all), (a_text, aB G 2000 g_text), (a_told, aI G 316 g_told)] H locs → lv_has ls 3 [(0, .ref h0), (1, .int x1)] → R_query_79 N f_raised f_undos f_reached f_length f_begin f_sort f_sign f_value f_word f_wrongAt f_badAt f_bad f_read f_side g_all g_text g_told x1 = some res → W p l e (rmk 5) s m args below meth c H locs 0 0 Q (F0 m 79 ls []) := by
    intro f_raised f_undos f_reached f_length f_begin f_sort f_sign f_value f_word f_wrongAt f_badAt f_bad f_read f_side g_all g_told x1 H locs ls wq hl hf
    obtain ⟨hP, hD, hS⟩ := wq
    refine lv_aload_n hx hb d_R_query_79 rfl (lv_at hl 0 rfl) ?_
    refine lv_iload_n hx hb d_R_query_80 rfl (lv_at hl 1 rfl) ?_
    obtain ⟨t16, hv17, hf⟩ := db_e hf
    refine call_i (isC := [0, 1]) (run_V (As := [.int x1]) (rest := []) (ci := 12) (q0 := 0) hx hb hml hown htl (c_R_isFine l G Y  h0 a_all a_text a_saved a_undone a_told a_pile a_open a_size a_capped a_connected a_bestCost a_bestCrosses a_bestPart a_part a_trees a_nodes a_out a_kept f_raised f_undos f_reached f_length f_begin f_sort f_sign f_value f_word f_wrongAt f_badAt f_bad f_read f_side f_piled f_opened f_joins f_had f_treeMany f_nodeMany f_moveNode f_movePart f_moveFirst f_moveThen f_moveOther f_outMany g_all x1 t16 hv17) mv_R_isFine k_1399 (hRk (by decide) (by decide)) hK hsk hS hP hD (isC := [0, 1]) rfl (by decide) rfl rfl rfl hl.1 rfl (lv_room (Nat.le_of_ble_eq_true rfl)) d_R_query_81) hP hD hS rfl rfl (fun H locs hP hD hS => ?_)
    have hP : va_P G.1 classes [(h0, O_R f_raised a_all a_text a_saved a_undone f_undos f_reached f_length f_begin f_sort f_sign f_value f_word f_wrongAt f_badAt f_bad a_told f_read f_side a_pile f_piled a_open f_opened f_joins f_had a_size a_capped a_connected a_bestCost a_bestCrosses a_bestPart a_part a_trees f_treeMany a_nodes f_nodeMany f_moveNode f_movePart f_moveFirst f_moveThen f_moveOther a_out f_outMany a_kept), (a_all, aI G 1276 t16.2), (a_text, aB G 2000 g_text), (a_told, aI G 316 g_told)] H := hP
    have hD : va_D A [(h0, O_R f_raised a_all a_text a_saved a_undone f_undos f_reached f_length f_begin f_sort f_sign f_value f_word f_wrongAt f_badAt f_bad a_told f_read f_side a_pile f_piled a_open f_opened f_joins f_had a_size a_capped a_connected a_bestCost a_bestCrosses a_bestPart a_part a_trees f_treeMany a_nodes f_nodeMany f_moveNode f_movePart f_moveFirst f_moveThen f_moveOther a_out f_outMany a_kept), (a_all, aI G 1276 t16.2), (a_text, aB G 2000 g_text), (a_told, aI G 316 g_told)] := hD
    refine lv_if_ne (tgt := 89) hx hb d_R_query_84 (by decide) (fun c18 => ?_) (fun c18 => ?_)
    · have hf := di_f c18 hf
      refine lv_iconst (v := (0 : Int32)) hx hb d_R_query_89 (by decide) ?_
      refine lv_istore_n (lv' := [(2, .int (0 : Int32)), (0, .ref h0), (1, .int x1)]) hx hb d_R_query_90 rfl hl (by decide) rfl (fun ls hl => ?_)
      exact hJ91 f_raised f_undos f_reached f_length f_begin f_sort f_sign f_value f_word f_wrongAt f_badAt f_bad f_read f_side t16.2 g_told (0 : Int32) H locs ls ⟨hP, hD, hS⟩ (lv_sub hl [1, 0] rfl) hf
    · have hf := di_t c18 hf
      refine lv_iconst (v := (-1 : Int32)) hx hb d_R_query_87 (by decide) ?_
      cases hf
      exact hret 88 ls H locs hP hS d_R_query_88
  have hJ43 : ∀ (f_raised : Int32) (f_undos : Int32) (f_reached : Int32) (f_length : Int32) (f_begin : Int32) (f_sort : Int32) (f_sign : Int32) (f_value : Int32) (f_word : Int64) (f_wrongAt : Int32) (f_badAt : Int32) (f_bad : Int32) (f_read : Int32) (f_side : Int32) (g_all : Nat → Int32) (g_told : Nat → Int32) (x1 : Int32) (H : Heap) (locs : List Loc) (ls : Array Slot), PDS G.1 classes A s [(h0, O_R f_raised a_all a_text a_saved a_undone f_undos f_reached f_length f_begin f_sort f_sign f_value f_word f_wrongAt f_badAt f_bad a_told f_read f_side a_pile f_piled a_open f_opened f_joins f_had a_size a_capped a_connected a_bestCost a_bestCrosses a_bestPart a_part a_trees f_treeMany a_nodes f_nodeMany f_moveNode f_movePart f_moveFirst f_moveThen f_moveOther a_out f_outMany a_kept), (a_all, aI G 1276 g_all), (a_text, aB G 2000 g_text), (a_told, aI G 316 g_told)] H locs → lv_has ls 3 [(0, .ref h0), (1, .int x1)] → R_query_43 N f_raised f_undos f_reached f_length f_begin f_sort f_sign f_value f_word f_wrongAt f_badAt f_bad f_read f_side g_all g_text g_told x1 = some res → W p l e (rmk 5) s m args below meth c H locs 0 0 Q (F0 m 43 ls []) := by
    intro f_raised f_undos f_reached f_length f_begin f_sort f_sign f_value f_word f_wrongAt f_badAt f_bad f_read f_side g_all g_told x1 H locs ls wq hl hf
    obtain ⟨hP, hD, hS⟩ := wq
    obtain ⟨y43, hy43, hfo43⟩ := db_e hf
    have hL43 : ∀ (n : Nat) (f_reached : Int32) (f_begin : Int32) (f_sort : Int32) (f_sign : Int32) (f_value : Int32) (f_word : Int64) (f_wrongAt : Int32) (f_badAt : Int32) (f_bad : Int32) (f_read : Int32) (f_side : Int32) (g_told : Nat → Int32) (x1 : Int32) (H : Heap) (locs : List Loc) (ls : Array Slot), lp (fun x => R_query_b43 N f_raised f_undos x.1 f_length x.2.1 x.2.2.1 x.2.2.2.1 x.2.2.2.2.1 x.2.2.2.2.2.1 x.2.2.2.2.2.2.1 x.2.2.2.2.2.2.2.1 x.2.2.2.2.2.2.2.2.1 x.2.2.2.2.2.2.2.2.2.1 x.2.2.2.2.2.2.2.2.2.2.1 g_all g_text x.2.2.2.2.2.2.2.2.2.2.2.1 x.2.2.2.2.2.2.2.2.2.2.2.2) n (f_reached, f_begin, f_sort, f_sign, f_value, f_word, f_wrongAt, f_badAt, f_bad, f_read, f_side, g_told, x1) = some y43 → PDS G.1 classes A s [(h0, O_R f_raised a_all a_text a_saved a_undone f_undos f_reached f_length f_begin f_sort f_sign f_value f_word f_wrongAt f_badAt f_bad a_told f_read f_side a_pile f_piled a_open f_opened f_joins f_had a_size a_capped a_connected a_bestCost a_bestCrosses a_bestPart a_part a_trees f_treeMany a_nodes f_nodeMany f_moveNode f_movePart f_moveFirst f_moveThen f_moveOther a_out f_outMany a_kept), (a_all, aI G 1276 g_all), (a_text, aB G 2000 g_text), (a_told, aI G 316 g_told)] H locs → lv_has ls 3 [(0, .ref h0), (1, .int x1)] → W p l e (rmk 5) s m args below meth c H locs 0 0 Q (F0 m 43 ls []) := by
      intro n
      induction n with
      | zero =>
        intro f_reached f_begin f_sort f_sign f_value f_word f_wrongAt f_badAt f_bad f_read f_side g_told x1 H locs ls hf
        exact lp_0 hf
      | succ n ih43 =>
        intro f_reached f_begin f_sort f_sign f_value f_word f_wrongAt f_badAt f_bad f_read f_side g_told x1 H locs ls hf wq hl
        obtain ⟨hP, hD, hS⟩ := wq
        obtain ⟨r43, hf, hk43⟩ := lp_s hf
        have hf : R_query_b43 N f_raised f_undos f_reached f_length f_begin f_sort f_sign f_value f_word f_wrongAt f_badAt f_bad f_read f_side g_all g_text g_told x1 = some r43 := hf
        have hJ75 : ∀ (f_reached : Int32) (f_begin : Int32) (f_sort : Int32) (f_sign : Int32) (f_value : Int32) (f_word : Int64) (f_wrongAt : Int32) (f_badAt : Int32) (f_bad : Int32) (f_read : Int32) (f_side : Int32) (g_told : Nat → Int32) (z0 : Int32) (H : Heap) (locs : List Loc) (ls : Array Slot), PDS G.1 classes A s [(h0, O_R f_raised a_all a_text a_saved a_undone f_undos f_reached f_length f_begin f_sort f_sign f_value f_word f_wrongAt f_badAt f_bad a_told f_read f_side a_pile f_piled a_open f_opened f_joins f_had a_size a_capped a_connected a_bestCost a_bestCrosses a_bestPart a_part a_trees f_treeMany a_nodes f_nodeMany f_moveNode f_movePart f_moveFirst f_moveThen f_moveOther a_out f_outMany a_kept), (a_all, aI G 1276 g_all), (a_text, aB G 2000 g_text), (a_told, aI G 316 g_told)] H locs → lv_has ls 3 [(0, .ref h0)] → R_query_75 N f_raised f_undos f_reached f_length f_begin f_sort f_sign f_value f_word f_wrongAt f_badAt f_bad f_read f_side g_all g_text g_told z0 = some r43 → W p l e (rmk 5) s m args below meth c H locs 0 0 Q (F0 m 75 ls [.int z0]) := by
          intro f_reached f_begin f_sort f_sign f_value f_word f_wrongAt f_badAt f_bad f_read f_side g_told z0 H locs ls wq hl hf
          obtain ⟨hP, hD, hS⟩ := wq
          refine lv_istore_n (lv' := [(1, .int z0), (0, .ref h0)]) hx hb d_R_query_75 rfl hl (by decide) rfl (fun ls hl => ?_)
          refine lv_goto (tgt := 43) hx hb d_R_query_76 (by decide) ?_
          exact ih43 f_reached f_begin f_sort f_sign f_value f_word f_wrongAt f_badAt f_bad f_read f_side g_told z0 H locs ls (lpk_i hf hk43) ⟨hP, hD, hS⟩ (lv_sub hl [1, 0] rfl)
        have hJ74 : ∀ (f_reached : Int32) (f_begin : Int32) (f_sort : Int32) (f_sign : Int32) (f_value : Int32) (f_word : Int64) (f_wrongAt : Int32) (f_badAt : Int32) (f_bad : Int32) (f_read : Int32) (f_side : Int32) (g_told : Nat → Int32) (H : Heap) (locs : List Loc) (ls : Array Slot), PDS G.1 classes A s [(h0, O_R f_raised a_all a_text a_saved a_undone f_undos f_reached f_length f_begin f_sort f_sign f_value f_word f_wrongAt f_badAt f_bad a_told f_read f_side a_pile f_piled a_open f_opened f_joins f_had a_size a_capped a_connected a_bestCost a_bestCrosses a_bestPart a_part a_trees f_treeMany a_nodes f_nodeMany f_moveNode f_movePart f_moveFirst f_moveThen f_moveOther a_out f_outMany a_kept), (a_all, aI G 1276 g_all), (a_text, aB G 2000 g_text), (a_told, aI G 316 g_told)] H locs → lv_has ls 3 [(0, .ref h0)] → R_query_74 N f_raised f_undos f_reached f_length f_begin f_sort f_sign f_value f_word f_wrongAt f_badAt f_bad f_read f_side g_all g_text g_told = some r43 → W p l e (rmk 5) s m args below meth c H locs 0 0 Q (F0 m 74 ls []) := by
          intro f_reached f_begin f_sort f_sign f_value f_word f_wrongAt f_badAt f_bad f_read f_side g_told H locs ls wq hl hf
          obtain ⟨hP, hD, hS⟩ := wq
          refine lv_iconst (v := (0 : Int32)) hx hb d_R_query_74 (by decide) ?_
          exact hJ75 f_reached f_begin f_sort f_sign f_value f_word f_wrongAt f_badAt f_bad f_read f_side g_told (0 : Int32) H locs ls ⟨hP, hD, hS⟩ (lv_sub hl [0] rfl) hf
        refine lv_iload_n hx hb d_R_query_43 rfl (lv_at hl 1 rfl) ?_
        refine lv_if_eq (tgt := 79) hx hb d_R_query_44 (by decide) (fun c8 => ?_) (fun c8 => ?_)
        · have hf := di_t c8 hf
          have hq43 := lpk_x hf hk43
          have hf := ex_y (f := fun y => R_query_a43 N f_raised f_undos f_length g_all g_text y) hq43 hfo43
          have hf : R_query_79 N f_raised f_undos f_reached f_length f_begin f_sort f_sign f_value f_word f_wrongAt f_badAt f_bad f_read f_side g_all g_text g_told x1 = some res := hf
          exact hJ79 f_raised f_undos f_reached f_length f_begin f_sort f_sign f_value f_word f_wrongAt f_badAt f_bad f_read f_side g_all g_told x1 H locs ls ⟨hP, hD, hS⟩ (lv_sub hl [0, 1] rfl) hf
        · have hf := di_f c8 hf
          refine lv_aload_n hx hb d_R_query_47 rfl (lv_at hl 0 rfl) ?_
          refine va_get (D := G.1) (ci := 12) (v := .int f_sort) (C := n_R) (T := T_R) (N := 44) hx hb htl iw_R hown hK hP 0 rfl rfl 9 (by decide) (htl _ k_1205) (fun _ h9 => h9) rfl d_R_query_48 ?_
          refine lv_if_eq (tgt := 79) hx hb d_R_query_51 (by decide) (fun c9 => ?_) (fun c9 => ?_)
          · have hf := di_t c9 hf
            have hq43 := lpk_x hf hk43
            have hf := ex_y (f := fun y => R_query_a43 N f_raised f_undos f_length g_all g_text y) hq43 hfo43
            have hf : R_query_79 N f_raised f_undos f_reached f_length f_begin f_sort f_sign f_value f_word f_wrongAt f_badAt f_bad f_read f_side g_all g_text g_told x1 = some res := hf
            exact hJ79 f_raised f_undos f_reached f_length f_begin f_sort f_sign f_value f_word f_wrongAt f_badAt f_bad f_read f_side g_all g_told x1 H locs ls ⟨hP, hD, hS⟩ (lv_sub hl [0, 1] rfl) hf
          · have hf := di_f c9 hf
            refine lv_aload_n hx hb d_R_query_54 rfl (lv_at hl 0 rfl) ?_
            obtain ⟨t10, hv11, hf⟩ := db_e hf
            refine call_i (isC := [0, 2, 3]) (run_V (As := []) (rest := []) (ci := 12) (q0 := 0) hx hb hml hown htl (c_R_line l G Y  h0 a_all a_text a_saved a_undone a_told a_pile a_open a_size a_capped a_connected a_bestCost a_bestCrosses a_bestPart a_part a_trees a_nodes a_out a_kept f_raised f_undos f_reached f_length f_begin f_sort f_sign f_value f_word f_wrongAt f_badAt f_bad f_read f_side f_piled f_opened f_joins f_had f_treeMany f_nodeMany f_moveNode f_movePart f_moveFirst f_moveThen f_moveOther f_outMany g_text g_told N t10 hv11) mv_R_line k_1361 (hRk (by decide) (by decide)) hK hsk hS hP hD (isC := [0, 2, 3]) rfl (by decide) rfl rfl rfl hl.1 rfl (lv_room (Nat.le_of_ble_eq_true rfl)) d_R_query_55) hP hD hS rfl rfl (fun H locs hP hD hS => ?_)
            have hP : va_P G.1 classes [(h0, O_R f_raised a_all a_text a_saved a_undone f_undos t10.2.1 f_length t10.2.2.1 t10.2.2.2.1 t10.2.2.2.2.1 t10.2.2.2.2.2.1 t10.2.2.2.2.2.2.1 t10.2.2.2.2.2.2.2.1 t10.2.2.2.2.2.2.2.2.1 t10.2.2.2.2.2.2.2.2.2.1 a_told t10.2.2.2.2.2.2.2.2.2.2.1 t10.2.2.2.2.2.2.2.2.2.2.2.1 a_pile f_piled a_open f_opened f_joins f_had a_size a_capped a_connected a_bestCost a_bestCrosses a_bestPart a_part a_trees f_treeMany a_nodes f_nodeMany f_moveNode f_movePart f_moveFirst f_moveThen f_moveOther a_out f_outMany a_kept), (a_all, aI G 1276 g_all), (a_text, aB G 2000 g_text), (a_told, aI G 316 t10.2.2.2.2.2.2.2.2.2.2.2.2)] H := hP
            have hD : va_D A [(h0, O_R f_raised a_all a_text a_saved a_undone f_undos t10.2.1 f_length t10.2.2.1 t10.2.2.2.1 t10.2.2.2.2.1 t10.2.2.2.2.2.1 t10.2.2.2.2.2.2.1 t10.2.2.2.2.2.2.2.1 t10.2.2.2.2.2.2.2.2.1 t10.2.2.2.2.2.2.2.2.2.1 a_told t10.2.2.2.2.2.2.2.2.2.2.1 t10.2.2.2.2.2.2.2.2.2.2.2.1 a_pile f_piled a_open f_opened f_joins f_had a_size a_capped a_connected a_bestCost a_bestCrosses a_bestPart a_part a_trees f_treeMany a_nodes f_nodeMany f_moveNode f_movePart f_moveFirst f_moveThen f_moveOther a_out f_outMany a_kept), (a_all, aI G 1276 g_all), (a_text, aB G 2000 g_text), (a_told, aI G 316 t10.2.2.2.2.2.2.2.2.2.2.2.2)] := hD
            refine lv_if_eq (tgt := 74) hx hb d_R_query_58 (by decide) (fun c12 => ?_) (fun c12 => ?_)
            · have hf := di_t c12 hf
              exact hJ74 t10.2.1 t10.2.2.1 t10.2.2.2.1 t10.2.2.2.2.1 t10.2.2.2.2.2.1 t10.2.2.2.2.2.2.1 t10.2.2.2.2.2.2.2.1 t10.2.2.2.2.2.2.2.2.1 t10.2.2.2.2.2.2.2.2.2.1 t10.2.2.2.2.2.2.2.2.2.2.1 t10.2.2.2.2.2.2.2.2.2.2.2.1 t10.2.2.2.2.2.2.2.2.2.2.2.2 H locs ls ⟨hP, hD, hS⟩ (lv_sub hl [0] rfl) hf
            · have hf := di_f c12 hf
              refine lv_aload_n hx hb d_R_query_61 rfl (lv_at hl 0 rfl) ?_
              refine lv_bipush (v := (59 : Int32)) hx hb d_R_query_62 (by decide) ?_
              obtain ⟨t13, hv14, hf⟩ := db_e hf
              refine call_i (isC := [0, 2]) (run_V (As := [.int (59 : Int32)]) (rest := []) (ci := 12) (q0 := 0) hx hb hml hown htl (c_R_takesSign l G Y  h0 a_all a_text a_saved a_undone a_told a_pile a_open a_size a_capped a_connected a_bestCost a_bestCrosses a_bestPart a_part a_trees a_nodes a_out a_kept f_raised f_undos t10.2.1 f_length t10.2.2.1 t10.2.2.2.1 t10.2.2.2.2.1 t10.2.2.2.2.2.1 t10.2.2.2.2.2.2.1 t10.2.2.2.2.2.2.2.1 t10.2.2.2.2.2.2.2.2.1 t10.2.2.2.2.2.2.2.2.2.1 t10.2.2.2.2.2.2.2.2.2.2.1 t10.2.2.2.2.2.2.2.2.2.2.2.1 f_piled f_opened f_joins f_had f_treeMany f_nodeMany f_moveNode f_movePart f_moveFirst f_moveThen f_moveOther f_outMany g_text (59 : Int32) N t13 hv14) mv_R_takesSign k_1392 (hRk (by decide) (by decide)) hK hsk hS hP hD (isC := [0, 2]) rfl (by decide) rfl rfl rfl hl.1 rfl (lv_room (Nat.le_of_ble_eq_true rfl)) d_R_query_64) hP hD hS rfl rfl (fun H locs hP hD hS => ?_)
              have hP : va_P G.1 classes [(h0, O_R f_raised a_all a_text a_saved a_undone f_undos t13.2.1 f_length t13.2.2.1 t13.2.2.2.1 t13.2.2.2.2.1 t13.2.2.2.2.2.1 t13.2.2.2.2.2.2.1 t13.2.2.2.2.2.2.2 t10.2.2.2.2.2.2.2.2.1 t10.2.2.2.2.2.2.2.2.2.1 a_told t10.2.2.2.2.2.2.2.2.2.2.1 t10.2.2.2.2.2.2.2.2.2.2.2.1 a_pile f_piled a_open f_opened f_joins f_had a_size a_capped a_connected a_bestCost a_bestCrosses a_bestPart a_part a_trees f_treeMany a_nodes f_nodeMany f_moveNode f_movePart f_moveFirst f_moveThen f_moveOther a_out f_outMany a_kept), (a_all, aI G 1276 g_all), (a_text, aB G 2000 g_text), (a_told, aI G 316 t10.2.2.2.2.2.2.2.2.2.2.2.2)] H := hP
              have hD : va_D A [(h0, O_R f_raised a_all a_text a_saved a_undone f_undos t13.2.1 f_length t13.2.2.1 t13.2.2.2.1 t13.2.2.2.2.1 t13.2.2.2.2.2.1 t13.2.2.2.2.2.2.1 t13.2.2.2.2.2.2.2 t10.2.2.2.2.2.2.2.2.1 t10.2.2.2.2.2.2.2.2.2.1 a_told t10.2.2.2.2.2.2.2.2.2.2.1 t10.2.2.2.2.2.2.2.2.2.2.2.1 a_pile f_piled a_open f_opened f_joins f_had a_size a_capped a_connected a_bestCost a_bestCrosses a_bestPart a_part a_trees f_treeMany a_nodes f_nodeMany f_moveNode f_movePart f_moveFirst f_moveThen f_moveOther a_out f_outMany a_kept), (a_all, aI G 1276 g_all), (a_text, aB G 2000 g_text), (a_told, aI G 316 t10.2.2.2.2.2.2.2.2.2.2.2.2)] := hD
              refine lv_if_eq (tgt := 74) hx hb d_R_query_67 (by decide) (fun c15 => ?_) (fun c15 => ?_)
              · have hf := di_t c15 hf
                exact hJ74 t13.2.1 t13.2.2.1 t13.2.2.2.1 t13.2.2.2.2.1 t13.2.2.2.2.2.1 t13.2.2.2.2.2.2.1 t13.2.2.2.2.2.2.2 t10.2.2.2.2.2.2.2.2.1 t10.2.2.2.2.2.2.2.2.2.1 t10.2.2.2.2.2.2.2.2.2.2.1 t10.2.2.2.2.2.2.2.2.2.2.2.1 t10.2.2.2.2.2.2.2.2.2.2.2.2 H locs ls ⟨hP, hD, hS⟩ (lv_sub hl [0] rfl) hf
              · have hf := di_f c15 hf
                refine lv_iconst (v := (1 : Int32)) hx hb d_R_query_70 (by decide) ?_
                refine lv_goto (tgt := 75) hx hb d_R_query_71 (by decide) ?_
                exact hJ75 t13.2.1 t13.2.2.1 t13.2.2.2.1 t13.2.2.2.2.1 t13.2.2.2.2.2.1 t13.2.2.2.2.2.2.1 t13.2.2.2.2.2.2.2 t10.2.2.2.2.2.2.2.2.1 t10.2.2.2.2.2.2.2.2.2.1 t10.2.2.2.2.2.2.2.2.2.2.1 t10.2.2.2.2.2.2.2.2.2.2.2.1 t10.2.2.2.2.2.2.2.2.2.2.2.2 (1 : Int32) H locs ls ⟨hP, hD, hS⟩ (lv_sub hl [0] rfl) hf
    exact hL43 N f_reached f_begin f_sort f_sign f_value f_word f_wrongAt f_badAt f_bad f_read f_side g_told x1 H locs ls hy43 ⟨hP, hD, hS⟩ hl
  have hJ31 : ∀ (f_raised : Int32) (f_undos : Int32) (f_reached : Int32) (f_length : Int32) (f_begin : Int32) (f_sort : Int32) (f_sign : Int32) (f_value : Int32) (f_word : Int64) (f_wrongAt : Int32) (f_badAt : Int32) (f_bad : Int32) (f_read : Int32) (f_side : Int32) (g_all : Nat → Int32) (g_told : Nat → Int32) (H : Heap) (locs : List Loc) (ls : Array Slot), PDS G.1 classes A s [(h0, O_R f_raised a_all a_text a_saved a_undone f_undos f_reached f_length f_begin f_sort f_sign f_value f_word f_wrongAt f_badAt f_bad a_told f_read f_side a_pile f_piled a_open f_opened f_joins f_had a_size a_capped a_connected a_bestCost a_bestCrosses a_bestPart a_part a_trees f_treeMany a_nodes f_nodeMany f_moveNode f_movePart f_moveFirst f_moveThen f_moveOther a_out f_outMany a_kept), (a_all, aI G 1276 g_all), (a_text, aB G 2000 g_text), (a_told, aI G 316 g_told)] H locs → lv_has ls 3 [(0, .ref h0)] → R_query_31 N f_raised f_undos f_reached f_length f_begin f_sort f_sign f_value f_word f_wrongAt f_badAt f_bad f_read f_side g_all g_text g_told = some res → W p l e (rmk 5) s m args below meth c H locs 0 0 Q (F0 m 31 ls []) := by
    intro f_raised f_undos f_reached f_length f_begin f_sort f_sign f_value f_word f_wrongAt f_badAt f_bad f_read f_side g_all g_told H locs ls wq hl hf
    obtain ⟨hP, hD, hS⟩ := wq
    refine lv_aload_n hx hb d_R_query_31 rfl (lv_at hl 0 rfl) ?_
    refine va_get (D := G.1) (ci := 12) (v := .ref a_told) (C := n_R) (T := T_R) (N := 44) hx hb htl iw_R hown hK hP 0 rfl rfl 16 (by decide) (htl _ k_1212) (fun _ h9 => h9) rfl d_R_query_32 ?_
    refine lv_bipush (v := (58 : Int32)) hx hb d_R_query_35 (by decide) ?_
    refine lv_sipush (v := (1000 : Int32)) hx hb d_R_query_37 (by decide) ?_
    refine nx_iast hx hb hK hP hD hS 3 1 rfl rfl (vp_lit (by decide)) d_R_query_40 (fun v7 ev7 H locs hP hD hS => ?_)
    have hf := dn_e ev7 hf
    have hP : va_P G.1 classes [(h0, O_R f_raised a_all a_text a_saved a_undone f_undos f_reached f_length f_begin f_sort f_sign f_value f_word f_wrongAt f_badAt f_bad a_told f_read f_side a_pile f_piled a_open f_opened f_joins f_had a_size a_capped a_connected a_bestCost a_bestCrosses a_bestPart a_part a_trees f_treeMany a_nodes f_nodeMany f_moveNode f_movePart f_moveFirst f_moveThen f_moveOther a_out f_outMany a_kept), (a_all, aI G 1276 g_all), (a_text, aB G 2000 g_text), (a_told, aI G 316 v7)] H := hP
    have hD : va_D A [(h0, O_R f_raised a_all a_text a_saved a_undone f_undos f_reached f_length f_begin f_sort f_sign f_value f_word f_wrongAt f_badAt f_bad a_told f_read f_side a_pile f_piled a_open f_opened f_joins f_had a_size a_capped a_connected a_bestCost a_bestCrosses a_bestPart a_part a_trees f_treeMany a_nodes f_nodeMany f_moveNode f_movePart f_moveFirst f_moveThen f_moveOther a_out f_outMany a_kept), (a_all, aI G 1276 g_all), (a_text, aB G 2000 g_text), (a_told, aI G 316 v7)] := hD
    refine lv_iconst (v := (1 : Int32)) hx hb d_R_query_41 (by decide) ?_
    refine lv_istore_n (lv' := [(1, .int (1 : Int32)), (0, .ref h0)]) hx hb d_R_query_42 rfl hl (by decide) rfl (fun ls hl => ?_)
    exact hJ43 f_raised f_undos f_reached f_length f_begin f_sort f_sign f_value f_word f_wrongAt f_badAt f_bad f_read f_side g_all v7 (1 : Int32) H locs ls ⟨hP, hD, hS⟩ (lv_sub hl [1, 0] rfl) hf
  have hJ11 : ∀ (f_raised : Int32) (f_undos : Int32) (f_reached : Int32) (f_length : Int32) (f_begin : Int32) (f_sort : Int32) (f_sign : Int32) (f_value : Int32) (f_word : Int64) (f_wrongAt : Int32) (f_badAt : Int32) (f_bad : Int32) (f_read : Int32) (f_side : Int32) (g_all : Nat → Int32) (g_told : Nat → Int32) (x1 : Int32) (H : Heap) (locs : List Loc) (ls : Array Slot), PDS G.1 classes A s [(h0, O_R f_raised a_all a_text a_saved a_undone f_undos f_reached f_length f_begin f_sort f_sign f_value f_word f_wrongAt f_badAt f_bad a_told f_read f_side a_pile f_piled a_open f_opened f_joins f_had a_size a_capped a_connected a_bestCost a_bestCrosses a_bestPart a_part a_trees f_treeMany a_nodes f_nodeMany f_moveNode f_movePart f_moveFirst f_moveThen f_moveOther a_out f_outMany a_kept), (a_all, aI G 1276 g_all), (a_text, aB G 2000 g_text), (a_told, aI G 316 g_told)] H locs → lv_has ls 3 [(0, .ref h0), (1, .int x1)] → R_query_11 N f_raised f_undos f_reached f_length f_begin f_sort f_sign f_value f_word f_wrongAt f_badAt f_bad f_read f_side g_all g_text g_told x1 = some res → W p l e (rmk 5) s m args below meth c H locs 0 0 Q (F0 m 11 ls []) := by
    intro f_raised f_undos f_reached f_length f_begin f_sort f_sign f_value f_word f_wrongAt f_badAt f_bad f_read f_side g_all g_told x1 H locs ls wq hl hf
    obtain ⟨hP, hD, hS⟩ := wq
    obtain ⟨y11, hy11, hfo11⟩ := db_e hf
    have hL11 : ∀ (n : Nat) (g_told : Nat → Int32) (x1 : Int32) (H : Heap) (locs : List Loc) (ls : Array Slot), lp (fun x => R_query_b11 N f_raised f_undos f_reached f_length f_begin f_sort f_sign f_value f_word f_wrongAt f_badAt f_bad f_read f_side g_all g_text x.1 x.2) n (g_told, x1) = some y11 → PDS G.1 classes A s [(h0, O_R f_raised a_all a_text a_saved a_undone f_undos f_reached f_length f_begin f_sort f_sign f_value f_word f_wrongAt f_badAt f_bad a_told f_read f_side a_pile f_piled a_open f_opened f_joins f_had a_size a_capped a_connected a_bestCost a_bestCrosses a_bestPart a_part a_trees f_treeMany a_nodes f_nodeMany f_moveNode f_movePart f_moveFirst f_moveThen f_moveOther a_out f_outMany a_kept), (a_all, aI G 1276 g_all), (a_text, aB G 2000 g_text), (a_told, aI G 316 g_told)] H locs → lv_has ls 3 [(0, .ref h0), (1, .int x1)] → W p l e (rmk 5) s m args below meth c H locs 0 0 Q (F0 m 11 ls []) := by
      intro n
      induction n with
      | zero =>
        intro g_told x1 H locs ls hf
        exact lp_0 hf
      | succ n ih11 =>
        intro g_told x1 H locs ls hf wq hl
        obtain ⟨hP, hD, hS⟩ := wq
        obtain ⟨r11, hf, hk11⟩ := lp_s hf
        have hf : R_query_b11 N f_raised f_undos f_reached f_length f_begin f_sort f_sign f_value f_word f_wrongAt f_badAt f_bad f_read f_side g_all g_text g_told x1 = some r11 := hf
        refine lv_iload_n hx hb d_R_query_11 rfl (lv_at hl 1 rfl) ?_
        refine lv_sipush (v := (316 : Int32)) hx hb d_R_query_12 (by decide) ?_
        refine lv_icmp_ge (tgt := 31) hx hb d_R_query_15 (by decide) (fun c3 => ?_) (fun c3 => ?_)
        · have hf := di_t c3 hf
          have hq11 := lpk_x hf hk11
          have hf := ex_y (f := fun y => R_query_a11 N f_raised f_undos f_reached f_length f_begin f_sort f_sign f_value f_word f_wrongAt f_badAt f_bad f_read f_side g_all g_text y) hq11 hfo11
          have hf : R_query_31 N f_raised f_undos f_reached f_length f_begin f_sort f_sign f_value f_word f_wrongAt f_badAt f_bad f_read f_side g_all g_text g_told = some res := hf
          exact hJ31 f_raised f_undos f_reached f_length f_begin f_sort f_sign f_value f_word f_wrongAt f_badAt f_bad f_read f_side g_all g_told H locs ls ⟨hP, hD, hS⟩ (lv_sub hl [0] rfl) hf
        · have hf := di_f c3 hf
          refine lv_aload_n hx hb d_R_query_18 rfl (lv_at hl 0 rfl) ?_
          refine va_get (D := G.1) (ci := 12) (v := .ref a_told) (C := n_R) (T := T_R) (N := 44) hx hb htl iw_R hown hK hP 0 rfl rfl 16 (by decide) (htl _ k_1212) (fun _ h9 => h9) rfl d_R_query_19 ?_
          refine lv_iload_n hx hb d_R_query_22 rfl (lv_at hl 1 rfl) ?_
          refine lv_iconst (v := (0 : Int32)) hx hb d_R_query_23 (by decide) ?_
          obtain ⟨c4, hf⟩ := dk_e hf
          refine nx_iast hx hb hK hP hD hS 3 1 rfl rfl c4 d_R_query_24 (fun v5 ev5 H locs hP hD hS => ?_)
          have hf := dn_e ev5 hf
          have hP : va_P G.1 classes [(h0, O_R f_raised a_all a_text a_saved a_undone f_undos f_reached f_length f_begin f_sort f_sign f_value f_word f_wrongAt f_badAt f_bad a_told f_read f_side a_pile f_piled a_open f_opened f_joins f_had a_size a_capped a_connected a_bestCost a_bestCrosses a_bestPart a_part a_trees f_treeMany a_nodes f_nodeMany f_moveNode f_movePart f_moveFirst f_moveThen f_moveOther a_out f_outMany a_kept), (a_all, aI G 1276 g_all), (a_text, aB G 2000 g_text), (a_told, aI G 316 v5)] H := hP
          have hD : va_D A [(h0, O_R f_raised a_all a_text a_saved a_undone f_undos f_reached f_length f_begin f_sort f_sign f_value f_word f_wrongAt f_badAt f_bad a_told f_read f_side a_pile f_piled a_open f_opened f_joins f_had a_size a_capped a_connected a_bestCost a_bestCrosses a_bestPart a_part a_trees f_treeMany a_nodes f_nodeMany f_moveNode f_movePart f_moveFirst f_moveThen f_moveOther a_out f_outMany a_kept), (a_all, aI G 1276 g_all), (a_text, aB G 2000 g_text), (a_told, aI G 316 v5)] := hD
          obtain ⟨v6, ev6⟩ : ∃ z : Int32, z = x1 + (1 : Int32) := ⟨_, rfl⟩
          have hf := dn_e ev6 hf
          refine lv_iinc (v := v6) (lv' := [(1, .int v6), (0, .ref h0)]) hx hb d_R_query_25 hl (k := 1) rfl (by rw [ev6]; rfl) (by decide) rfl (fun ls hl => ?_)
          refine lv_goto (tgt := 11) hx hb d_R_query_28 (by decide) ?_
          exact ih11 v5 v6 H locs ls (lpk_i hf hk11) ⟨hP, hD, hS⟩ (lv_sub hl [1, 0] rfl)
    exact hL11 N g_told x1 H locs ls hy11 ⟨hP, hD, hS⟩ hl
  refine lv_aload_n hx hb d_R_query_0 rfl (lv_at hl 0 rfl) ?_
  refine lv_iconst (v := (0 : Int32)) hx hb d_R_query_1 (by decide) ?_
  refine va_put (D := G.1) (ci := 12) (v := .int (0 : Int32)) (ty := .int) (C := n_R) (T := T_R) (N := 44) hx hb htl iw_R ty_R ty_R_ok nm_R hown hK hP hD hS 0 rfl rfl 0 (by decide) (htl _ k_1196) (fun _ h9 => h9) rfl (by decide +kernel) rfl rfl (Nat.le_of_ble_eq_true rfl) d_R_query_2 (fun H locs hP hD hS => ?_)
  have hP : va_P G.1 classes [(h0, O_R (0 : Int32) a_all a_text a_saved a_undone f_undos f_reached f_length f_begin f_sort f_sign f_value f_word f_wrongAt f_badAt f_bad a_told f_read f_side a_pile f_piled a_open f_opened f_joins f_had a_size a_capped a_connected a_bestCost a_bestCrosses a_bestPart a_part a_trees f_treeMany a_nodes f_nodeMany f_moveNode f_movePart f_moveFirst f_moveThen f_moveOther a_out f_outMany a_kept), (a_all, aI G 1276 g_all), (a_text, aB G 2000 g_text), (a_told, aI G 316 g_told)] H := hP
  have hD : va_D A [(h0, O_R (0 : Int32) a_all a_text a_saved a_undone f_undos f_reached f_length f_begin f_sort f_sign f_value f_word f_wrongAt f_badAt f_bad a_told f_read f_side a_pile f_piled a_open f_opened f_joins f_had a_size a_capped a_connected a_bestCost a_bestCrosses a_bestPart a_part a_trees f_treeMany a_nodes f_nodeMany f_moveNode f_movePart f_moveFirst f_moveThen f_moveOther a_out f_outMany a_kept), (a_all, aI G 1276 g_all), (a_text, aB G 2000 g_text), (a_told, aI G 316 g_told)] := hD
  refine lv_aload_n hx hb d_R_query_5 rfl (lv_at hl 0 rfl) ?_
  obtain ⟨t1, hv2, hf⟩ := db_e hf
  refine call_v (isC := [0, 1, 2]) (run_V (As := []) (rest := []) (ci := 12) (q0 := 0) hx hb hml hown htl (c_R_starts l G Y  h0 a_all a_text a_saved a_undone a_told a_pile a_open a_size a_capped a_connected a_bestCost a_bestCrosses a_bestPart a_part a_trees a_nodes a_out a_kept (0 : Int32) f_undos f_reached f_length f_begin f_sort f_sign f_value f_word f_wrongAt f_badAt f_bad f_read f_side f_piled f_opened f_joins f_had f_treeMany f_nodeMany f_moveNode f_movePart f_moveFirst f_moveThen f_moveOther f_outMany g_all g_text N t1 hv2) mv_R_starts k_1342 (hRk (by decide) (by decide)) hK hsk hS hP hD (isC := [0, 1, 2]) rfl (by decide) rfl rfl rfl hl.1 rfl (lv_room (Nat.le_of_ble_eq_true rfl)) d_R_query_6) hP hD hS rfl rfl (fun H locs hP hD hS => ?_)
  have hP : va_P G.1 classes [(h0, O_R (0 : Int32) a_all a_text a_saved a_undone f_undos t1.1 t1.2.1 t1.2.2.1 t1.2.2.2.1 t1.2.2.2.2.1 t1.2.2.2.2.2.1 t1.2.2.2.2.2.2.1 f_wrongAt t1.2.2.2.2.2.2.2.1 t1.2.2.2.2.2.2.2.2.1 a_told f_read f_side a_pile f_piled a_open f_opened f_joins f_had a_size a_capped a_connected a_bestCost a_bestCrosses a_bestPart a_part a_trees f_treeMany a_nodes f_nodeMany f_moveNode f_movePart f_moveFirst f_moveThen f_moveOther a_out f_outMany a_kept), (a_all, aI G 1276 t1.2.2.2.2.2.2.2.2.2), (a_text, aB G 2000 g_text), (a_told, aI G 316 g_told)] H := hP
  have hD : va_D A [(h0, O_R (0 : Int32) a_all a_text a_saved a_undone f_undos t1.1 t1.2.1 t1.2.2.1 t1.2.2.2.1 t1.2.2.2.2.1 t1.2.2.2.2.2.1 t1.2.2.2.2.2.2.1 f_wrongAt t1.2.2.2.2.2.2.2.1 t1.2.2.2.2.2.2.2.2.1 a_told f_read f_side a_pile f_piled a_open f_opened f_joins f_had a_size a_capped a_connected a_bestCost a_bestCrosses a_bestPart a_part a_trees f_treeMany a_nodes f_nodeMany f_moveNode f_movePart f_moveFirst f_moveThen f_moveOther a_out f_outMany a_kept), (a_all, aI G 1276 t1.2.2.2.2.2.2.2.2.2), (a_text, aB G 2000 g_text), (a_told, aI G 316 g_told)] := hD
  refine lv_iconst (v := (0 : Int32)) hx hb d_R_query_9 (by decide) ?_
  refine lv_istore_n (lv' := [(1, .int (0 : Int32)), (0, .ref h0)]) hx hb d_R_query_10 rfl hl (by decide) rfl (fun ls hl => ?_)
  exact hJ11 (0 : Int32) f_undos t1.1 t1.2.1 t1.2.2.1 t1.2.2.2.1 t1.2.2.2.2.1 t1.2.2.2.2.2.1 t1.2.2.2.2.2.2.1 f_wrongAt t1.2.2.2.2.2.2.2.1 t1.2.2.2.2.2.2.2.2.1 f_read f_side t1.2.2.2.2.2.2.2.2.2 g_told (0 : Int32) H locs ls ⟨hP, hD, hS⟩ (lv_sub hl [1, 0] rfl) hf
set_option maxHeartbeats 4000000 in
set_option maxRecDepth 100000 in
theorem c_R_fault (l : Launch) (G : va_G × (Nat → ClassId)) (Y : (Nat → Nat) × (Nat → Nat)) (h0 : Nat) (a_all : Nat) (a_text : Nat) (a_saved : Nat) (a_undone : Nat) (a_told : Nat) (a_pile : Nat) (a_open : Nat) (a_size : Nat) (a_capped : Nat) (a_connected : Nat) (a_bestCost : Nat) (a_bestCrosses : Nat) (a_bestPart : Nat) (a_part : Nat) (a_trees : Nat) (a_nodes : Nat) (a_out : Nat) (a_kept : Nat) (f_raised : Int32) (f_undos : Int32) (f_reached : Int32) (f_length : Int32) (f_begin : Int32) (f_sort : Int32) (f_sign : Int32) (f_value : Int32) (f_word : Int64) (f_wrongAt : Int32) (f_badAt : Int32) (f_bad : Int32) (f_read : Int32) (f_side : Int32) (f_piled : Int32) (f_opened : Int32) (f_joins : Int32) (f_had : Int32) (f_treeMany : Int32) (f_nodeMany : Int32) (f_moveNode : Int32) (f_movePart : Int32) (f_moveFirst : Int32) (f_moveThen : Int32) (f_moveOther : Int32) (f_outMany : Int32) (g_all : Nat → Int32) (x1 : Int32) (res : Int32 × Int32) (hf : R_fault f_raised g_all x1 = some res) : Ci l classes y_R_fault b_R_fault 2 (some .int) (rmk 0) G.1 (tyL G) Y [.ref h0, .int x1] [(h0, O_R f_raised a_all a_text a_saved a_undone f_undos f_reached f_length f_begin f_sort f_sign f_value f_word f_wrongAt f_badAt f_bad a_told f_read f_side a_pile f_piled a_open f_opened f_joins f_had a_size a_capped a_connected a_bestCost a_bestCrosses a_bestPart a_part a_trees f_treeMany a_nodes f_nodeMany f_moveNode f_movePart f_moveFirst f_moveThen f_moveOther a_out f_outMany a_kept), (a_all, aI G 1276 g_all)] [(h0, O_R res.2 a_all a_text a_saved a_undone f_undos f_reached f_length f_begin f_sort f_sign f_value f_word f_wrongAt f_badAt f_bad a_told f_read f_side a_pile f_piled a_open f_opened f_joins f_had a_size a_capped a_connected a_bestCost a_bestCrosses a_bestPart a_part a_trees f_treeMany a_nodes f_nodeMany f_moveNode f_movePart f_moveFirst f_moveThen f_moveOther a_out f_outMany a_kept), (a_all, aI G 1276 g_all)] res.1 := by
  refine entI (by decide) (Nat.le_of_ble_eq_true rfl) ?_
  intro p e s m args below meth c ls A Q hx hb hml hown htl hK hsk wq hl hret
  obtain ⟨hP, hD, hS⟩ := wq
  have hl : lv_has ls 2 [(0, .ref h0), (1, .int x1)] := hl
  have hS : va_S A s.heap s.heap [] := hS
  obtain ⟨H, hH⟩ : ∃ H : Heap, H = s.heap := ⟨_, rfl⟩
  obtain ⟨locs, hlocs⟩ : ∃ z : List Loc, z = [] := ⟨_, rfl⟩
  rw [← hH] at hP
  replace hS : va_S A s.heap H locs := by rw [hH, hlocs]; exact hS
  suffices hgo : W p l e (rmk 0) s m args below meth c H locs 0 0 Q (F0 m 0 ls []) by rw [hH, hlocs] at hgo; exact hgo
  refine lv_aload_n hx hb d_R_fault_0 rfl (lv_at hl 0 rfl) ?_
  refine lv_iconst (v := (0 : Int32)) hx hb d_R_fault_1 (by decide) ?_
  refine va_put (D := G.1) (ci := 12) (v := .int (0 : Int32)) (ty := .int) (C := n_R) (T := T_R) (N := 44) hx hb htl iw_R ty_R ty_R_ok nm_R hown hK hP hD hS 0 rfl rfl 0 (by decide) (htl _ k_1196) (fun _ h9 => h9) rfl (by decide +kernel) rfl rfl (Nat.le_of_ble_eq_true rfl) d_R_fault_2 (fun H locs hP hD hS => ?_)
  have hP : va_P G.1 classes [(h0, O_R (0 : Int32) a_all a_text a_saved a_undone f_undos f_reached f_length f_begin f_sort f_sign f_value f_word f_wrongAt f_badAt f_bad a_told f_read f_side a_pile f_piled a_open f_opened f_joins f_had a_size a_capped a_connected a_bestCost a_bestCrosses a_bestPart a_part a_trees f_treeMany a_nodes f_nodeMany f_moveNode f_movePart f_moveFirst f_moveThen f_moveOther a_out f_outMany a_kept), (a_all, aI G 1276 g_all)] H := hP
  have hD : va_D A [(h0, O_R (0 : Int32) a_all a_text a_saved a_undone f_undos f_reached f_length f_begin f_sort f_sign f_value f_word f_wrongAt f_badAt f_bad a_told f_read f_side a_pile f_piled a_open f_opened f_joins f_had a_size a_capped a_connected a_bestCost a_bestCrosses a_bestPart a_part a_trees f_treeMany a_nodes f_nodeMany f_moveNode f_movePart f_moveFirst f_moveThen f_moveOther a_out f_outMany a_kept), (a_all, aI G 1276 g_all)] := hD
  refine lv_iload_n hx hb d_R_fault_5 rfl (lv_at hl 1 rfl) ?_
  refine lv_if_eq (tgt := 20) hx hb d_R_fault_6 (by decide) (fun c1 => ?_) (fun c1 => ?_)
  · have hf := di_t c1 hf
    refine lv_aload_n hx hb d_R_fault_20 rfl (lv_at hl 0 rfl) ?_
    refine va_get (D := G.1) (ci := 12) (v := .ref a_all) (C := n_R) (T := T_R) (N := 44) hx hb htl iw_R hown hK hP 0 rfl rfl 1 (by decide) (htl _ k_1197) (fun _ h9 => h9) rfl d_R_fault_21 ?_
    refine lv_sipush (v := (317 : Int32)) hx hb d_R_fault_24 (by decide) ?_
    refine va_iald hx hb hK hP 1 1 rfl rfl (vp_lit (by decide)) d_R_fault_27 ?_
    cases hf
    exact hret 28 ls H locs hP hS d_R_fault_28
  · have hf := di_f c1 hf
    refine lv_aload_n hx hb d_R_fault_9 rfl (lv_at hl 0 rfl) ?_
    refine va_get (D := G.1) (ci := 12) (v := .ref a_all) (C := n_R) (T := T_R) (N := 44) hx hb htl iw_R hown hK hP 0 rfl rfl 1 (by decide) (htl _ k_1197) (fun _ h9 => h9) rfl d_R_fault_10 ?_
    refine lv_sipush (v := (318 : Int32)) hx hb d_R_fault_13 (by decide) ?_
    refine va_iald hx hb hK hP 1 1 rfl rfl (vp_lit (by decide)) d_R_fault_16 ?_
    refine lv_goto (tgt := 28) hx hb d_R_fault_17 (by decide) ?_
    cases hf
    exact hret 28 ls H locs hP hS d_R_fault_28
set_option maxHeartbeats 4000000 in
set_option maxRecDepth 100000 in
theorem c_R_puts (l : Launch) (G : va_G × (Nat → ClassId)) (Y : (Nat → Nat) × (Nat → Nat)) (h0 : Nat) (a_all : Nat) (a_text : Nat) (a_saved : Nat) (a_undone : Nat) (a_told : Nat) (a_pile : Nat) (a_open : Nat) (a_size : Nat) (a_capped : Nat) (a_connected : Nat) (a_bestCost : Nat) (a_bestCrosses : Nat) (a_bestPart : Nat) (a_part : Nat) (a_trees : Nat) (a_nodes : Nat) (a_out : Nat) (a_kept : Nat) (f_raised : Int32) (f_undos : Int32) (f_reached : Int32) (f_length : Int32) (f_begin : Int32) (f_sort : Int32) (f_sign : Int32) (f_value : Int32) (f_word : Int64) (f_wrongAt : Int32) (f_badAt : Int32) (f_bad : Int32) (f_read : Int32) (f_side : Int32) (f_piled : Int32) (f_opened : Int32) (f_joins : Int32) (f_had : Int32) (f_treeMany : Int32) (f_nodeMany : Int32) (f_moveNode : Int32) (f_movePart : Int32) (f_moveFirst : Int32) (f_moveThen : Int32) (f_moveOther : Int32) (f_outMany : Int32) (g_pile : Nat → Int32) (x1 : Int32) (res : Int32 × (Nat → Int32)) (hf : R_puts f_piled g_pile x1 = some res) : Cv l classes y_R_puts b_R_puts 2 none (rmk 0) G.1 (tyL G) Y [.ref h0, .int x1] [(h0, O_R f_raised a_all a_text a_saved a_undone f_undos f_reached f_length f_begin f_sort f_sign f_value f_word f_wrongAt f_badAt f_bad a_told f_read f_side a_pile f_piled a_open f_opened f_joins f_had a_size a_capped a_connected a_bestCost a_bestCrosses a_bestPart a_part a_trees f_treeMany a_nodes f_nodeMany f_moveNode f_movePart f_moveFirst f_moveThen f_moveOther a_out f_outMany a_kept), (a_pile, aI G 502 g_pile)] [(h0, O_R f_raised a_all a_text a_saved a_undone f_undos f_reached f_length f_begin f_sort f_sign f_value f_word f_wrongAt f_badAt f_bad a_told f_read f_side a_pile res.1 a_open f_opened f_joins f_had a_size a_capped a_connected a_bestCost a_bestCrosses a_bestPart a_part a_trees f_treeMany a_nodes f_nodeMany f_moveNode f_movePart f_moveFirst f_moveThen f_moveOther a_out f_outMany a_kept), (a_pile, aI G 502 res.2)] := by
  refine entV (by decide) (Nat.le_of_ble_eq_true rfl) ?_
  intro p e s m args below meth c ls A Q hx hb hml hown htl hK hsk wq hl hret
  obtain ⟨hP, hD, hS⟩ := wq
  have hl : lv_has ls 2 [(0, .ref h0), (1, .int x1)] := hl
  have hS : va_S A s.heap s.heap [] := hS
  obtain ⟨H, hH⟩ : ∃ H : Heap, H = s.heap := ⟨_, rfl⟩
  obtain ⟨locs, hlocs⟩ : ∃ z : List Loc, z = [] := ⟨_, rfl⟩
  rw [← hH] at hP
  replace hS : va_S A s.heap H locs := by rw [hH, hlocs]; exact hS
  suffices hgo : W p l e (rmk 0) s m args below meth c H locs 0 0 Q (F0 m 0 ls []) by rw [hH, hlocs] at hgo; exact hgo
  refine lv_aload_n hx hb d_R_puts_0 rfl (lv_at hl 0 rfl) ?_
  refine va_get (D := G.1) (ci := 12) (v := .ref a_pile) (C := n_R) (T := T_R) (N := 44) hx hb htl iw_R hown hK hP 0 rfl rfl 19 (by decide) (htl _ k_1215) (fun _ h9 => h9) rfl d_R_puts_1 ?_
  refine lv_aload_n hx hb d_R_puts_4 rfl (lv_at hl 0 rfl) ?_
  refine va_get (D := G.1) (ci := 12) (v := .int f_piled) (C := n_R) (T := T_R) (N := 44) hx hb htl iw_R hown hK hP 0 rfl rfl 20 (by decide) (htl _ k_1216) (fun _ h9 => h9) rfl d_R_puts_5 ?_
  refine lv_iload_n hx hb d_R_puts_8 rfl (lv_at hl 1 rfl) ?_
  obtain ⟨c1, hf⟩ := dk_e hf
  refine nx_iast hx hb hK hP hD hS 1 1 rfl rfl c1 d_R_puts_9 (fun v2 ev2 H locs hP hD hS => ?_)
  have hf := dn_e ev2 hf
  have hP : va_P G.1 classes [(h0, O_R f_raised a_all a_text a_saved a_undone f_undos f_reached f_length f_begin f_sort f_sign f_value f_word f_wrongAt f_badAt f_bad a_told f_read f_side a_pile f_piled a_open f_opened f_joins f_had a_size a_capped a_connected a_bestCost a_bestCrosses a_bestPart a_part a_trees f_treeMany a_nodes f_nodeMany f_moveNode f_movePart f_moveFirst f_moveThen f_moveOther a_out f_outMany a_kept), (a_pile, aI G 502 v2)] H := hP
  have hD : va_D A [(h0, O_R f_raised a_all a_text a_saved a_undone f_undos f_reached f_length f_begin f_sort f_sign f_value f_word f_wrongAt f_badAt f_bad a_told f_read f_side a_pile f_piled a_open f_opened f_joins f_had a_size a_capped a_connected a_bestCost a_bestCrosses a_bestPart a_part a_trees f_treeMany a_nodes f_nodeMany f_moveNode f_movePart f_moveFirst f_moveThen f_moveOther a_out f_outMany a_kept), (a_pile, aI G 502 v2)] := hD
  refine lv_aload_n hx hb d_R_puts_10 rfl (lv_at hl 0 rfl) ?_
  refine lv_dup hx hb d_R_puts_11 rfl ?_
  refine va_get (D := G.1) (ci := 12) (v := .int f_piled) (C := n_R) (T := T_R) (N := 44) hx hb htl iw_R hown hK hP 0 rfl rfl 20 (by decide) (htl _ k_1216) (fun _ h9 => h9) rfl d_R_puts_12 ?_
  refine lv_iconst (v := (1 : Int32)) hx hb d_R_puts_15 (by decide) ?_
  refine lv_iadd hx hb d_R_puts_16 ?_
  refine lv_topi (fun v3 ev3 => ?_)
  have hf := dn_e ev3 hf
  refine va_put (D := G.1) (ci := 12) (v := .int v3) (ty := .int) (C := n_R) (T := T_R) (N := 44) hx hb htl iw_R ty_R ty_R_ok nm_R hown hK hP hD hS 0 rfl rfl 20 (by decide) (htl _ k_1216) (fun _ h9 => h9) rfl (by decide +kernel) rfl rfl (Nat.le_of_ble_eq_true rfl) d_R_puts_17 (fun H locs hP hD hS => ?_)
  have hP : va_P G.1 classes [(h0, O_R f_raised a_all a_text a_saved a_undone f_undos f_reached f_length f_begin f_sort f_sign f_value f_word f_wrongAt f_badAt f_bad a_told f_read f_side a_pile v3 a_open f_opened f_joins f_had a_size a_capped a_connected a_bestCost a_bestCrosses a_bestPart a_part a_trees f_treeMany a_nodes f_nodeMany f_moveNode f_movePart f_moveFirst f_moveThen f_moveOther a_out f_outMany a_kept), (a_pile, aI G 502 v2)] H := hP
  have hD : va_D A [(h0, O_R f_raised a_all a_text a_saved a_undone f_undos f_reached f_length f_begin f_sort f_sign f_value f_word f_wrongAt f_badAt f_bad a_told f_read f_side a_pile v3 a_open f_opened f_joins f_had a_size a_capped a_connected a_bestCost a_bestCrosses a_bestPart a_part a_trees f_treeMany a_nodes f_nodeMany f_moveNode f_movePart f_moveFirst f_moveThen f_moveOther a_out f_outMany a_kept), (a_pile, aI G 502 v2)] := hD
  cases hf
  exact hret 20 ls H locs hP hS d_R_puts_20
set_option maxHeartbeats 4000000 in
set_option maxRecDepth 100000 in
theorem c_R_takesNumber (l : Launch) (G : va_G × (Nat → ClassId)) (Y : (Nat → Nat) × (Nat → Nat)) (h0 : Nat) (a_all : Nat) (a_text : Nat) (a_saved : Nat) (a_undone : Nat) (a_told : Nat) (a_pile : Nat) (a_open : Nat) (a_size : Nat) (a_capped : Nat) (a_connected : Nat) (a_bestCost : Nat) (a_bestCrosses : Nat) (a_bestPart : Nat) (a_part : Nat) (a_trees : Nat) (a_nodes : Nat) (a_out : Nat) (a_kept : Nat) (f_raised : Int32) (f_undos : Int32) (f_reached : Int32) (f_length : Int32) (f_begin : Int32) (f_sort : Int32) (f_sign : Int32) (f_value : Int32) (f_word : Int64) (f_wrongAt : Int32) (f_badAt : Int32) (f_bad : Int32) (f_read : Int32) (f_side : Int32) (f_piled : Int32) (f_opened : Int32) (f_joins : Int32) (f_had : Int32) (f_treeMany : Int32) (f_nodeMany : Int32) (f_moveNode : Int32) (f_movePart : Int32) (f_moveFirst : Int32) (f_moveThen : Int32) (f_moveOther : Int32) (f_outMany : Int32) (g_all : Nat → Int32) (g_pile : Nat → Int32) (g_text : Nat → Int32) (N : Nat) (res : Int32 × Int32 × Int32 × Int32 × Int32 × Int32 × Int64 × Int32 × Int32 × Int32 × Int32 × Int32 × (Nat → Int32)) (hf : R_takesNumber N f_reached f_length f_begin f_sort f_sign f_value f_word f_wrongAt f_badAt f_bad f_piled f_had g_all g_pile g_text = some res) : Ci l classes y_R_takesNumber b_R_takesNumber 2 (some .boolean) (rmk 2) G.1 (tyL G) Y [.ref h0] [(h0, O_R f_raised a_all a_text a_saved a_undone f_undos f_reached f_length f_begin f_sort f_sign f_value f_word f_wrongAt f_badAt f_bad a_told f_read f_side a_pile f_piled a_open f_opened f_joins f_had a_size a_capped a_connected a_bestCost a_bestCrosses a_bestPart a_part a_trees f_treeMany a_nodes f_nodeMany f_moveNode f_movePart f_moveFirst f_moveThen f_moveOther a_out f_outMany a_kept), (a_all, aI G 1276 g_all), (a_pile, aI G 502 g_pile), (a_text, aB G 2000 g_text)] [(h0, O_R f_raised a_all a_text a_saved a_undone f_undos res.2.1 f_length res.2.2.1 res.2.2.2.1 res.2.2.2.2.1 res.2.2.2.2.2.1 res.2.2.2.2.2.2.1 res.2.2.2.2.2.2.2.1 res.2.2.2.2.2.2.2.2.1 res.2.2.2.2.2.2.2.2.2.1 a_told f_read f_side a_pile res.2.2.2.2.2.2.2.2.2.2.1 a_open f_opened f_joins res.2.2.2.2.2.2.2.2.2.2.2.1 a_size a_capped a_connected a_bestCost a_bestCrosses a_bestPart a_part a_trees f_treeMany a_nodes f_nodeMany f_moveNode f_movePart f_moveFirst f_moveThen f_moveOther a_out f_outMany a_kept), (a_all, aI G 1276 g_all), (a_pile, aI G 502 res.2.2.2.2.2.2.2.2.2.2.2.2), (a_text, aB G 2000 g_text)] res.1 := by
  refine entZ (by decide) (Nat.le_of_ble_eq_true rfl) ?_
  intro p e s m args below meth c ls A Q hx hb hml hown htl hK hsk wq hl hret
  obtain ⟨hP, hD, hS⟩ := wq
  have hl : lv_has ls 2 [(0, .ref h0)] := hl
  have hS : va_S A s.heap s.heap [] := hS
  obtain ⟨H, hH⟩ : ∃ H : Heap, H = s.heap := ⟨_, rfl⟩
  obtain ⟨locs, hlocs⟩ : ∃ z : List Loc, z = [] := ⟨_, rfl⟩
  rw [← hH] at hP
  replace hS : va_S A s.heap H locs := by rw [hH, hlocs]; exact hS
  suffices hgo : W p l e (rmk 2) s m args below meth c H locs 0 0 Q (F0 m 0 ls []) by rw [hH, hlocs] at hgo; exact hgo
  have hJ74 : ∀ (f_reached : Int32) (f_begin : Int32) (f_sort : Int32) (f_sign : Int32) (f_value : Int32) (f_word : Int64) (f_wrongAt : Int32) (f_badAt : Int32) (f_bad : Int32) (f_piled : Int32) (f_had : Int32) (g_pile : Nat → Int32) (x1 : Int32) (H : Heap) (locs : List Loc) (ls : Array Slot), PDS G.1 classes A s [(h0, O_R f_raised a_all a_text a_saved a_undone f_undos f_reached f_length f_begin f_sort f_sign f_value f_word f_wrongAt f_badAt f_bad a_told f_read f_side a_pile f_piled a_open f_opened f_joins f_had a_size a_capped a_connected a_bestCost a_bestCrosses a_bestPart a_part a_trees f_treeMany a_nodes f_nodeMany f_moveNode f_movePart f_moveFirst f_moveThen f_moveOther a_out f_outMany a_kept), (a_all, aI G 1276 g_all), (a_pile, aI G 502 g_pile), (a_text, aB G 2000 g_text)] H locs → lv_has ls 2 [(0, .ref h0), (1, .int x1)] → R_takesNumber_74 N f_reached f_length f_begin f_sort f_sign f_value f_word f_wrongAt f_badAt f_bad f_piled f_had g_all g_pile g_text x1 = some res → W p l e (rmk 2) s m args below meth c H locs 0 0 Q (F0 m 74 ls []) := by
    intro f_reached f_begin f_sort f_sign f_value f_word f_wrongAt f_badAt f_bad f_piled f_had g_pile x1 H locs ls wq hl hf
    obtain ⟨hP, hD, hS⟩ := wq
    refine lv_aload_n hx hb d_R_takesNumber_74 rfl (lv_at hl 0 rfl) ?_
    refine lv_dup hx hb d_R_takesNumber_75 rfl ?_
    refine va_get (D := G.1) (ci := 12) (v := .int f_had) (C := n_R) (T := T_R) (N := 44) hx hb htl iw_R hown hK hP 0 rfl rfl 24 (by decide) (htl _ k_1220) (fun _ h9 => h9) rfl d_R_takesNumber_76 ?_
    refine lv_iload_n hx hb d_R_takesNumber_79 rfl (lv_at hl 1 rfl) ?_
    refine lv_ior hx hb d_R_takesNumber_80 ?_
    refine lv_topi (fun v12 ev12 => ?_)
    have hf := dn_e ev12 hf
    refine va_put (D := G.1) (ci := 12) (v := .int v12) (ty := .int) (C := n_R) (T := T_R) (N := 44) hx hb htl iw_R ty_R ty_R_ok nm_R hown hK hP hD hS 0 rfl rfl 24 (by decide) (htl _ k_1220) (fun _ h9 => h9) rfl (by decide +kernel) rfl rfl (Nat.le_of_ble_eq_true rfl) d_R_takesNumber_81 (fun H locs hP hD hS => ?_)
    have hP : va_P G.1 classes [(h0, O_R f_raised a_all a_text a_saved a_undone f_undos f_reached f_length f_begin f_sort f_sign f_value f_word f_wrongAt f_badAt f_bad a_told f_read f_side a_pile f_piled a_open f_opened f_joins v12 a_size a_capped a_connected a_bestCost a_bestCrosses a_bestPart a_part a_trees f_treeMany a_nodes f_nodeMany f_moveNode f_movePart f_moveFirst f_moveThen f_moveOther a_out f_outMany a_kept), (a_all, aI G 1276 g_all), (a_pile, aI G 502 g_pile), (a_text, aB G 2000 g_text)] H := hP
    have hD : va_D A [(h0, O_R f_raised a_all a_text a_saved a_undone f_undos f_reached f_length f_begin f_sort f_sign f_value f_word f_wrongAt f_badAt f_bad a_told f_read f_side a_pile f_piled a_open f_opened f_joins v12 a_size a_capped a_connected a_bestCost a_bestCrosses a_bestPart a_part a_trees f_treeMany a_nodes f_nodeMany f_moveNode f_movePart f_moveFirst f_moveThen f_moveOther a_out f_outMany a_kept), (a_all, aI G 1276 g_all), (a_pile, aI G 502 g_pile), (a_text, aB G 2000 g_text)] := hD
    refine lv_aload_n hx hb d_R_takesNumber_84 rfl (lv_at hl 0 rfl) ?_
    refine lv_iload_n hx hb d_R_takesNumber_85 rfl (lv_at hl 1 rfl) ?_
    obtain ⟨t13, hv14, hf⟩ := db_e hf
    refine call_v (isC := [0, 2]) (run_V (As := [.int x1]) (rest := []) (ci := 12) (q0 := 0) hx hb hml hown htl (c_R_puts l G Y  h0 a_all a_text a_saved a_undone a_told a_pile a_open a_size a_capped a_connected a_bestCost a_bestCrosses a_bestPart a_part a_trees a_nodes a_out a_kept f_raised f_undos f_reached f_length f_begin f_sort f_sign f_value f_word f_wrongAt f_badAt f_bad f_read f_side f_piled f_opened f_joins v12 f_treeMany f_nodeMany f_moveNode f_movePart f_moveFirst f_moveThen f_moveOther f_outMany g_pile x1 t13 hv14) mv_R_puts k_1419 (hRk (by decide) (by decide)) hK hsk hS hP hD (isC := [0, 2]) rfl (by decide) rfl rfl rfl hl.1 rfl (lv_room (Nat.le_of_ble_eq_true rfl)) d_R_takesNumber_86) hP hD hS rfl rfl (fun H locs hP hD hS => ?_)
    have hP : va_P G.1 classes [(h0, O_R f_raised a_all a_text a_saved a_undone f_undos f_reached f_length f_begin f_sort f_sign f_value f_word f_wrongAt f_badAt f_bad a_told f_read f_side a_pile t13.1 a_open f_opened f_joins v12 a_size a_capped a_connected a_bestCost a_bestCrosses a_bestPart a_part a_trees f_treeMany a_nodes f_nodeMany f_moveNode f_movePart f_moveFirst f_moveThen f_moveOther a_out f_outMany a_kept), (a_all, aI G 1276 g_all), (a_pile, aI G 502 t13.2), (a_text, aB G 2000 g_text)] H := hP
    have hD : va_D A [(h0, O_R f_raised a_all a_text a_saved a_undone f_undos f_reached f_length f_begin f_sort f_sign f_value f_word f_wrongAt f_badAt f_bad a_told f_read f_side a_pile t13.1 a_open f_opened f_joins v12 a_size a_capped a_connected a_bestCost a_bestCrosses a_bestPart a_part a_trees f_treeMany a_nodes f_nodeMany f_moveNode f_movePart f_moveFirst f_moveThen f_moveOther a_out f_outMany a_kept), (a_all, aI G 1276 g_all), (a_pile, aI G 502 t13.2), (a_text, aB G 2000 g_text)] := hD
    refine lv_aload_n hx hb d_R_takesNumber_89 rfl (lv_at hl 0 rfl) ?_
    obtain ⟨t15, hv16, hf⟩ := db_e hf
    refine call_v (isC := [0, 3]) (run_V (As := []) (rest := []) (ci := 12) (q0 := 0) hx hb hml hown htl (c_R_token l G Y  h0 a_all a_text a_saved a_undone a_told a_pile a_open a_size a_capped a_connected a_bestCost a_bestCrosses a_bestPart a_part a_trees a_nodes a_out a_kept f_raised f_undos f_reached f_length f_begin f_sort f_sign f_value f_word f_wrongAt f_badAt f_bad f_read f_side t13.1 f_opened f_joins v12 f_treeMany f_nodeMany f_moveNode f_movePart f_moveFirst f_moveThen f_moveOther f_outMany g_text N t15 hv16) mv_R_token k_1346 (hRk (by decide) (by decide)) hK hsk hS hP hD (isC := [0, 3]) rfl (by decide) rfl rfl rfl hl.1 rfl (lv_room (Nat.le_of_ble_eq_true rfl)) d_R_takesNumber_90) hP hD hS rfl rfl (fun H locs hP hD hS => ?_)
    have hP : va_P G.1 classes [(h0, O_R f_raised a_all a_text a_saved a_undone f_undos t15.1 f_length t15.2.1 t15.2.2.1 t15.2.2.2.1 t15.2.2.2.2.1 t15.2.2.2.2.2 f_wrongAt f_badAt f_bad a_told f_read f_side a_pile t13.1 a_open f_opened f_joins v12 a_size a_capped a_connected a_bestCost a_bestCrosses a_bestPart a_part a_trees f_treeMany a_nodes f_nodeMany f_moveNode f_movePart f_moveFirst f_moveThen f_moveOther a_out f_outMany a_kept), (a_all, aI G 1276 g_all), (a_pile, aI G 502 t13.2), (a_text, aB G 2000 g_text)] H := hP
    have hD : va_D A [(h0, O_R f_raised a_all a_text a_saved a_undone f_undos t15.1 f_length t15.2.1 t15.2.2.1 t15.2.2.2.1 t15.2.2.2.2.1 t15.2.2.2.2.2 f_wrongAt f_badAt f_bad a_told f_read f_side a_pile t13.1 a_open f_opened f_joins v12 a_size a_capped a_connected a_bestCost a_bestCrosses a_bestPart a_part a_trees f_treeMany a_nodes f_nodeMany f_moveNode f_movePart f_moveFirst f_moveThen f_moveOther a_out f_outMany a_kept), (a_all, aI G 1276 g_all), (a_pile, aI G 502 t13.2), (a_text, aB G 2000 g_text)] := hD
    refine lv_iconst (v := (1 : Int32)) hx hb d_R_takesNumber_93 (by decide) ?_
    cases hf
    exact hret 94 ls H locs z_1 hP hS d_R_takesNumber_94
  refine lv_aload_n hx hb d_R_takesNumber_0 rfl (lv_at hl 0 rfl) ?_
  refine va_get (D := G.1) (ci := 12) (v := .int f_sort) (C := n_R) (T := T_R) (N := 44) hx hb htl iw_R hown hK hP 0 rfl rfl 9 (by decide) (htl _ k_1205) (fun _ h9 => h9) rfl d_R_takesNumber_1 ?_
  refine lv_iconst (v := (3 : Int32)) hx hb d_R_takesNumber_4 (by decide) ?_
  refine lv_icmp_eq (tgt := 13) hx hb d_R_takesNumber_5 (by decide) (fun c1 => ?_) (fun c1 => ?_)
  · have hf := di_t c1 hf
    refine lv_iconst (v := (0 : Int32)) hx hb d_R_takesNumber_13 (by decide) ?_
    refine lv_istore_n (lv' := [(1, .int (0 : Int32)), (0, .ref h0)]) hx hb d_R_takesNumber_14 rfl hl (by decide) rfl (fun ls hl => ?_)
    refine lv_aload_n hx hb d_R_takesNumber_15 rfl (lv_at hl 1 rfl) ?_
    refine va_get (D := G.1) (ci := 12) (v := .int f_value) (C := n_R) (T := T_R) (N := 44) hx hb htl iw_R hown hK hP 0 rfl rfl 11 (by decide) (htl _ k_1207) (fun _ h9 => h9) rfl d_R_takesNumber_16 ?_
    refine lv_aload_n hx hb d_R_takesNumber_19 rfl (lv_at hl 1 rfl) ?_
    refine va_get (D := G.1) (ci := 12) (v := .ref a_all) (C := n_R) (T := T_R) (N := 44) hx hb htl iw_R hown hK hP 0 rfl rfl 1 (by decide) (htl _ k_1197) (fun _ h9 => h9) rfl d_R_takesNumber_20 ?_
    refine lv_iconst (v := (0 : Int32)) hx hb d_R_takesNumber_23 (by decide) ?_
    refine va_iald hx hb hK hP 1 1 rfl rfl (vp_lit (by decide)) d_R_takesNumber_24 ?_
    refine lv_icmp_lt (tgt := 40) hx hb d_R_takesNumber_25 (by decide) (fun c2 => ?_) (fun c2 => ?_)
    · have hf := di_t c2 hf
      refine lv_aload_n hx hb d_R_takesNumber_40 rfl (lv_at hl 1 rfl) ?_
      refine va_get (D := G.1) (ci := 12) (v := .int f_had) (C := n_R) (T := T_R) (N := 44) hx hb htl iw_R hown hK hP 0 rfl rfl 24 (by decide) (htl _ k_1220) (fun _ h9 => h9) rfl d_R_takesNumber_41 ?_
      refine lv_aload_n hx hb d_R_takesNumber_44 rfl (lv_at hl 1 rfl) ?_
      refine va_get (D := G.1) (ci := 12) (v := .int f_value) (C := n_R) (T := T_R) (N := 44) hx hb htl iw_R hown hK hP 0 rfl rfl 11 (by decide) (htl _ k_1207) (fun _ h9 => h9) rfl d_R_takesNumber_45 ?_
      refine lv_ishr hx hb d_R_takesNumber_48 ?_
      refine lv_iconst (v := (1 : Int32)) hx hb d_R_takesNumber_49 (by decide) ?_
      refine lv_iand hx hb d_R_takesNumber_50 ?_
      refine lv_iconst (v := (1 : Int32)) hx hb d_R_takesNumber_51 (by decide) ?_
      refine lv_icmp_ne (tgt := 67) hx hb d_R_takesNumber_52 (by decide) (fun c3 => ?_) (fun c3 => ?_)
      · have hf := di_f c3 hf
        refine lv_iconst (v := (1 : Int32)) hx hb d_R_takesNumber_67 (by decide) ?_
        refine lv_aload_n hx hb d_R_takesNumber_68 rfl (lv_at hl 1 rfl) ?_
        refine va_get (D := G.1) (ci := 12) (v := .int f_value) (C := n_R) (T := T_R) (N := 44) hx hb htl iw_R hown hK hP 0 rfl rfl 11 (by decide) (htl _ k_1207) (fun _ h9 => h9) rfl d_R_takesNumber_69 ?_
        refine lv_ishl hx hb d_R_takesNumber_72 ?_
        refine lv_topi (fun v4 ev4 => ?_)
        have hf := dn_e ev4 hf
        refine lv_istore_n (lv' := [(1, .int v4), (0, .ref h0)]) hx hb d_R_takesNumber_73 rfl hl (by decide) rfl (fun ls hl => ?_)
        exact hJ74 f_reached f_begin f_sort f_sign f_value f_word f_wrongAt f_badAt f_bad f_piled f_had g_pile v4 H locs ls ⟨hP, hD, hS⟩ (lv_sub hl [1, 0] rfl) hf
      · have hf := di_t c3 hf
        refine lv_aload_n hx hb d_R_takesNumber_55 rfl (lv_at hl 1 rfl) ?_
        refine lv_iconst (v := (3 : Int32)) hx hb d_R_takesNumber_56 (by decide) ?_
        refine lv_aload_n hx hb d_R_takesNumber_57 rfl (lv_at hl 1 rfl) ?_
        refine va_get (D := G.1) (ci := 12) (v := .int f_begin) (C := n_R) (T := T_R) (N := 44) hx hb htl iw_R hown hK hP 0 rfl rfl 8 (by decide) (htl _ k_1204) (fun _ h9 => h9) rfl d_R_takesNumber_58 ?_
        obtain ⟨t5, hv6, hf⟩ := db_e hf
        refine call_v (isC := [0]) (run_V (As := [.int (3 : Int32), .int f_begin]) (rest := []) (ci := 12) (q0 := 0) hx hb hml hown htl (c_R_isBad l G Y  h0 a_all a_text a_saved a_undone a_told a_pile a_open a_size a_capped a_connected a_bestCost a_bestCrosses a_bestPart a_part a_trees a_nodes a_out a_kept f_raised f_undos f_reached f_length f_begin f_sort f_sign f_value f_word f_wrongAt f_badAt f_bad f_read f_side f_piled f_opened f_joins f_had f_treeMany f_nodeMany f_moveNode f_movePart f_moveFirst f_moveThen f_moveOther f_outMany (3 : Int32) f_begin t5 hv6) mv_R_isBad k_1370 (hRk (by decide) (by decide)) hK hsk hS hP hD (isC := [0]) rfl (by decide) rfl rfl rfl hl.1 rfl (lv_room (Nat.le_of_ble_eq_true rfl)) d_R_takesNumber_61) hP hD hS rfl rfl (fun H locs hP hD hS => ?_)
        have hP : va_P G.1 classes [(h0, O_R f_raised a_all a_text a_saved a_undone f_undos f_reached f_length f_begin f_sort f_sign f_value f_word f_wrongAt t5.1 t5.2 a_told f_read f_side a_pile f_piled a_open f_opened f_joins f_had a_size a_capped a_connected a_bestCost a_bestCrosses a_bestPart a_part a_trees f_treeMany a_nodes f_nodeMany f_moveNode f_movePart f_moveFirst f_moveThen f_moveOther a_out f_outMany a_kept), (a_all, aI G 1276 g_all), (a_pile, aI G 502 g_pile), (a_text, aB G 2000 g_text)] H := hP
        have hD : va_D A [(h0, O_R f_raised a_all a_text a_saved a_undone f_undos f_reached f_length f_begin f_sort f_sign f_value f_word f_wrongAt t5.1 t5.2 a_told f_read f_side a_pile f_piled a_open f_opened f_joins f_had a_size a_capped a_connected a_bestCost a_bestCrosses a_bestPart a_part a_trees f_treeMany a_nodes f_nodeMany f_moveNode f_movePart f_moveFirst f_moveThen f_moveOther a_out f_outMany a_kept), (a_all, aI G 1276 g_all), (a_pile, aI G 502 g_pile), (a_text, aB G 2000 g_text)] := hD
        refine lv_goto (tgt := 74) hx hb d_R_takesNumber_64 (by decide) ?_
        exact hJ74 f_reached f_begin f_sort f_sign f_value f_word f_wrongAt t5.1 t5.2 f_piled f_had g_pile (0 : Int32) H locs ls ⟨hP, hD, hS⟩ (lv_sub hl [1, 0] rfl) hf
    · have hf := di_f c2 hf
      refine lv_aload_n hx hb d_R_takesNumber_28 rfl (lv_at hl 1 rfl) ?_
      refine lv_iconst (v := (2 : Int32)) hx hb d_R_takesNumber_29 (by decide) ?_
      refine lv_aload_n hx hb d_R_takesNumber_30 rfl (lv_at hl 1 rfl) ?_
      refine va_get (D := G.1) (ci := 12) (v := .int f_begin) (C := n_R) (T := T_R) (N := 44) hx hb htl iw_R hown hK hP 0 rfl rfl 8 (by decide) (htl _ k_1204) (fun _ h9 => h9) rfl d_R_takesNumber_31 ?_
      obtain ⟨t7, hv8, hf⟩ := db_e hf
      refine call_v (isC := [0]) (run_V (As := [.int (2 : Int32), .int f_begin]) (rest := []) (ci := 12) (q0 := 0) hx hb hml hown htl (c_R_isBad l G Y  h0 a_all a_text a_saved a_undone a_told a_pile a_open a_size a_capped a_connected a_bestCost a_bestCrosses a_bestPart a_part a_trees a_nodes a_out a_kept f_raised f_undos f_reached f_length f_begin f_sort f_sign f_value f_word f_wrongAt f_badAt f_bad f_read f_side f_piled f_opened f_joins f_had f_treeMany f_nodeMany f_moveNode f_movePart f_moveFirst f_moveThen f_moveOther f_outMany (2 : Int32) f_begin t7 hv8) mv_R_isBad k_1370 (hRk (by decide) (by decide)) hK hsk hS hP hD (isC := [0]) rfl (by decide) rfl rfl rfl hl.1 rfl (lv_room (Nat.le_of_ble_eq_true rfl)) d_R_takesNumber_34) hP hD hS rfl rfl (fun H locs hP hD hS => ?_)
      have hP : va_P G.1 classes [(h0, O_R f_raised a_all a_text a_saved a_undone f_undos f_reached f_length f_begin f_sort f_sign f_value f_word f_wrongAt t7.1 t7.2 a_told f_read f_side a_pile f_piled a_open f_opened f_joins f_had a_size a_capped a_connected a_bestCost a_bestCrosses a_bestPart a_part a_trees f_treeMany a_nodes f_nodeMany f_moveNode f_movePart f_moveFirst f_moveThen f_moveOther a_out f_outMany a_kept), (a_all, aI G 1276 g_all), (a_pile, aI G 502 g_pile), (a_text, aB G 2000 g_text)] H := hP
      have hD : va_D A [(h0, O_R f_raised a_all a_text a_saved a_undone f_undos f_reached f_length f_begin f_sort f_sign f_value f_word f_wrongAt t7.1 t7.2 a_told f_read f_side a_pile f_piled a_open f_opened f_joins f_had a_size a_capped a_connected a_bestCost a_bestCrosses a_bestPart a_part a_trees f_treeMany a_nodes f_nodeMany f_moveNode f_movePart f_moveFirst f_moveThen f_moveOther a_out f_outMany a_kept), (a_all, aI G 1276 g_all), (a_pile, aI G 502 g_pile), (a_text, aB G 2000 g_text)] := hD
      refine lv_goto (tgt := 74) hx hb d_R_takesNumber_37 (by decide) ?_
      exact hJ74 f_reached f_begin f_sort f_sign f_value f_word f_wrongAt t7.1 t7.2 f_piled f_had g_pile (0 : Int32) H locs ls ⟨hP, hD, hS⟩ (lv_sub hl [1, 0] rfl) hf
  · have hf := di_f c1 hf
    refine lv_aload_n hx hb d_R_takesNumber_8 rfl (lv_at hl 0 rfl) ?_
    obtain ⟨t9, hv10, hf⟩ := db_e hf
    refine call_i (isC := [0]) (run_V (As := []) (rest := []) (ci := 12) (q0 := 0) hx hb hml hown htl (c_R_fails l G Y  h0 a_all a_text a_saved a_undone a_told a_pile a_open a_size a_capped a_connected a_bestCost a_bestCrosses a_bestPart a_part a_trees a_nodes a_out a_kept f_raised f_undos f_reached f_length f_begin f_sort f_sign f_value f_word f_wrongAt f_badAt f_bad f_read f_side f_piled f_opened f_joins f_had f_treeMany f_nodeMany f_moveNode f_movePart f_moveFirst f_moveThen f_moveOther f_outMany t9 hv10) mv_R_fails k_1379 (hRk (by decide) (by decide)) hK hsk hS hP hD (isC := [0]) rfl (by decide) rfl rfl rfl hl.1 rfl (lv_room (Nat.le_of_ble_eq_true rfl)) d_R_takesNumber_9) hP hD hS rfl rfl (fun H locs hP hD hS => ?_)
    have hP : va_P G.1 classes [(h0, O_R f_raised a_all a_text a_saved a_undone f_undos f_reached f_length f_begin f_sort f_sign f_value f_word t9.2 f_badAt f_bad a_told f_read f_side a_pile f_piled a_open f_opened f_joins f_had a_size a_capped a_connected a_bestCost a_bestCrosses a_bestPart a_part a_trees f_treeMany a_nodes f_nodeMany f_moveNode f_movePart f_moveFirst f_moveThen f_moveOther a_out f_outMany a_kept), (a_all, aI G 1276 g_all), (a_pile, aI G 502 g_pile), (a_text, aB G 2000 g_text)] H := hP
    have hD : va_D A [(h0, O_R f_raised a_all a_text a_saved a_undone f_undos f_reached f_length f_begin f_sort f_sign f_value f_word t9.2 f_badAt f_bad a_told f_read f_side a_pile f_piled a_open f_opened f_joins f_had a_size a_capped a_connected a_bestCost a_bestCrosses a_bestPart a_part a_trees f_treeMany a_nodes f_nodeMany f_moveNode f_movePart f_moveFirst f_moveThen f_moveOther a_out f_outMany a_kept), (a_all, aI G 1276 g_all), (a_pile, aI G 502 g_pile), (a_text, aB G 2000 g_text)] := hD
    obtain ⟨c11, hf⟩ := dk_e hf
    cases hf
    exact hret 12 ls H locs c11 hP hS d_R_takesNumber_12
set_option maxHeartbeats 4000000 in
set_option maxRecDepth 100000 in
theorem c_R_isAheadOf (l : Launch) (G : va_G × (Nat → ClassId)) (Y : (Nat → Nat) × (Nat → Nat)) (x0 : Int32) (x1 : Int32) (res : Int32) (hf : R_isAheadOf x0 x1 = res) : Ci l classes y_R_isAheadOf b_R_isAheadOf 2 (some .boolean) (rmk 1) G.1 (tyL G) Y [.int x0, .int x1] [] [] res := by
  refine entZ (by decide) (Nat.le_of_ble_eq_true rfl) ?_
  intro p e s m args below meth c ls A Q hx hb hml hown htl hK hsk wq hl hret
  obtain ⟨hP, hD, hS⟩ := wq
  have hl : lv_has ls 2 [(0, .int x0), (1, .int x1)] := hl
  have hS : va_S A s.heap s.heap [] := hS
  obtain ⟨H, hH⟩ : ∃ H : Heap, H = s.heap := ⟨_, rfl⟩
  obtain ⟨locs, hlocs⟩ : ∃ z : List Loc, z = [] := ⟨_, rfl⟩
  rw [← hH] at hP
  replace hS : va_S A s.heap H locs := by rw [hH, hlocs]; exact hS
  suffices hgo : W p l e (rmk 1) s m args below meth c H locs 0 0 Q (F0 m 0 ls []) by rw [hH, hlocs] at hgo; exact hgo
  refine lv_iload_n hx hb d_R_isAheadOf_0 rfl (lv_at hl 0 rfl) ?_
  refine lv_iload_n hx hb d_R_isAheadOf_1 rfl (lv_at hl 1 rfl) ?_
  refine lv_ior hx hb d_R_isAheadOf_2 ?_
  refine call_i (isC := []) (run_S (As := [.int (x0 ||| x1)]) (rest := []) hx hb hml hown htl (c_R_least l G Y  (x0 ||| x1) _ rfl) ms_R_least k_1434 (hRk (by decide) (by decide)) hK hsk hS hP hD (isC := []) rfl (by decide) rfl hl.1 rfl (lv_room (Nat.le_of_ble_eq_true rfl)) d_R_isAheadOf_3) hP hD hS rfl rfl (fun H locs hP hD hS => ?_)
  have hP : va_P G.1 classes [] H := hP
  have hD : va_D A [] := hD
  refine lv_iload_n hx hb d_R_isAheadOf_6 rfl (lv_at hl 0 rfl) ?_
  refine call_i (isC := []) (run_S (As := [.int x0]) (rest := [.int (R_least (x0 ||| x1))]) hx hb hml hown htl (c_R_least l G Y  x0 _ rfl) ms_R_least k_1434 (hRk (by decide) (by decide)) hK hsk hS hP hD (isC := []) rfl (by decide) rfl hl.1 rfl (lv_room (Nat.le_of_ble_eq_true rfl)) d_R_isAheadOf_7) hP hD hS rfl rfl (fun H locs hP hD hS => ?_)
  have hP : va_P G.1 classes [] H := hP
  have hD : va_D A [] := hD
  refine lv_icmp_ne (tgt := 17) hx hb d_R_isAheadOf_10 (by decide) (fun c1 => ?_) (fun c1 => ?_)
  · have hf := di_f c1 hf
    refine lv_iconst (v := (0 : Int32)) hx hb d_R_isAheadOf_17 (by decide) ?_
    cases hf
    exact hret 18 ls H locs z_0 hP hS d_R_isAheadOf_18
  · have hf := di_t c1 hf
    refine lv_iconst (v := (1 : Int32)) hx hb d_R_isAheadOf_13 (by decide) ?_
    refine lv_goto (tgt := 18) hx hb d_R_isAheadOf_14 (by decide) ?_
    cases hf
    exact hret 18 ls H locs z_1 hP hS d_R_isAheadOf_18
set_option maxHeartbeats 4000000 in
set_option maxRecDepth 100000 in
theorem c_R_joinsTwo (l : Launch) (G : va_G × (Nat → ClassId)) (Y : (Nat → Nat) × (Nat → Nat)) (h0 : Nat) (a_all : Nat) (a_text : Nat) (a_saved : Nat) (a_undone : Nat) (a_told : Nat) (a_pile : Nat) (a_open : Nat) (a_size : Nat) (a_capped : Nat) (a_connected : Nat) (a_bestCost : Nat) (a_bestCrosses : Nat) (a_bestPart : Nat) (a_part : Nat) (a_trees : Nat) (a_nodes : Nat) (a_out : Nat) (a_kept : Nat) (f_raised : Int32) (f_undos : Int32) (f_reached : Int32) (f_length : Int32) (f_begin : Int32) (f_sort : Int32) (f_sign : Int32) (f_value : Int32) (f_word : Int64) (f_wrongAt : Int32) (f_badAt : Int32) (f_bad : Int32) (f_read : Int32) (f_side : Int32) (f_piled : Int32) (f_opened : Int32) (f_joins : Int32) (f_had : Int32) (f_treeMany : Int32) (f_nodeMany : Int32) (f_moveNode : Int32) (f_movePart : Int32) (f_moveFirst : Int32) (f_moveThen : Int32) (f_moveOther : Int32) (f_outMany : Int32) (g_pile : Nat → Int32) (g_told : Nat → Int32) (res : Int32 × Int32 × (Nat → Int32) × (Nat → Int32)) (hf : R_joinsTwo f_piled f_joins g_pile g_told = some res) : Cv l classes y_R_joinsTwo b_R_joinsTwo 3 none (rmk 2) G.1 (tyL G) Y [.ref h0] [(h0, O_R f_raised a_all a_text a_saved a_undone f_undos f_reached f_length f_begin f_sort f_sign f_value f_word f_wrongAt f_badAt f_bad a_told f_read f_side a_pile f_piled a_open f_opened f_joins f_had a_size a_capped a_connected a_bestCost a_bestCrosses a_bestPart a_part a_trees f_treeMany a_nodes f_nodeMany f_moveNode f_movePart f_moveFirst f_moveThen f_moveOther a_out f_outMany a_kept), (a_pile, aI G 502 g_pile), (a_told, aI G 316 g_told)] [(h0, O_R f_raised a_all a_text a_saved a_undone f_undos f_reached f_length f_begin f_sort f_sign f_value f_word f_wrongAt f_badAt f_bad a_told f_read f_side a_pile res.1 a_open f_opened res.2.1 f_had a_size a_capped a_connected a_bestCost a_bestCrosses a_bestPart a_part a_trees f_treeMany a_nodes f_nodeMany f_moveNode f_movePart f_moveFirst f_moveThen f_moveOther a_out f_outMany a_kept), (a_pile, aI G 502 res.2.2.1), (a_told, aI G 316 res.2.2.2)] := by
  refine entV (by decide) (Nat.le_of_ble_eq_true rfl) ?_
  intro p e s m args below meth c ls A Q hx hb hml hown htl hK hsk wq hl hret
  obtain ⟨hP, hD, hS⟩ := wq
  have hl : lv_has ls 3 [(0, .ref h0)] := hl
  have hS : va_S A s.heap s.heap [] := hS
  obtain ⟨H, hH⟩ : ∃ H : Heap, H = s.heap := ⟨_, rfl⟩
  obtain ⟨locs, hlocs⟩ : ∃ z : List Loc, z = [] := ⟨_, rfl⟩
  rw [← hH] at hP
  replace hS : va_S A s.heap H locs := by rw [hH, hlocs]; exact hS
  suffices hgo : W p l e (rmk 2) s m args below meth c H locs 0 0 Q (F0 m 0 ls []) by rw [hH, hlocs] at hgo; exact hgo
  have hJ55 : ∀ (f_piled : Int32) (f_joins : Int32) (g_pile : Nat → Int32) (g_told : Nat → Int32) (x1 : Int32) (x2 : Int32) (z1 : Int32) (z2 : Int32) (H : Heap) (locs : List Loc) (ls : Array Slot), PDS G.1 classes A s [(h0, O_R f_raised a_all a_text a_saved a_undone f_undos f_reached f_length f_begin f_sort f_sign f_value f_word f_wrongAt f_badAt f_bad a_told f_read f_side a_pile f_piled a_open f_opened f_joins f_had a_size a_capped a_connected a_bestCost a_bestCrosses a_bestPart a_part a_trees f_treeMany a_nodes f_nodeMany f_moveNode f_movePart f_moveFirst f_moveThen f_moveOther a_out f_outMany a_kept), (a_pile, aI G 502 g_pile), (a_told, aI G 316 g_told)] H locs → lv_has ls 3 [(0, .ref h0), (1, .int x1), (2, .int x2)] → R_joinsTwo_55 f_piled f_joins g_pile g_told x1 x2 z1 z2 = some res → W p l e (rmk 2) s m args below meth c H locs 0 0 Q (F0 m 55 ls [.int z2, .int z1, .ref a_told]) := by
    intro f_piled f_joins g_pile g_told x1 x2 z1 z2 H locs ls wq hl hf
    obtain ⟨hP, hD, hS⟩ := wq
    obtain ⟨c7, hf⟩ := dk_e hf
    refine nx_iast hx hb hK hP hD hS 2 1 rfl rfl c7 d_R_joinsTwo_55 (fun v8 ev8 H locs hP hD hS => ?_)
    have hf := dn_e ev8 hf
    have hP : va_P G.1 classes [(h0, O_R f_raised a_all a_text a_saved a_undone f_undos f_reached f_length f_begin f_sort f_sign f_value f_word f_wrongAt f_badAt f_bad a_told f_read f_side a_pile f_piled a_open f_opened f_joins f_had a_size a_capped a_connected a_bestCost a_bestCrosses a_bestPart a_part a_trees f_treeMany a_nodes f_nodeMany f_moveNode f_movePart f_moveFirst f_moveThen f_moveOther a_out f_outMany a_kept), (a_pile, aI G 502 g_pile), (a_told, aI G 316 v8)] H := hP
    have hD : va_D A [(h0, O_R f_raised a_all a_text a_saved a_undone f_undos f_reached f_length f_begin f_sort f_sign f_value f_word f_wrongAt f_badAt f_bad a_told f_read f_side a_pile f_piled a_open f_opened f_joins f_had a_size a_capped a_connected a_bestCost a_bestCrosses a_bestPart a_part a_trees f_treeMany a_nodes f_nodeMany f_moveNode f_movePart f_moveFirst f_moveThen f_moveOther a_out f_outMany a_kept), (a_pile, aI G 502 g_pile), (a_told, aI G 316 v8)] := hD
    refine lv_aload_n hx hb d_R_joinsTwo_56 rfl (lv_at hl 0 rfl) ?_
    refine lv_dup hx hb d_R_joinsTwo_57 rfl ?_
    refine va_get (D := G.1) (ci := 12) (v := .int f_joins) (C := n_R) (T := T_R) (N := 44) hx hb htl iw_R hown hK hP 0 rfl rfl 23 (by decide) (htl _ k_1219) (fun _ h9 => h9) rfl d_R_joinsTwo_58 ?_
    refine lv_iconst (v := (1 : Int32)) hx hb d_R_joinsTwo_61 (by decide) ?_
    refine lv_iadd hx hb d_R_joinsTwo_62 ?_
    refine lv_topi (fun v9 ev9 => ?_)
    have hf := dn_e ev9 hf
    refine va_put (D := G.1) (ci := 12) (v := .int v9) (ty := .int) (C := n_R) (T := T_R) (N := 44) hx hb htl iw_R ty_R ty_R_ok nm_R hown hK hP hD hS 0 rfl rfl 23 (by decide) (htl _ k_1219) (fun _ h9 => h9) rfl (by decide +kernel) rfl rfl (Nat.le_of_ble_eq_true rfl) d_R_joinsTwo_63 (fun H locs hP hD hS => ?_)
    have hP : va_P G.1 classes [(h0, O_R f_raised a_all a_text a_saved a_undone f_undos f_reached f_length f_begin f_sort f_sign f_value f_word f_wrongAt f_badAt f_bad a_told f_read f_side a_pile f_piled a_open f_opened v9 f_had a_size a_capped a_connected a_bestCost a_bestCrosses a_bestPart a_part a_trees f_treeMany a_nodes f_nodeMany f_moveNode f_movePart f_moveFirst f_moveThen f_moveOther a_out f_outMany a_kept), (a_pile, aI G 502 g_pile), (a_told, aI G 316 v8)] H := hP
    have hD : va_D A [(h0, O_R f_raised a_all a_text a_saved a_undone f_undos f_reached f_length f_begin f_sort f_sign f_value f_word f_wrongAt f_badAt f_bad a_told f_read f_side a_pile f_piled a_open f_opened v9 f_had a_size a_capped a_connected a_bestCost a_bestCrosses a_bestPart a_part a_trees f_treeMany a_nodes f_nodeMany f_moveNode f_movePart f_moveFirst f_moveThen f_moveOther a_out f_outMany a_kept), (a_pile, aI G 502 g_pile), (a_told, aI G 316 v8)] := hD
    refine lv_aload_n hx hb d_R_joinsTwo_66 rfl (lv_at hl 0 rfl) ?_
    refine lv_iload_n hx hb d_R_joinsTwo_67 rfl (lv_at hl 1 rfl) ?_
    refine lv_iload_n hx hb d_R_joinsTwo_68 rfl (lv_at hl 2 rfl) ?_
    refine lv_ior hx hb d_R_joinsTwo_69 ?_
    obtain ⟨t10, hv11, hf⟩ := db_e hf
    refine call_v (isC := [0, 1]) (run_V (As := [.int (x1 ||| x2)]) (rest := []) (ci := 12) (q0 := 0) hx hb hml hown htl (c_R_puts l G Y  h0 a_all a_text a_saved a_undone a_told a_pile a_open a_size a_capped a_connected a_bestCost a_bestCrosses a_bestPart a_part a_trees a_nodes a_out a_kept f_raised f_undos f_reached f_length f_begin f_sort f_sign f_value f_word f_wrongAt f_badAt f_bad f_read f_side f_piled f_opened v9 f_had f_treeMany f_nodeMany f_moveNode f_movePart f_moveFirst f_moveThen f_moveOther f_outMany g_pile (x1 ||| x2) t10 hv11) mv_R_puts k_1419 (hRk (by decide) (by decide)) hK hsk hS hP hD (isC := [0, 1]) rfl (by decide) rfl rfl rfl hl.1 rfl (lv_room (Nat.le_of_ble_eq_true rfl)) d_R_joinsTwo_70) hP hD hS rfl rfl (fun H locs hP hD hS => ?_)
    have hP : va_P G.1 classes [(h0, O_R f_raised a_all a_text a_saved a_undone f_undos f_reached f_length f_begin f_sort f_sign f_value f_word f_wrongAt f_badAt f_bad a_told f_read f_side a_pile t10.1 a_open f_opened v9 f_had a_size a_capped a_connected a_bestCost a_bestCrosses a_bestPart a_part a_trees f_treeMany a_nodes f_nodeMany f_moveNode f_movePart f_moveFirst f_moveThen f_moveOther a_out f_outMany a_kept), (a_pile, aI G 502 t10.2), (a_told, aI G 316 v8)] H := hP
    have hD : va_D A [(h0, O_R f_raised a_all a_text a_saved a_undone f_undos f_reached f_length f_begin f_sort f_sign f_value f_word f_wrongAt f_badAt f_bad a_told f_read f_side a_pile t10.1 a_open f_opened v9 f_had a_size a_capped a_connected a_bestCost a_bestCrosses a_bestPart a_part a_trees f_treeMany a_nodes f_nodeMany f_moveNode f_movePart f_moveFirst f_moveThen f_moveOther a_out f_outMany a_kept), (a_pile, aI G 502 t10.2), (a_told, aI G 316 v8)] := hD
    cases hf
    exact hret 73 ls H locs hP hS d_R_joinsTwo_73
  refine lv_aload_n hx hb d_R_joinsTwo_0 rfl (lv_at hl 0 rfl) ?_
  refine lv_dup hx hb d_R_joinsTwo_1 rfl ?_
  refine va_get (D := G.1) (ci := 12) (v := .int f_piled) (C := n_R) (T := T_R) (N := 44) hx hb htl iw_R hown hK hP 0 rfl rfl 20 (by decide) (htl _ k_1216) (fun _ h9 => h9) rfl d_R_joinsTwo_2 ?_
  refine lv_iconst (v := (2 : Int32)) hx hb d_R_joinsTwo_5 (by decide) ?_
  refine lv_isub hx hb d_R_joinsTwo_6 ?_
  refine lv_topi (fun v1 ev1 => ?_)
  have hf := dn_e ev1 hf
  refine va_put (D := G.1) (ci := 12) (v := .int v1) (ty := .int) (C := n_R) (T := T_R) (N := 44) hx hb htl iw_R ty_R ty_R_ok nm_R hown hK hP hD hS 0 rfl rfl 20 (by decide) (htl _ k_1216) (fun _ h9 => h9) rfl (by decide +kernel) rfl rfl (Nat.le_of_ble_eq_true rfl) d_R_joinsTwo_7 (fun H locs hP hD hS => ?_)
  have hP : va_P G.1 classes [(h0, O_R f_raised a_all a_text a_saved a_undone f_undos f_reached f_length f_begin f_sort f_sign f_value f_word f_wrongAt f_badAt f_bad a_told f_read f_side a_pile v1 a_open f_opened f_joins f_had a_size a_capped a_connected a_bestCost a_bestCrosses a_bestPart a_part a_trees f_treeMany a_nodes f_nodeMany f_moveNode f_movePart f_moveFirst f_moveThen f_moveOther a_out f_outMany a_kept), (a_pile, aI G 502 g_pile), (a_told, aI G 316 g_told)] H := hP
  have hD : va_D A [(h0, O_R f_raised a_all a_text a_saved a_undone f_undos f_reached f_length f_begin f_sort f_sign f_value f_word f_wrongAt f_badAt f_bad a_told f_read f_side a_pile v1 a_open f_opened f_joins f_had a_size a_capped a_connected a_bestCost a_bestCrosses a_bestPart a_part a_trees f_treeMany a_nodes f_nodeMany f_moveNode f_movePart f_moveFirst f_moveThen f_moveOther a_out f_outMany a_kept), (a_pile, aI G 502 g_pile), (a_told, aI G 316 g_told)] := hD
  refine lv_aload_n hx hb d_R_joinsTwo_10 rfl (lv_at hl 0 rfl) ?_
  refine va_get (D := G.1) (ci := 12) (v := .ref a_pile) (C := n_R) (T := T_R) (N := 44) hx hb htl iw_R hown hK hP 0 rfl rfl 19 (by decide) (htl _ k_1215) (fun _ h9 => h9) rfl d_R_joinsTwo_11 ?_
  refine lv_aload_n hx hb d_R_joinsTwo_14 rfl (lv_at hl 0 rfl) ?_
  refine va_get (D := G.1) (ci := 12) (v := .int v1) (C := n_R) (T := T_R) (N := 44) hx hb htl iw_R hown hK hP 0 rfl rfl 20 (by decide) (htl _ k_1216) (fun _ h9 => h9) rfl d_R_joinsTwo_15 ?_
  obtain ⟨c2, hf⟩ := dk_e hf
  refine va_iald hx hb hK hP 1 1 rfl rfl c2 d_R_joinsTwo_18 ?_
  refine lv_topi (fun v3 ev3 => ?_)
  have hf := dn_e ev3 hf
  refine lv_istore_n (lv' := [(1, .int v3), (0, .ref h0)]) hx hb d_R_joinsTwo_19 rfl hl (by decide) rfl (fun ls hl => ?_)
  refine lv_aload_n hx hb d_R_joinsTwo_20 rfl (lv_at hl 1 rfl) ?_
  refine va_get (D := G.1) (ci := 12) (v := .ref a_pile) (C := n_R) (T := T_R) (N := 44) hx hb htl iw_R hown hK hP 0 rfl rfl 19 (by decide) (htl _ k_1215) (fun _ h9 => h9) rfl d_R_joinsTwo_21 ?_
  refine lv_aload_n hx hb d_R_joinsTwo_24 rfl (lv_at hl 1 rfl) ?_
  refine va_get (D := G.1) (ci := 12) (v := .int v1) (C := n_R) (T := T_R) (N := 44) hx hb htl iw_R hown hK hP 0 rfl rfl 20 (by decide) (htl _ k_1216) (fun _ h9 => h9) rfl d_R_joinsTwo_25 ?_
  refine lv_iconst (v := (1 : Int32)) hx hb d_R_joinsTwo_28 (by decide) ?_
  refine lv_iadd hx hb d_R_joinsTwo_29 ?_
  obtain ⟨c4, hf⟩ := dk_e hf
  refine va_iald hx hb hK hP 1 1 rfl rfl c4 d_R_joinsTwo_30 ?_
  refine lv_topi (fun v5 ev5 => ?_)
  have hf := dn_e ev5 hf
  refine lv_istore_n (lv' := [(2, .int v5), (1, .int v3), (0, .ref h0)]) hx hb d_R_joinsTwo_31 rfl hl (by decide) rfl (fun ls hl => ?_)
  refine lv_aload_n hx hb d_R_joinsTwo_32 rfl (lv_at hl 2 rfl) ?_
  refine va_get (D := G.1) (ci := 12) (v := .ref a_told) (C := n_R) (T := T_R) (N := 44) hx hb htl iw_R hown hK hP 0 rfl rfl 16 (by decide) (htl _ k_1212) (fun _ h9 => h9) rfl d_R_joinsTwo_33 ?_
  refine lv_bipush (v := (60 : Int32)) hx hb d_R_joinsTwo_36 (by decide) ?_
  refine lv_iload_n hx hb d_R_joinsTwo_38 rfl (lv_at hl 1 rfl) ?_
  refine lv_iload_n hx hb d_R_joinsTwo_39 rfl (lv_at hl 0 rfl) ?_
  refine lv_ior hx hb d_R_joinsTwo_40 ?_
  refine lv_iadd hx hb d_R_joinsTwo_41 ?_
  refine lv_iload_n hx hb d_R_joinsTwo_42 rfl (lv_at hl 1 rfl) ?_
  refine lv_iload_n hx hb d_R_joinsTwo_43 rfl (lv_at hl 0 rfl) ?_
  refine call_i (isC := []) (run_S (As := [.int v3, .int v5]) (rest := [.int ((60 : Int32) + (v3 ||| v5)), .ref a_told]) hx hb hml hown htl (c_R_isAheadOf l G Y  v3 v5 _ rfl) ms_R_isAheadOf k_1431 (hRk (by decide) (by decide)) hK hsk hS hP hD (isC := []) rfl (by decide) rfl hl.1 rfl (lv_room (Nat.le_of_ble_eq_true rfl)) d_R_joinsTwo_44) hP hD hS rfl rfl (fun H locs hP hD hS => ?_)
  have hP : va_P G.1 classes [(h0, O_R f_raised a_all a_text a_saved a_undone f_undos f_reached f_length f_begin f_sort f_sign f_value f_word f_wrongAt f_badAt f_bad a_told f_read f_side a_pile v1 a_open f_opened f_joins f_had a_size a_capped a_connected a_bestCost a_bestCrosses a_bestPart a_part a_trees f_treeMany a_nodes f_nodeMany f_moveNode f_movePart f_moveFirst f_moveThen f_moveOther a_out f_outMany a_kept), (a_pile, aI G 502 g_pile), (a_told, aI G 316 g_told)] H := hP
  have hD : va_D A [(h0, O_R f_raised a_all a_text a_saved a_undone f_undos f_reached f_length f_begin f_sort f_sign f_value f_word f_wrongAt f_badAt f_bad a_told f_read f_side a_pile v1 a_open f_opened f_joins f_had a_size a_capped a_connected a_bestCost a_bestCrosses a_bestPart a_part a_trees f_treeMany a_nodes f_nodeMany f_moveNode f_movePart f_moveFirst f_moveThen f_moveOther a_out f_outMany a_kept), (a_pile, aI G 502 g_pile), (a_told, aI G 316 g_told)] := hD
  refine lv_if_eq (tgt := 54) hx hb d_R_joinsTwo_47 (by decide) (fun c6 => ?_) (fun c6 => ?_)
  · have hf := di_t c6 hf
    refine lv_iload_n hx hb d_R_joinsTwo_54 rfl (lv_at hl 0 rfl) ?_
    exact hJ55 v1 f_joins g_pile g_told v3 v5 ((60 : Int32) + (v3 ||| v5)) v5 H locs ls ⟨hP, hD, hS⟩ (lv_sub hl [2, 1, 0] rfl) hf
  · have hf := di_f c6 hf
    refine lv_iload_n hx hb d_R_joinsTwo_50 rfl (lv_at hl 1 rfl) ?_
    refine lv_goto (tgt := 55) hx hb d_R_joinsTwo_51 (by decide) ?_
    exact hJ55 v1 f_joins g_pile g_told v3 v5 ((60 : Int32) + (v3 ||| v5)) v3 H locs ls ⟨hP, hD, hS⟩ (lv_sub hl [2, 1, 0] rfl) hf
set_option maxHeartbeats 4000000 in
set_option maxRecDepth 100000 in
theorem c_R_closes (l : Launch) (G : va_G × (Nat → ClassId)) (Y : (Nat → Nat) × (Nat → Nat)) (h0 : Nat) (a_all : Nat) (a_text : Nat) (a_saved : Nat) (a_undone : Nat) (a_told : Nat) (a_pile : Nat) (a_open : Nat) (a_size : Nat) (a_capped : Nat) (a_connected : Nat) (a_bestCost : Nat) (a_bestCrosses : Nat) (a_bestPart : Nat) (a_part : Nat) (a_trees : Nat) (a_nodes : Nat) (a_out : Nat) (a_kept : Nat) (f_raised : Int32) (f_undos : Int32) (f_reached : Int32) (f_length : Int32) (f_begin : Int32) (f_sort : Int32) (f_sign : Int32) (f_value : Int32) (f_word : Int64) (f_wrongAt : Int32) (f_badAt : Int32) (f_bad : Int32) (f_read : Int32) (f_side : Int32) (f_piled : Int32) (f_opened : Int32) (f_joins : Int32) (f_had : Int32) (f_treeMany : Int32) (f_nodeMany : Int32) (f_moveNode : Int32) (f_movePart : Int32) (f_moveFirst : Int32) (f_moveThen : Int32) (f_moveOther : Int32) (f_outMany : Int32) (g_open : Nat → Int32) (g_pile : Nat → Int32) (g_text : Nat → Int32) (g_told : Nat → Int32) (N : Nat) (res : Int32 × Int32 × Int32 × Int32 × Int32 × Int32 × Int64 × Int32 × Int32 × Int32 × Int32 × (Nat → Int32) × (Nat → Int32) × (Nat → Int32)) (hf : R_closes N f_reached f_length f_begin f_sort f_sign f_value f_word f_wrongAt f_piled f_opened f_joins g_open g_pile g_text g_told = some res) : Ci l classes y_R_closes b_R_closes 2 (some .boolean) (rmk 3) G.1 (tyL G) Y [.ref h0] [(h0, O_R f_raised a_all a_text a_saved a_undone f_undos f_reached f_length f_begin f_sort f_sign f_value f_word f_wrongAt f_badAt f_bad a_told f_read f_side a_pile f_piled a_open f_opened f_joins f_had a_size a_capped a_connected a_bestCost a_bestCrosses a_bestPart a_part a_trees f_treeMany a_nodes f_nodeMany f_moveNode f_movePart f_moveFirst f_moveThen f_moveOther a_out f_outMany a_kept), (a_open, aI G 502 g_open), (a_pile, aI G 502 g_pile), (a_text, aB G 2000 g_text), (a_told, aI G 316 g_told)] [(h0, O_R f_raised a_all a_text a_saved a_undone f_undos res.2.1 f_length res.2.2.1 res.2.2.2.1 res.2.2.2.2.1 res.2.2.2.2.2.1 res.2.2.2.2.2.2.1 res.2.2.2.2.2.2.2.1 f_badAt f_bad a_told f_read f_side a_pile res.2.2.2.2.2.2.2.2.1 a_open res.2.2.2.2.2.2.2.2.2.1 res.2.2.2.2.2.2.2.2.2.2.1 f_had a_size a_capped a_connected a_bestCost a_bestCrosses a_bestPart a_part a_trees f_treeMany a_nodes f_nodeMany f_moveNode f_movePart f_moveFirst f_moveThen f_moveOther a_out f_outMany a_kept), (a_open, aI G 502 res.2.2.2.2.2.2.2.2.2.2.2.1), (a_pile, aI G 502 res.2.2.2.2.2.2.2.2.2.2.2.2.1), (a_text, aB G 2000 g_text), (a_told, aI G 316 res.2.2.2.2.2.2.2.2.2.2.2.2.2)] res.1 := by
  refine entZ (by decide) (Nat.le_of_ble_eq_true rfl) ?_
  intro p e s m args below meth c ls A Q hx hb hml hown htl hK hsk wq hl hret
  obtain ⟨hP, hD, hS⟩ := wq
  have hl : lv_has ls 2 [(0, .ref h0)] := hl
  have hS : va_S A s.heap s.heap [] := hS
  obtain ⟨H, hH⟩ : ∃ H : Heap, H = s.heap := ⟨_, rfl⟩
  obtain ⟨locs, hlocs⟩ : ∃ z : List Loc, z = [] := ⟨_, rfl⟩
  rw [← hH] at hP
  replace hS : va_S A s.heap H locs := by rw [hH, hlocs]; exact hS
  suffices hgo : W p l e (rmk 3) s m args below meth c H locs 0 0 Q (F0 m 0 ls []) by rw [hH, hlocs] at hgo; exact hgo
  have hJ98 : ∀ (f_reached : Int32) (f_begin : Int32) (f_sort : Int32) (f_sign : Int32) (f_value : Int32) (f_word : Int64) (f_wrongAt : Int32) (f_piled : Int32) (f_opened : Int32) (f_joins : Int32) (g_open : Nat → Int32) (g_pile : Nat → Int32) (g_told : Nat → Int32) (H : Heap) (locs : List Loc) (ls : Array Slot), PDS G.1 classes A s [(h0, O_R f_raised a_all a_text a_saved a_undone f_undos f_reached f_length f_begin f_sort f_sign f_value f_word f_wrongAt f_badAt f_bad a_told f_read f_side a_pile f_piled a_open f_opened f_joins f_had a_size a_capped a_connected a_bestCost a_bestCrosses a_bestPart a_part a_trees f_treeMany a_nodes f_nodeMany f_moveNode f_movePart f_moveFirst f_moveThen f_moveOther a_out f_outMany a_kept), (a_open, aI G 502 g_open), (a_pile, aI G 502 g_pile), (a_text, aB G 2000 g_text), (a_told, aI G 316 g_told)] H locs → lv_has ls 2 [] → R_closes_98 N f_reached f_length f_begin f_sort f_sign f_value f_word f_wrongAt f_piled f_opened f_joins g_open g_pile g_text g_told = some res → W p l e (rmk 3) s m args below meth c H locs 0 0 Q (F0 m 98 ls []) := by
    intro f_reached f_begin f_sort f_sign f_value f_word f_wrongAt f_piled f_opened f_joins g_open g_pile g_told H locs ls wq hl hf
    obtain ⟨hP, hD, hS⟩ := wq
    refine lv_iconst (v := (1 : Int32)) hx hb d_R_closes_98 (by decide) ?_
    cases hf
    exact hret 99 ls H locs z_1 hP hS d_R_closes_99
  have hJ66 : ∀ (f_reached : Int32) (f_begin : Int32) (f_sort : Int32) (f_sign : Int32) (f_value : Int32) (f_word : Int64) (f_wrongAt : Int32) (f_piled : Int32) (f_opened : Int32) (f_joins : Int32) (g_open : Nat → Int32) (g_pile : Nat → Int32) (g_told : Nat → Int32) (H : Heap) (locs : List Loc) (ls : Array Slot), PDS G.1 classes A s [(h0, O_R f_raised a_all a_text a_saved a_undone f_undos f_reached f_length f_begin f_sort f_sign f_value f_word f_wrongAt f_badAt f_bad a_told f_read f_side a_pile f_piled a_open f_opened f_joins f_had a_size a_capped a_connected a_bestCost a_bestCrosses a_bestPart a_part a_trees f_treeMany a_nodes f_nodeMany f_moveNode f_movePart f_moveFirst f_moveThen f_moveOther a_out f_outMany a_kept), (a_open, aI G 502 g_open), (a_pile, aI G 502 g_pile), (a_text, aB G 2000 g_text), (a_told, aI G 316 g_told)] H locs → lv_has ls 2 [] → R_closes_66 N f_reached f_length f_begin f_sort f_sign f_value f_word f_wrongAt f_piled f_opened f_joins g_open g_pile g_text g_told = some res → W p l e (rmk 3) s m args below meth c H locs 0 0 Q (F0 m 66 ls []) := by
    intro f_reached f_begin f_sort f_sign f_value f_word f_wrongAt f_piled f_opened f_joins g_open g_pile g_told H locs ls wq hl hf
    obtain ⟨hP, hD, hS⟩ := wq
    refine lv_iconst (v := (0 : Int32)) hx hb d_R_closes_66 (by decide) ?_
    cases hf
    exact hret 67 ls H locs z_0 hP hS d_R_closes_67
  have hJ13 : ∀ (f_reached : Int32) (f_begin : Int32) (f_sort : Int32) (f_sign : Int32) (f_value : Int32) (f_word : Int64) (f_wrongAt : Int32) (f_piled : Int32) (f_opened : Int32) (f_joins : Int32) (g_open : Nat → Int32) (g_pile : Nat → Int32) (g_told : Nat → Int32) (x1 : Int32) (H : Heap) (locs : List Loc) (ls : Array Slot), PDS G.1 classes A s [(h0, O_R f_raised a_all a_text a_saved a_undone f_undos f_reached f_length f_begin f_sort f_sign f_value f_word f_wrongAt f_badAt f_bad a_told f_read f_side a_pile f_piled a_open f_opened f_joins f_had a_size a_capped a_connected a_bestCost a_bestCrosses a_bestPart a_part a_trees f_treeMany a_nodes f_nodeMany f_moveNode f_movePart f_moveFirst f_moveThen f_moveOther a_out f_outMany a_kept), (a_open, aI G 502 g_open), (a_pile, aI G 502 g_pile), (a_text, aB G 2000 g_text), (a_told, aI G 316 g_told)] H locs → lv_has ls 2 [(0, .ref h0), (1, .int x1)] → R_closes_13 N f_reached f_length f_begin f_sort f_sign f_value f_word f_wrongAt f_piled f_opened f_joins g_open g_pile g_text g_told x1 = some res → W p l e (rmk 3) s m args below meth c H locs 0 0 Q (F0 m 13 ls []) := by
    intro f_reached f_begin f_sort f_sign f_value f_word f_wrongAt f_piled f_opened f_joins g_open g_pile g_told x1 H locs ls wq hl hf
    obtain ⟨hP, hD, hS⟩ := wq
    obtain ⟨y13, hy13, hfo13⟩ := db_e hf
    have hL13 : ∀ (n : Nat) (f_reached : Int32) (f_begin : Int32) (f_sort : Int32) (f_sign : Int32) (f_value : Int32) (f_word : Int64) (f_wrongAt : Int32) (f_piled : Int32) (f_opened : Int32) (f_joins : Int32) (g_open : Nat → Int32) (g_pile : Nat → Int32) (g_told : Nat → Int32) (x1 : Int32) (H : Heap) (locs : List Loc) (ls : Array Slot), lp (fun x => R_closes_b13 N x.1 f_length x.2.1 x.2.2.1 x.2.2.2.1 x.2.2.2.2.1 x.2.2.2.2.2.1 x.2.2.2.2.2.2.1 x.2.2.2.2.2.2.2.1 x.2.2.2.2.2.2.2.2.1 x.2.2.2.2.2.2.2.2.2.1 x.2.2.2.2.2.2.2.2.2.2.1 x.2.2.2.2.2.2.2.2.2.2.2.1 g_text x.2.2.2.2.2.2.2.2.2.2.2.2.1 x.2.2.2.2.2.2.2.2.2.2.2.2.2) n (f_reached, f_begin, f_sort, f_sign, f_value, f_word, f_wrongAt, f_piled, f_opened, f_joins, g_open, g_pile, g_told, x1) = some y13 → PDS G.1 classes A s [(h0, O_R f_raised a_all a_text a_saved a_undone f_undos f_reached f_length f_begin f_sort f_sign f_value f_word f_wrongAt f_badAt f_bad a_told f_read f_side a_pile f_piled a_open f_opened f_joins f_had a_size a_capped a_connected a_bestCost a_bestCrosses a_bestPart a_part a_trees f_treeMany a_nodes f_nodeMany f_moveNode f_movePart f_moveFirst f_moveThen f_moveOther a_out f_outMany a_kept), (a_open, aI G 502 g_open), (a_pile, aI G 502 g_pile), (a_text, aB G 2000 g_text), (a_told, aI G 316 g_told)] H locs → lv_has ls 2 [(0, .ref h0), (1, .int x1)] → W p l e (rmk 3) s m args below meth c H locs 0 0 Q (F0 m 13 ls []) := by
      intro n
      induction n with
      | zero =>
        intro f_reached f_begin f_sort f_sign f_value f_word f_wrongAt f_piled f_opened f_joins g_open g_pile g_told x1 H locs ls hf
        exact lp_0 hf
      | succ n ih13 =>
        intro f_reached f_begin f_sort f_sign f_value f_word f_wrongAt f_piled f_opened f_joins g_open g_pile g_told x1 H locs ls hf wq hl
        obtain ⟨hP, hD, hS⟩ := wq
        obtain ⟨r13, hf, hk13⟩ := lp_s hf
        have hf : R_closes_b13 N f_reached f_length f_begin f_sort f_sign f_value f_word f_wrongAt f_piled f_opened f_joins g_open g_pile g_text g_told x1 = some r13 := hf
        have hJ94 : ∀ (f_reached : Int32) (f_begin : Int32) (f_sort : Int32) (f_sign : Int32) (f_value : Int32) (f_word : Int64) (f_wrongAt : Int32) (f_piled : Int32) (f_opened : Int32) (f_joins : Int32) (g_open : Nat → Int32) (g_pile : Nat → Int32) (g_told : Nat → Int32) (z0 : Int32) (H : Heap) (locs : List Loc) (ls : Array Slot), PDS G.1 classes A s [(h0, O_R f_raised a_all a_text a_saved a_undone f_undos f_reached f_length f_begin f_sort f_sign f_value f_word f_wrongAt f_badAt f_bad a_told f_read f_side a_pile f_piled a_open f_opened f_joins f_had a_size a_capped a_connected a_bestCost a_bestCrosses a_bestPart a_part a_trees f_treeMany a_nodes f_nodeMany f_moveNode f_movePart f_moveFirst f_moveThen f_moveOther a_out f_outMany a_kept), (a_open, aI G 502 g_open), (a_pile, aI G 502 g_pile), (a_text, aB G 2000 g_text), (a_told, aI G 316 g_told)] H locs → lv_has ls 2 [(0, .ref h0)] → R_closes_94 N f_reached f_length f_begin f_sort f_sign f_value f_word f_wrongAt f_piled f_opened f_joins g_open g_pile g_text g_told z0 = some r13 → W p l e (rmk 3) s m args below meth c H locs 0 0 Q (F0 m 94 ls [.int z0]) := by
          intro f_reached f_begin f_sort f_sign f_value f_word f_wrongAt f_piled f_opened f_joins g_open g_pile g_told z0 H locs ls wq hl hf
          obtain ⟨hP, hD, hS⟩ := wq
          refine lv_istore_n (lv' := [(1, .int z0), (0, .ref h0)]) hx hb d_R_closes_94 rfl hl (by decide) rfl (fun ls hl => ?_)
          refine lv_goto (tgt := 13) hx hb d_R_closes_95 (by decide) ?_
          exact ih13 f_reached f_begin f_sort f_sign f_value f_word f_wrongAt f_piled f_opened f_joins g_open g_pile g_told z0 H locs ls (lpk_i hf hk13) ⟨hP, hD, hS⟩ (lv_sub hl [1, 0] rfl)
        have hJ52 : ∀ (f_reached : Int32) (f_begin : Int32) (f_sort : Int32) (f_sign : Int32) (f_value : Int32) (f_word : Int64) (f_wrongAt : Int32) (f_piled : Int32) (f_opened : Int32) (f_joins : Int32) (g_open : Nat → Int32) (g_pile : Nat → Int32) (g_told : Nat → Int32) (z0 : Int32) (H : Heap) (locs : List Loc) (ls : Array Slot), PDS G.1 classes A s [(h0, O_R f_raised a_all a_text a_saved a_undone f_undos f_reached f_length f_begin f_sort f_sign f_value f_word f_wrongAt f_badAt f_bad a_told f_read f_side a_pile f_piled a_open f_opened f_joins f_had a_size a_capped a_connected a_bestCost a_bestCrosses a_bestPart a_part a_trees f_treeMany a_nodes f_nodeMany f_moveNode f_movePart f_moveFirst f_moveThen f_moveOther a_out f_outMany a_kept), (a_open, aI G 502 g_open), (a_pile, aI G 502 g_pile), (a_text, aB G 2000 g_text), (a_told, aI G 316 g_told)] H locs → lv_has ls 2 [(0, .ref h0)] → R_closes_52 N f_reached f_length f_begin f_sort f_sign f_value f_word f_wrongAt f_piled f_opened f_joins g_open g_pile g_text g_told z0 = some r13 → W p l e (rmk 3) s m args below meth c H locs 0 0 Q (F0 m 52 ls [.int z0]) := by
          intro f_reached f_begin f_sort f_sign f_value f_word f_wrongAt f_piled f_opened f_joins g_open g_pile g_told z0 H locs ls wq hl hf
          obtain ⟨hP, hD, hS⟩ := wq
          refine lv_istore_n (lv' := [(1, .int z0), (0, .ref h0)]) hx hb d_R_closes_52 rfl hl (by decide) rfl (fun ls hl => ?_)
          refine lv_iload_n hx hb d_R_closes_53 rfl (lv_at hl 0 rfl) ?_
          refine lv_if_eq (tgt := 13) hx hb d_R_closes_54 (by decide) (fun c6 => ?_) (fun c6 => ?_)
          · have hf := di_t c6 hf
            exact ih13 f_reached f_begin f_sort f_sign f_value f_word f_wrongAt f_piled f_opened f_joins g_open g_pile g_told z0 H locs ls (lpk_i hf hk13) ⟨hP, hD, hS⟩ (lv_sub hl [1, 0] rfl)
          · have hf := di_f c6 hf
            refine lv_aload_n hx hb d_R_closes_57 rfl (lv_at hl 1 rfl) ?_
            refine lv_bipush (v := (41 : Int32)) hx hb d_R_closes_58 (by decide) ?_
            obtain ⟨t7, hv8, hf⟩ := db_e hf
            refine call_i (isC := [0, 3]) (run_V (As := [.int (41 : Int32)]) (rest := []) (ci := 12) (q0 := 0) hx hb hml hown htl (c_R_takesSign l G Y  h0 a_all a_text a_saved a_undone a_told a_pile a_open a_size a_capped a_connected a_bestCost a_bestCrosses a_bestPart a_part a_trees a_nodes a_out a_kept f_raised f_undos f_reached f_length f_begin f_sort f_sign f_value f_word f_wrongAt f_badAt f_bad f_read f_side f_piled f_opened f_joins f_had f_treeMany f_nodeMany f_moveNode f_movePart f_moveFirst f_moveThen f_moveOther f_outMany g_text (41 : Int32) N t7 hv8) mv_R_takesSign k_1392 (hRk (by decide) (by decide)) hK hsk hS hP hD (isC := [0, 3]) rfl (by decide) rfl rfl rfl hl.1 rfl (lv_room (Nat.le_of_ble_eq_true rfl)) d_R_closes_60) hP hD hS rfl rfl (fun H locs hP hD hS => ?_)
            have hP : va_P G.1 classes [(h0, O_R f_raised a_all a_text a_saved a_undone f_undos t7.2.1 f_length t7.2.2.1 t7.2.2.2.1 t7.2.2.2.2.1 t7.2.2.2.2.2.1 t7.2.2.2.2.2.2.1 t7.2.2.2.2.2.2.2 f_badAt f_bad a_told f_read f_side a_pile f_piled a_open f_opened f_joins f_had a_size a_capped a_connected a_bestCost a_bestCrosses a_bestPart a_part a_trees f_treeMany a_nodes f_nodeMany f_moveNode f_movePart f_moveFirst f_moveThen f_moveOther a_out f_outMany a_kept), (a_open, aI G 502 g_open), (a_pile, aI G 502 g_pile), (a_text, aB G 2000 g_text), (a_told, aI G 316 g_told)] H := hP
            have hD : va_D A [(h0, O_R f_raised a_all a_text a_saved a_undone f_undos t7.2.1 f_length t7.2.2.1 t7.2.2.2.1 t7.2.2.2.2.1 t7.2.2.2.2.2.1 t7.2.2.2.2.2.2.1 t7.2.2.2.2.2.2.2 f_badAt f_bad a_told f_read f_side a_pile f_piled a_open f_opened f_joins f_had a_size a_capped a_connected a_bestCost a_bestCrosses a_bestPart a_part a_trees f_treeMany a_nodes f_nodeMany f_moveNode f_movePart f_moveFirst f_moveThen f_moveOther a_out f_outMany a_kept), (a_open, aI G 502 g_open), (a_pile, aI G 502 g_pile), (a_text, aB G 2000 g_text), (a_told, aI G 316 g_told)] := hD
            refine lv_if_ne (tgt := 68) hx hb d_R_closes_63 (by decide) (fun c9 => ?_) (fun c9 => ?_)
            · have hf := di_f c9 hf
              refine lv_aload_n hx hb d_R_closes_68 rfl (lv_at hl 1 rfl) ?_
              obtain ⟨t10, hv11, hf⟩ := db_e hf
              refine call_v (isC := [0, 2, 4]) (run_V (As := []) (rest := []) (ci := 12) (q0 := 0) hx hb hml hown htl (c_R_joinsTwo l G Y  h0 a_all a_text a_saved a_undone a_told a_pile a_open a_size a_capped a_connected a_bestCost a_bestCrosses a_bestPart a_part a_trees a_nodes a_out a_kept f_raised f_undos t7.2.1 f_length t7.2.2.1 t7.2.2.2.1 t7.2.2.2.2.1 t7.2.2.2.2.2.1 t7.2.2.2.2.2.2.1 t7.2.2.2.2.2.2.2 f_badAt f_bad f_read f_side f_piled f_opened f_joins f_had f_treeMany f_nodeMany f_moveNode f_movePart f_moveFirst f_moveThen f_moveOther f_outMany g_pile g_told t10 hv11) mv_R_joinsTwo k_1427 (hRk (by decide) (by decide)) hK hsk hS hP hD (isC := [0, 2, 4]) rfl (by decide) rfl rfl rfl hl.1 rfl (lv_room (Nat.le_of_ble_eq_true rfl)) d_R_closes_69) hP hD hS rfl rfl (fun H locs hP hD hS => ?_)
              have hP : va_P G.1 classes [(h0, O_R f_raised a_all a_text a_saved a_undone f_undos t7.2.1 f_length t7.2.2.1 t7.2.2.2.1 t7.2.2.2.2.1 t7.2.2.2.2.2.1 t7.2.2.2.2.2.2.1 t7.2.2.2.2.2.2.2 f_badAt f_bad a_told f_read f_side a_pile t10.1 a_open f_opened t10.2.1 f_had a_size a_capped a_connected a_bestCost a_bestCrosses a_bestPart a_part a_trees f_treeMany a_nodes f_nodeMany f_moveNode f_movePart f_moveFirst f_moveThen f_moveOther a_out f_outMany a_kept), (a_open, aI G 502 g_open), (a_pile, aI G 502 t10.2.2.1), (a_text, aB G 2000 g_text), (a_told, aI G 316 t10.2.2.2)] H := hP
              have hD : va_D A [(h0, O_R f_raised a_all a_text a_saved a_undone f_undos t7.2.1 f_length t7.2.2.1 t7.2.2.2.1 t7.2.2.2.2.1 t7.2.2.2.2.2.1 t7.2.2.2.2.2.2.1 t7.2.2.2.2.2.2.2 f_badAt f_bad a_told f_read f_side a_pile t10.1 a_open f_opened t10.2.1 f_had a_size a_capped a_connected a_bestCost a_bestCrosses a_bestPart a_part a_trees f_treeMany a_nodes f_nodeMany f_moveNode f_movePart f_moveFirst f_moveThen f_moveOther a_out f_outMany a_kept), (a_open, aI G 502 g_open), (a_pile, aI G 502 t10.2.2.1), (a_text, aB G 2000 g_text), (a_told, aI G 316 t10.2.2.2)] := hD
              refine lv_aload_n hx hb d_R_closes_72 rfl (lv_at hl 1 rfl) ?_
              refine lv_dup hx hb d_R_closes_73 rfl ?_
              refine va_get (D := G.1) (ci := 12) (v := .int f_opened) (C := n_R) (T := T_R) (N := 44) hx hb htl iw_R hown hK hP 0 rfl rfl 22 (by decide) (htl _ k_1218) (fun _ h9 => h9) rfl d_R_closes_74 ?_
              refine lv_iconst (v := (1 : Int32)) hx hb d_R_closes_77 (by decide) ?_
              refine lv_isub hx hb d_R_closes_78 ?_
              refine lv_topi (fun v12 ev12 => ?_)
              have hf := dn_e ev12 hf
              refine va_put (D := G.1) (ci := 12) (v := .int v12) (ty := .int) (C := n_R) (T := T_R) (N := 44) hx hb htl iw_R ty_R ty_R_ok nm_R hown hK hP hD hS 0 rfl rfl 22 (by decide) (htl _ k_1218) (fun _ h9 => h9) rfl (by decide +kernel) rfl rfl (Nat.le_of_ble_eq_true rfl) d_R_closes_79 (fun H locs hP hD hS => ?_)
              have hP : va_P G.1 classes [(h0, O_R f_raised a_all a_text a_saved a_undone f_undos t7.2.1 f_length t7.2.2.1 t7.2.2.2.1 t7.2.2.2.2.1 t7.2.2.2.2.2.1 t7.2.2.2.2.2.2.1 t7.2.2.2.2.2.2.2 f_badAt f_bad a_told f_read f_side a_pile t10.1 a_open v12 t10.2.1 f_had a_size a_capped a_connected a_bestCost a_bestCrosses a_bestPart a_part a_trees f_treeMany a_nodes f_nodeMany f_moveNode f_movePart f_moveFirst f_moveThen f_moveOther a_out f_outMany a_kept), (a_open, aI G 502 g_open), (a_pile, aI G 502 t10.2.2.1), (a_text, aB G 2000 g_text), (a_told, aI G 316 t10.2.2.2)] H := hP
              have hD : va_D A [(h0, O_R f_raised a_all a_text a_saved a_undone f_undos t7.2.1 f_length t7.2.2.1 t7.2.2.2.1 t7.2.2.2.2.1 t7.2.2.2.2.2.1 t7.2.2.2.2.2.2.1 t7.2.2.2.2.2.2.2 f_badAt f_bad a_told f_read f_side a_pile t10.1 a_open v12 t10.2.1 f_had a_size a_capped a_connected a_bestCost a_bestCrosses a_bestPart a_part a_trees f_treeMany a_nodes f_nodeMany f_moveNode f_movePart f_moveFirst f_moveThen f_moveOther a_out f_outMany a_kept), (a_open, aI G 502 g_open), (a_pile, aI G 502 t10.2.2.1), (a_text, aB G 2000 g_text), (a_told, aI G 316 t10.2.2.2)] := hD
              refine lv_aload_n hx hb d_R_closes_82 rfl (lv_at hl 1 rfl) ?_
              refine va_get (D := G.1) (ci := 12) (v := .int v12) (C := n_R) (T := T_R) (N := 44) hx hb htl iw_R hown hK hP 0 rfl rfl 22 (by decide) (htl _ k_1218) (fun _ h9 => h9) rfl d_R_closes_83 ?_
              refine lv_if_le (tgt := 93) hx hb d_R_closes_86 (by decide) (fun c13 => ?_) (fun c13 => ?_)
              · have hf := di_t c13 hf
                refine lv_iconst (v := (0 : Int32)) hx hb d_R_closes_93 (by decide) ?_
                exact hJ94 t7.2.1 t7.2.2.1 t7.2.2.2.1 t7.2.2.2.2.1 t7.2.2.2.2.2.1 t7.2.2.2.2.2.2.1 t7.2.2.2.2.2.2.2 t10.1 v12 t10.2.1 g_open t10.2.2.1 t10.2.2.2 (0 : Int32) H locs ls ⟨hP, hD, hS⟩ (lv_sub hl [1] rfl) hf
              · have hf := di_f c13 hf
                refine lv_iconst (v := (1 : Int32)) hx hb d_R_closes_89 (by decide) ?_
                refine lv_goto (tgt := 94) hx hb d_R_closes_90 (by decide) ?_
                exact hJ94 t7.2.1 t7.2.2.1 t7.2.2.2.1 t7.2.2.2.2.1 t7.2.2.2.2.2.1 t7.2.2.2.2.2.2.1 t7.2.2.2.2.2.2.2 t10.1 v12 t10.2.1 g_open t10.2.2.1 t10.2.2.2 (1 : Int32) H locs ls ⟨hP, hD, hS⟩ (lv_sub hl [1] rfl) hf
            · have hf := di_t c9 hf
              have hq13 := lpk_x hf hk13
              have hf := ex_y (f := fun y => R_closes_a13 N f_length g_text y) hq13 hfo13
              have hf : R_closes_66 N t7.2.1 f_length t7.2.2.1 t7.2.2.2.1 t7.2.2.2.2.1 t7.2.2.2.2.2.1 t7.2.2.2.2.2.2.1 t7.2.2.2.2.2.2.2 f_piled f_opened f_joins g_open g_pile g_text g_told = some res := hf
              exact hJ66 t7.2.1 t7.2.2.1 t7.2.2.2.1 t7.2.2.2.2.1 t7.2.2.2.2.2.1 t7.2.2.2.2.2.2.1 t7.2.2.2.2.2.2.2 f_piled f_opened f_joins g_open g_pile g_told H locs ls ⟨hP, hD, hS⟩ (lv_sub hl [] rfl) hf
        refine lv_iload_n hx hb d_R_closes_13 rfl (lv_at hl 1 rfl) ?_
        refine lv_if_eq (tgt := 98) hx hb d_R_closes_14 (by decide) (fun c2 => ?_) (fun c2 => ?_)
        · have hf := di_t c2 hf
          have hq13 := lpk_x hf hk13
          have hf := ex_y (f := fun y => R_closes_a13 N f_length g_text y) hq13 hfo13
          have hf : R_closes_98 N f_reached f_length f_begin f_sort f_sign f_value f_word f_wrongAt f_piled f_opened f_joins g_open g_pile g_text g_told = some res := hf
          exact hJ98 f_reached f_begin f_sort f_sign f_value f_word f_wrongAt f_piled f_opened f_joins g_open g_pile g_told H locs ls ⟨hP, hD, hS⟩ (lv_sub hl [] rfl) hf
        · have hf := di_f c2 hf
          refine lv_aload_n hx hb d_R_closes_17 rfl (lv_at hl 0 rfl) ?_
          refine va_get (D := G.1) (ci := 12) (v := .ref a_open) (C := n_R) (T := T_R) (N := 44) hx hb htl iw_R hown hK hP 0 rfl rfl 21 (by decide) (htl _ k_1217) (fun _ h9 => h9) rfl d_R_closes_18 ?_
          refine lv_aload_n hx hb d_R_closes_21 rfl (lv_at hl 0 rfl) ?_
          refine va_get (D := G.1) (ci := 12) (v := .int f_opened) (C := n_R) (T := T_R) (N := 44) hx hb htl iw_R hown hK hP 0 rfl rfl 22 (by decide) (htl _ k_1218) (fun _ h9 => h9) rfl d_R_closes_22 ?_
          refine lv_iconst (v := (1 : Int32)) hx hb d_R_closes_25 (by decide) ?_
          refine lv_isub hx hb d_R_closes_26 ?_
          refine lv_dup2_11 hx hb d_R_closes_27 rfl rfl ?_
          obtain ⟨c3, hf⟩ := dk_e hf
          refine va_iald hx hb hK hP 1 1 rfl rfl c3 d_R_closes_28 ?_
          refine lv_iconst (v := (1 : Int32)) hx hb d_R_closes_29 (by decide) ?_
          refine lv_iadd hx hb d_R_closes_30 ?_
          refine nx_iast hx hb hK hP hD hS 1 1 rfl rfl c3 d_R_closes_31 (fun v4 ev4 H locs hP hD hS => ?_)
          have hf := dn_e ev4 hf
          have hP : va_P G.1 classes [(h0, O_R f_raised a_all a_text a_saved a_undone f_undos f_reached f_length f_begin f_sort f_sign f_value f_word f_wrongAt f_badAt f_bad a_told f_read f_side a_pile f_piled a_open f_opened f_joins f_had a_size a_capped a_connected a_bestCost a_bestCrosses a_bestPart a_part a_trees f_treeMany a_nodes f_nodeMany f_moveNode f_movePart f_moveFirst f_moveThen f_moveOther a_out f_outMany a_kept), (a_open, aI G 502 v4), (a_pile, aI G 502 g_pile), (a_text, aB G 2000 g_text), (a_told, aI G 316 g_told)] H := hP
          have hD : va_D A [(h0, O_R f_raised a_all a_text a_saved a_undone f_undos f_reached f_length f_begin f_sort f_sign f_value f_word f_wrongAt f_badAt f_bad a_told f_read f_side a_pile f_piled a_open f_opened f_joins f_had a_size a_capped a_connected a_bestCost a_bestCrosses a_bestPart a_part a_trees f_treeMany a_nodes f_nodeMany f_moveNode f_movePart f_moveFirst f_moveThen f_moveOther a_out f_outMany a_kept), (a_open, aI G 502 v4), (a_pile, aI G 502 g_pile), (a_text, aB G 2000 g_text), (a_told, aI G 316 g_told)] := hD
          refine lv_aload_n hx hb d_R_closes_32 rfl (lv_at hl 0 rfl) ?_
          refine va_get (D := G.1) (ci := 12) (v := .ref a_open) (C := n_R) (T := T_R) (N := 44) hx hb htl iw_R hown hK hP 0 rfl rfl 21 (by decide) (htl _ k_1217) (fun _ h9 => h9) rfl d_R_closes_33 ?_
          refine lv_aload_n hx hb d_R_closes_36 rfl (lv_at hl 0 rfl) ?_
          refine va_get (D := G.1) (ci := 12) (v := .int f_opened) (C := n_R) (T := T_R) (N := 44) hx hb htl iw_R hown hK hP 0 rfl rfl 22 (by decide) (htl _ k_1218) (fun _ h9 => h9) rfl d_R_closes_37 ?_
          refine lv_iconst (v := (1 : Int32)) hx hb d_R_closes_40 (by decide) ?_
          refine lv_isub hx hb d_R_closes_41 ?_
          refine va_iald hx hb hK hP 1 1 rfl rfl c3 d_R_closes_42 ?_
          refine lv_iconst (v := (2 : Int32)) hx hb d_R_closes_43 (by decide) ?_
          refine lv_icmp_ne (tgt := 51) hx hb d_R_closes_44 (by decide) (fun c5 => ?_) (fun c5 => ?_)
          · have hf := di_f c5 hf
            refine lv_iconst (v := (0 : Int32)) hx hb d_R_closes_51 (by decide) ?_
            exact hJ52 f_reached f_begin f_sort f_sign f_value f_word f_wrongAt f_piled f_opened f_joins v4 g_pile g_told (0 : Int32) H locs ls ⟨hP, hD, hS⟩ (lv_sub hl [0] rfl) hf
          · have hf := di_t c5 hf
            refine lv_iconst (v := (1 : Int32)) hx hb d_R_closes_47 (by decide) ?_
            refine lv_goto (tgt := 52) hx hb d_R_closes_48 (by decide) ?_
            exact hJ52 f_reached f_begin f_sort f_sign f_value f_word f_wrongAt f_piled f_opened f_joins v4 g_pile g_told (1 : Int32) H locs ls ⟨hP, hD, hS⟩ (lv_sub hl [0] rfl) hf
    exact hL13 N f_reached f_begin f_sort f_sign f_value f_word f_wrongAt f_piled f_opened f_joins g_open g_pile g_told x1 H locs ls hy13 ⟨hP, hD, hS⟩ hl
  have hJ12 : ∀ (f_reached : Int32) (f_begin : Int32) (f_sort : Int32) (f_sign : Int32) (f_value : Int32) (f_word : Int64) (f_wrongAt : Int32) (f_piled : Int32) (f_opened : Int32) (f_joins : Int32) (g_open : Nat → Int32) (g_pile : Nat → Int32) (g_told : Nat → Int32) (z0 : Int32) (H : Heap) (locs : List Loc) (ls : Array Slot), PDS G.1 classes A s [(h0, O_R f_raised a_all a_text a_saved a_undone f_undos f_reached f_length f_begin f_sort f_sign f_value f_word f_wrongAt f_badAt f_bad a_told f_read f_side a_pile f_piled a_open f_opened f_joins f_had a_size a_capped a_connected a_bestCost a_bestCrosses a_bestPart a_part a_trees f_treeMany a_nodes f_nodeMany f_moveNode f_movePart f_moveFirst f_moveThen f_moveOther a_out f_outMany a_kept), (a_open, aI G 502 g_open), (a_pile, aI G 502 g_pile), (a_text, aB G 2000 g_text), (a_told, aI G 316 g_told)] H locs → lv_has ls 2 [(0, .ref h0)] → R_closes_12 N f_reached f_length f_begin f_sort f_sign f_value f_word f_wrongAt f_piled f_opened f_joins g_open g_pile g_text g_told z0 = some res → W p l e (rmk 3) s m args below meth c H locs 0 0 Q (F0 m 12 ls [.int z0]) := by
    intro f_reached f_begin f_sort f_sign f_value f_word f_wrongAt f_piled f_opened f_joins g_open g_pile g_told z0 H locs ls wq hl hf
    obtain ⟨hP, hD, hS⟩ := wq
    refine lv_istore_n (lv' := [(1, .int z0), (0, .ref h0)]) hx hb d_R_closes_12 rfl hl (by decide) rfl (fun ls hl => ?_)
    exact hJ13 f_reached f_begin f_sort f_sign f_value f_word f_wrongAt f_piled f_opened f_joins g_open g_pile g_told z0 H locs ls ⟨hP, hD, hS⟩ (lv_sub hl [1, 0] rfl) hf
  refine lv_aload_n hx hb d_R_closes_0 rfl (lv_at hl 0 rfl) ?_
  refine va_get (D := G.1) (ci := 12) (v := .int f_opened) (C := n_R) (T := T_R) (N := 44) hx hb htl iw_R hown hK hP 0 rfl rfl 22 (by decide) (htl _ k_1218) (fun _ h9 => h9) rfl d_R_closes_1 ?_
  refine lv_if_le (tgt := 11) hx hb d_R_closes_4 (by decide) (fun c1 => ?_) (fun c1 => ?_)
  · have hf := di_t c1 hf
    refine lv_iconst (v := (0 : Int32)) hx hb d_R_closes_11 (by decide) ?_
    exact hJ12 f_reached f_begin f_sort f_sign f_value f_word f_wrongAt f_piled f_opened f_joins g_open g_pile g_told (0 : Int32) H locs ls ⟨hP, hD, hS⟩ (lv_sub hl [0] rfl) hf
  · have hf := di_f c1 hf
    refine lv_iconst (v := (1 : Int32)) hx hb d_R_closes_7 (by decide) ?_
    refine lv_goto (tgt := 12) hx hb d_R_closes_8 (by decide) ?_
    exact hJ12 f_reached f_begin f_sort f_sign f_value f_word f_wrongAt f_piled f_opened f_joins g_open g_pile g_told (1 : Int32) H locs ls ⟨hP, hD, hS⟩ (lv_sub hl [0] rfl) hf
