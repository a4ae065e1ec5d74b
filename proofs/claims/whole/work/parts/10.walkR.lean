set_option maxHeartbeats 4000000 in
set_option maxRecDepth 100000 in
theorem c_R_partMany (l : Launch) (G : va_G × (Nat → ClassId)) (Y : (Nat → Nat) × (Nat → Nat)) (h0 : Nat) (a_all : Nat) (a_text : Nat) (a_saved : Nat) (a_undone : Nat) (a_told : Nat) (a_pile : Nat) (a_open : Nat) (a_size : Nat) (a_capped : Nat) (a_connected : Nat) (a_bestCost : Nat) (a_bestCrosses : Nat) (a_bestPart : Nat) (a_part : Nat) (a_trees : Nat) (a_nodes : Nat) (a_out : Nat) (a_kept : Nat) (f_raised : Int32) (f_undos : Int32) (f_reached : Int32) (f_length : Int32) (f_begin : Int32) (f_sort : Int32) (f_sign : Int32) (f_value : Int32) (f_word : Int64) (f_wrongAt : Int32) (f_badAt : Int32) (f_bad : Int32) (f_read : Int32) (f_side : Int32) (f_piled : Int32) (f_opened : Int32) (f_joins : Int32) (f_had : Int32) (f_treeMany : Int32) (f_nodeMany : Int32) (f_moveNode : Int32) (f_movePart : Int32) (f_moveFirst : Int32) (f_moveThen : Int32) (f_moveOther : Int32) (f_outMany : Int32) (g_all : Nat → Int32) (g_trees : Nat → Int32) (N : Nat) (res : Int32 × Int32 × (Nat → Int32)) (hf : R_partMany N f_treeMany g_all g_trees = some res) : Ci l classes y_R_partMany b_R_partMany 4 (some .int) (rmk 2) G.1 (tyL G) Y [.ref h0] [(h0, O_R f_raised a_all a_text a_saved a_undone f_undos f_reached f_length f_begin f_sort f_sign f_value f_word f_wrongAt f_badAt f_bad a_told f_read f_side a_pile f_piled a_open f_opened f_joins f_had a_size a_capped a_connected a_bestCost a_bestCrosses a_bestPart a_part a_trees f_treeMany a_nodes f_nodeMany f_moveNode f_movePart f_moveFirst f_moveThen f_moveOther a_out f_outMany a_kept), (a_all, aI G 1276 g_all), (a_trees, aI G 8 g_trees)] [(h0, O_R f_raised a_all a_text a_saved a_undone f_undos f_reached f_length f_begin f_sort f_sign f_value f_word f_wrongAt f_badAt f_bad a_told f_read f_side a_pile f_piled a_open f_opened f_joins f_had a_size a_capped a_connected a_bestCost a_bestCrosses a_bestPart a_part a_trees res.2.1 a_nodes f_nodeMany f_moveNode f_movePart f_moveFirst f_moveThen f_moveOther a_out f_outMany a_kept), (a_all, aI G 1276 g_all), (a_trees, aI G 8 res.2.2)] res.1 := by
  refine entI (by decide) (Nat.le_of_ble_eq_true rfl) ?_
  intro p e s m args below meth c ls A Q hx hb hml hown htl hK hsk wq hl hret
  obtain ⟨hP, hD, hS⟩ := wq
  have hl : lv_has ls 4 [(0, .ref h0)] := hl
  have hS : va_S A s.heap s.heap [] := hS
  obtain ⟨H, hH⟩ : ∃ H : Heap, H = s.heap := ⟨_, rfl⟩
  obtain ⟨locs, hlocs⟩ : ∃ z : List Loc, z = [] := ⟨_, rfl⟩
  rw [← hH] at hP
  replace hS : va_S A s.heap H locs := by rw [hH, hlocs]; exact hS
  suffices hgo : W p l e (rmk 2) s m args below meth c H locs 0 0 Q (F0 m 0 ls []) by rw [hH, hlocs] at hgo; exact hgo
  have hJ147 : ∀ (f_treeMany : Int32) (g_trees : Nat → Int32) (H : Heap) (locs : List Loc) (ls : Array Slot), PDS G.1 classes A s [(h0, O_R f_raised a_all a_text a_saved a_undone f_undos f_reached f_length f_begin f_sort f_sign f_value f_word f_wrongAt f_badAt f_bad a_told f_read f_side a_pile f_piled a_open f_opened f_joins f_had a_size a_capped a_connected a_bestCost a_bestCrosses a_bestPart a_part a_trees f_treeMany a_nodes f_nodeMany f_moveNode f_movePart f_moveFirst f_moveThen f_moveOther a_out f_outMany a_kept), (a_all, aI G 1276 g_all), (a_trees, aI G 8 g_trees)] H locs → lv_has ls 4 [(0, .ref h0)] → R_partMany_147 N f_treeMany g_all g_trees = some res → W p l e (rmk 2) s m args below meth c H locs 0 0 Q (F0 m 147 ls []) := by
    intro f_treeMany g_trees H locs ls wq hl hf
    obtain ⟨hP, hD, hS⟩ := wq
    refine lv_aload_n hx hb d_R_partMany_147 rfl (lv_at hl 0 rfl) ?_
    refine va_get (D := G.1) (ci := 12) (v := .int f_treeMany) (C := n_R) (T := T_R) (N := 44) hx hb htl iw_R hown hK hP 0 rfl rfl 33 (by decide) (htl _ k_1229) (fun _ h9 => h9) rfl d_R_partMany_148 ?_
    cases hf
    exact hret 151 ls H locs hP hS d_R_partMany_151
  have hJ37 : ∀ (f_treeMany : Int32) (g_trees : Nat → Int32) (x1 : Int32) (H : Heap) (locs : List Loc) (ls : Array Slot), PDS G.1 classes A s [(h0, O_R f_raised a_all a_text a_saved a_undone f_undos f_reached f_length f_begin f_sort f_sign f_value f_word f_wrongAt f_badAt f_bad a_told f_read f_side a_pile f_piled a_open f_opened f_joins f_had a_size a_capped a_connected a_bestCost a_bestCrosses a_bestPart a_part a_trees f_treeMany a_nodes f_nodeMany f_moveNode f_movePart f_moveFirst f_moveThen f_moveOther a_out f_outMany a_kept), (a_all, aI G 1276 g_all), (a_trees, aI G 8 g_trees)] H locs → lv_has ls 4 [(0, .ref h0), (1, .int x1)] → R_partMany_37 N f_treeMany g_all g_trees x1 = some res → W p l e (rmk 2) s m args below meth c H locs 0 0 Q (F0 m 37 ls []) := by
    intro f_treeMany g_trees x1 H locs ls wq hl hf
    obtain ⟨hP, hD, hS⟩ := wq
    obtain ⟨y37, hy37, hfo37⟩ := db_e hf
    have hL37 : ∀ (n : Nat) (f_treeMany : Int32) (g_trees : Nat → Int32) (x1 : Int32) (H : Heap) (locs : List Loc) (ls : Array Slot), lp (fun x => R_partMany_b37 N x.1 g_all x.2.1 x.2.2) n (f_treeMany, g_trees, x1) = some y37 → PDS G.1 classes A s [(h0, O_R f_raised a_all a_text a_saved a_undone f_undos f_reached f_length f_begin f_sort f_sign f_value f_word f_wrongAt f_badAt f_bad a_told f_read f_side a_pile f_piled a_open f_opened f_joins f_had a_size a_capped a_connected a_bestCost a_bestCrosses a_bestPart a_part a_trees f_treeMany a_nodes f_nodeMany f_moveNode f_movePart f_moveFirst f_moveThen f_moveOther a_out f_outMany a_kept), (a_all, aI G 1276 g_all), (a_trees, aI G 8 g_trees)] H locs → lv_has ls 4 [(0, .ref h0), (1, .int x1)] → W p l e (rmk 2) s m args below meth c H locs 0 0 Q (F0 m 37 ls []) := by
      intro n
      induction n with
      | zero =>
        intro f_treeMany g_trees x1 H locs ls hf
        exact lp_0 hf
      | succ n ih37 =>
        intro f_treeMany g_trees x1 H locs ls hf wq hl
        obtain ⟨hP, hD, hS⟩ := wq
        obtain ⟨r37, hf, hk37⟩ := lp_s hf
        have hf : R_partMany_b37 N f_treeMany g_all g_trees x1 = some r37 := hf
        have hJ144 : ∀ (f_treeMany : Int32) (g_trees : Nat → Int32) (x1 : Int32) (H : Heap) (locs : List Loc) (ls : Array Slot), PDS G.1 classes A s [(h0, O_R f_raised a_all a_text a_saved a_undone f_undos f_reached f_length f_begin f_sort f_sign f_value f_word f_wrongAt f_badAt f_bad a_told f_read f_side a_pile f_piled a_open f_opened f_joins f_had a_size a_capped a_connected a_bestCost a_bestCrosses a_bestPart a_part a_trees f_treeMany a_nodes f_nodeMany f_moveNode f_movePart f_moveFirst f_moveThen f_moveOther a_out f_outMany a_kept), (a_all, aI G 1276 g_all), (a_trees, aI G 8 g_trees)] H locs → lv_has ls 4 [(0, .ref h0), (1, .int x1)] → R_partMany_144 N f_treeMany g_all g_trees x1 = some r37 → W p l e (rmk 2) s m args below meth c H locs 0 0 Q (F0 m 144 ls []) := by
          intro f_treeMany g_trees x1 H locs ls wq hl hf
          obtain ⟨hP, hD, hS⟩ := wq
          refine lv_goto (tgt := 37) hx hb d_R_partMany_144 (by decide) ?_
          exact ih37 f_treeMany g_trees x1 H locs ls (lpk_i hf hk37) ⟨hP, hD, hS⟩ (lv_sub hl [0, 1] rfl)
        have hJ45 : ∀ (f_treeMany : Int32) (g_trees : Nat → Int32) (x1 : Int32) (x2 : Int32) (H : Heap) (locs : List Loc) (ls : Array Slot), PDS G.1 classes A s [(h0, O_R f_raised a_all a_text a_saved a_undone f_undos f_reached f_length f_begin f_sort f_sign f_value f_word f_wrongAt f_badAt f_bad a_told f_read f_side a_pile f_piled a_open f_opened f_joins f_had a_size a_capped a_connected a_bestCost a_bestCrosses a_bestPart a_part a_trees f_treeMany a_nodes f_nodeMany f_moveNode f_movePart f_moveFirst f_moveThen f_moveOther a_out f_outMany a_kept), (a_all, aI G 1276 g_all), (a_trees, aI G 8 g_trees)] H locs → lv_has ls 4 [(0, .ref h0), (1, .int x1), (2, .int x2)] → R_partMany_45 N f_treeMany g_all g_trees x1 x2 = some r37 → W p l e (rmk 2) s m args below meth c H locs 0 0 Q (F0 m 45 ls []) := by
          intro f_treeMany g_trees x1 x2 H locs ls wq hl hf
          obtain ⟨hP, hD, hS⟩ := wq
          obtain ⟨y45, hy45, hfo45⟩ := db_e hf
          have hL45 : ∀ (n : Nat) (f_treeMany : Int32) (g_trees : Nat → Int32) (x1 : Int32) (x2 : Int32) (H : Heap) (locs : List Loc) (ls : Array Slot), lp (fun x => R_partMany_b45 N x.1 g_all x.2.1 x.2.2.1 x.2.2.2) n (f_treeMany, g_trees, x1, x2) = some y45 → PDS G.1 classes A s [(h0, O_R f_raised a_all a_text a_saved a_undone f_undos f_reached f_length f_begin f_sort f_sign f_value f_word f_wrongAt f_badAt f_bad a_told f_read f_side a_pile f_piled a_open f_opened f_joins f_had a_size a_capped a_connected a_bestCost a_bestCrosses a_bestPart a_part a_trees f_treeMany a_nodes f_nodeMany f_moveNode f_movePart f_moveFirst f_moveThen f_moveOther a_out f_outMany a_kept), (a_all, aI G 1276 g_all), (a_trees, aI G 8 g_trees)] H locs → lv_has ls 4 [(0, .ref h0), (1, .int x1), (2, .int x2)] → W p l e (rmk 2) s m args below meth c H locs 0 0 Q (F0 m 45 ls []) := by
            intro n
            induction n with
            | zero =>
              intro f_treeMany g_trees x1 x2 H locs ls hf
              exact lp_0 hf
            | succ n ih45 =>
              intro f_treeMany g_trees x1 x2 H locs ls hf wq hl
              obtain ⟨hP, hD, hS⟩ := wq
              obtain ⟨r45, hf, hk45⟩ := lp_s hf
              have hf : R_partMany_b45 N f_treeMany g_all g_trees x1 x2 = some r45 := hf
              have hJ138 : ∀ (f_treeMany : Int32) (g_trees : Nat → Int32) (x1 : Int32) (x2 : Int32) (H : Heap) (locs : List Loc) (ls : Array Slot), PDS G.1 classes A s [(h0, O_R f_raised a_all a_text a_saved a_undone f_undos f_reached f_length f_begin f_sort f_sign f_value f_word f_wrongAt f_badAt f_bad a_told f_read f_side a_pile f_piled a_open f_opened f_joins f_had a_size a_capped a_connected a_bestCost a_bestCrosses a_bestPart a_part a_trees f_treeMany a_nodes f_nodeMany f_moveNode f_movePart f_moveFirst f_moveThen f_moveOther a_out f_outMany a_kept), (a_all, aI G 1276 g_all), (a_trees, aI G 8 g_trees)] H locs → lv_has ls 4 [(0, .ref h0), (1, .int x1), (2, .int x2)] → R_partMany_138 N f_treeMany g_all g_trees x1 x2 = some r45 → W p l e (rmk 2) s m args below meth c H locs 0 0 Q (F0 m 138 ls []) := by
                intro f_treeMany g_trees x1 x2 H locs ls wq hl hf
                obtain ⟨hP, hD, hS⟩ := wq
                obtain ⟨v22, ev22⟩ : ∃ z : Int32, z = x2 + (1 : Int32) := ⟨_, rfl⟩
                have hf := dn_e ev22 hf
                refine lv_iinc (v := v22) (lv' := [(2, .int v22), (0, .ref h0), (1, .int x1)]) hx hb d_R_partMany_138 hl (k := 2) rfl (by rw [ev22]; rfl) (by decide) rfl (fun ls hl => ?_)
                refine lv_goto (tgt := 45) hx hb d_R_partMany_141 (by decide) ?_
                exact ih45 f_treeMany g_trees x1 v22 H locs ls (lpk_i hf hk45) ⟨hP, hD, hS⟩ (lv_sub hl [1, 2, 0] rfl)
              have hJ57 : ∀ (f_treeMany : Int32) (g_trees : Nat → Int32) (x1 : Int32) (x2 : Int32) (x3 : Int32) (H : Heap) (locs : List Loc) (ls : Array Slot), PDS G.1 classes A s [(h0, O_R f_raised a_all a_text a_saved a_undone f_undos f_reached f_length f_begin f_sort f_sign f_value f_word f_wrongAt f_badAt f_bad a_told f_read f_side a_pile f_piled a_open f_opened f_joins f_had a_size a_capped a_connected a_bestCost a_bestCrosses a_bestPart a_part a_trees f_treeMany a_nodes f_nodeMany f_moveNode f_movePart f_moveFirst f_moveThen f_moveOther a_out f_outMany a_kept), (a_all, aI G 1276 g_all), (a_trees, aI G 8 g_trees)] H locs → lv_has ls 4 [(0, .ref h0), (1, .int x1), (2, .int x2), (3, .int x3)] → R_partMany_57 N f_treeMany g_all g_trees x1 x2 x3 = some r45 → W p l e (rmk 2) s m args below meth c H locs 0 0 Q (F0 m 57 ls []) := by
                intro f_treeMany g_trees x1 x2 x3 H locs ls wq hl hf
                obtain ⟨hP, hD, hS⟩ := wq
                obtain ⟨y57, hy57, hfo57⟩ := db_e hf
                have hL57 : ∀ (n : Nat) (f_treeMany : Int32) (g_trees : Nat → Int32) (x1 : Int32) (x3 : Int32) (H : Heap) (locs : List Loc) (ls : Array Slot), lp (fun x => R_partMany_b57 N x.1 g_all x.2.1 x.2.2.1 x2 x.2.2.2) n (f_treeMany, g_trees, x1, x3) = some y57 → PDS G.1 classes A s [(h0, O_R f_raised a_all a_text a_saved a_undone f_undos f_reached f_length f_begin f_sort f_sign f_value f_word f_wrongAt f_badAt f_bad a_told f_read f_side a_pile f_piled a_open f_opened f_joins f_had a_size a_capped a_connected a_bestCost a_bestCrosses a_bestPart a_part a_trees f_treeMany a_nodes f_nodeMany f_moveNode f_movePart f_moveFirst f_moveThen f_moveOther a_out f_outMany a_kept), (a_all, aI G 1276 g_all), (a_trees, aI G 8 g_trees)] H locs → lv_has ls 4 [(0, .ref h0), (1, .int x1), (2, .int x2), (3, .int x3)] → W p l e (rmk 2) s m args below meth c H locs 0 0 Q (F0 m 57 ls []) := by
                  intro n
                  induction n with
                  | zero =>
                    intro f_treeMany g_trees x1 x3 H locs ls hf
                    exact lp_0 hf
                  | succ n ih57 =>
                    intro f_treeMany g_trees x1 x3 H locs ls hf wq hl
                    obtain ⟨hP, hD, hS⟩ := wq
                    obtain ⟨r57, hf, hk57⟩ := lp_s hf
                    have hf : R_partMany_b57 N f_treeMany g_all g_trees x1 x2 x3 = some r57 := hf
                    refine lv_iload_n hx hb d_R_partMany_57 rfl (lv_at hl 3 rfl) ?_
                    refine lv_aload_n hx hb d_R_partMany_58 rfl (lv_at hl 0 rfl) ?_
                    refine va_get (D := G.1) (ci := 12) (v := .int f_treeMany) (C := n_R) (T := T_R) (N := 44) hx hb htl iw_R hown hK hP 0 rfl rfl 33 (by decide) (htl _ k_1229) (fun _ h9 => h9) rfl d_R_partMany_59 ?_
                    refine lv_icmp_ge (tgt := 138) hx hb d_R_partMany_62 (by decide) (fun c9 => ?_) (fun c9 => ?_)
                    · have hf := di_t c9 hf
                      have hq57 := lpk_x hf hk57
                      have hf := ex_y (f := fun y => R_partMany_a57 N g_all x2 y) hq57 hfo57
                      have hf : R_partMany_138 N f_treeMany g_all g_trees x1 x2 = some r45 := hf
                      exact hJ138 f_treeMany g_trees x1 x2 H locs ls ⟨hP, hD, hS⟩ (lv_sub hl [0, 1, 2] rfl) hf
                    · have hf := di_f c9 hf
                      refine lv_iload_n hx hb d_R_partMany_65 rfl (lv_at hl 1 rfl) ?_
                      refine lv_if_ne (tgt := 138) hx hb d_R_partMany_66 (by decide) (fun c10 => ?_) (fun c10 => ?_)
                      · have hf := di_f c10 hf
                        have hq57 := lpk_x hf hk57
                        have hf := ex_y (f := fun y => R_partMany_a57 N g_all x2 y) hq57 hfo57
                        have hf : R_partMany_138 N f_treeMany g_all g_trees x1 x2 = some r45 := hf
                        exact hJ138 f_treeMany g_trees x1 x2 H locs ls ⟨hP, hD, hS⟩ (lv_sub hl [0, 1, 2] rfl) hf
                      · have hf := di_t c10 hf
                        refine lv_aload_n hx hb d_R_partMany_69 rfl (lv_at hl 0 rfl) ?_
                        refine lv_aload_n hx hb d_R_partMany_70 rfl (lv_at hl 0 rfl) ?_
                        refine va_get (D := G.1) (ci := 12) (v := .ref a_trees) (C := n_R) (T := T_R) (N := 44) hx hb htl iw_R hown hK hP 0 rfl rfl 32 (by decide) (htl _ k_1228) (fun _ h9 => h9) rfl d_R_partMany_71 ?_
                        refine lv_iload_n hx hb d_R_partMany_74 rfl (lv_at hl 2 rfl) ?_
                        obtain ⟨c11, hf⟩ := dk_e hf
                        refine va_iald hx hb hK hP 2 1 rfl rfl c11 d_R_partMany_75 ?_
                        refine lv_aload_n hx hb d_R_partMany_76 rfl (lv_at hl 0 rfl) ?_
                        refine va_get (D := G.1) (ci := 12) (v := .ref a_trees) (C := n_R) (T := T_R) (N := 44) hx hb htl iw_R hown hK hP 0 rfl rfl 32 (by decide) (htl _ k_1228) (fun _ h9 => h9) rfl d_R_partMany_77 ?_
                        refine lv_iload_n hx hb d_R_partMany_80 rfl (lv_at hl 3 rfl) ?_
                        obtain ⟨c12, hf⟩ := dk_e hf
                        refine va_iald hx hb hK hP 2 1 rfl rfl c12 d_R_partMany_81 ?_
                        obtain ⟨t13, hv14, hf⟩ := db_e hf
                        refine call_i (isC := [0, 1]) (run_V (As := [.int (g_trees x2.toNatClampNeg), .int (g_trees x3.toNatClampNeg)]) (rest := []) (ci := 12) (q0 := 0) hx hb hml hown htl (c_R_isJoined l G Y  h0 a_all a_text a_saved a_undone a_told a_pile a_open a_size a_capped a_connected a_bestCost a_bestCrosses a_bestPart a_part a_trees a_nodes a_out a_kept f_raised f_undos f_reached f_length f_begin f_sort f_sign f_value f_word f_wrongAt f_badAt f_bad f_read f_side f_piled f_opened f_joins f_had f_treeMany f_nodeMany f_moveNode f_movePart f_moveFirst f_moveThen f_moveOther f_outMany g_all (g_trees x2.toNatClampNeg) (g_trees x3.toNatClampNeg) N t13 hv14) mv_R_isJoined k_1531 (hRk (by decide) (by decide)) hK hsk hS hP hD (isC := [0, 1]) rfl (by decide) rfl rfl rfl hl.1 rfl (lv_room (Nat.le_of_ble_eq_true rfl)) d_R_partMany_82) hP hD hS rfl rfl (fun H locs hP hD hS => ?_)
                        have hP : va_P G.1 classes [(h0, O_R f_raised a_all a_text a_saved a_undone f_undos f_reached f_length f_begin f_sort f_sign f_value f_word f_wrongAt f_badAt f_bad a_told f_read f_side a_pile f_piled a_open f_opened f_joins f_had a_size a_capped a_connected a_bestCost a_bestCrosses a_bestPart a_part a_trees f_treeMany a_nodes f_nodeMany f_moveNode f_movePart f_moveFirst f_moveThen f_moveOther a_out f_outMany a_kept), (a_all, aI G 1276 g_all), (a_trees, aI G 8 g_trees)] H := hP
                        have hD : va_D A [(h0, O_R f_raised a_all a_text a_saved a_undone f_undos f_reached f_length f_begin f_sort f_sign f_value f_word f_wrongAt f_badAt f_bad a_told f_read f_side a_pile f_piled a_open f_opened f_joins f_had a_size a_capped a_connected a_bestCost a_bestCrosses a_bestPart a_part a_trees f_treeMany a_nodes f_nodeMany f_moveNode f_movePart f_moveFirst f_moveThen f_moveOther a_out f_outMany a_kept), (a_all, aI G 1276 g_all), (a_trees, aI G 8 g_trees)] := hD
                        refine lv_istore_n (lv' := [(1, .int t13), (0, .ref h0), (2, .int x2), (3, .int x3)]) hx hb d_R_partMany_85 rfl hl (by decide) rfl (fun ls hl => ?_)
                        refine lv_iload_n hx hb d_R_partMany_86 rfl (lv_at hl 0 rfl) ?_
                        refine lv_if_eq (tgt := 132) hx hb d_R_partMany_87 (by decide) (fun c15 => ?_) (fun c15 => ?_)
                        · have hf := di_t c15 hf
                          obtain ⟨v16, ev16⟩ : ∃ z : Int32, z = x3 + (1 : Int32) := ⟨_, rfl⟩
                          have hf := dn_e ev16 hf
                          refine lv_iinc (v := v16) (lv' := [(3, .int v16), (1, .int t13), (0, .ref h0), (2, .int x2)]) hx hb d_R_partMany_132 hl (k := 3) rfl (by rw [ev16]; rfl) (by decide) rfl (fun ls hl => ?_)
                          refine lv_goto (tgt := 57) hx hb d_R_partMany_135 (by decide) ?_
                          exact ih57 f_treeMany g_trees t13 v16 H locs ls (lpk_i hf hk57) ⟨hP, hD, hS⟩ (lv_sub hl [2, 1, 3, 0] rfl)
                        · have hf := di_f c15 hf
                          refine lv_aload_n hx hb d_R_partMany_90 rfl (lv_at hl 1 rfl) ?_
                          refine va_get (D := G.1) (ci := 12) (v := .ref a_trees) (C := n_R) (T := T_R) (N := 44) hx hb htl iw_R hown hK hP 0 rfl rfl 32 (by decide) (htl _ k_1228) (fun _ h9 => h9) rfl d_R_partMany_91 ?_
                          refine lv_iload_n hx hb d_R_partMany_94 rfl (lv_at hl 2 rfl) ?_
                          refine lv_dup2_11 hx hb d_R_partMany_95 rfl rfl ?_
                          refine va_iald hx hb hK hP 2 1 rfl rfl c11 d_R_partMany_96 ?_
                          refine lv_aload_n hx hb d_R_partMany_97 rfl (lv_at hl 1 rfl) ?_
                          refine va_get (D := G.1) (ci := 12) (v := .ref a_trees) (C := n_R) (T := T_R) (N := 44) hx hb htl iw_R hown hK hP 0 rfl rfl 32 (by decide) (htl _ k_1228) (fun _ h9 => h9) rfl d_R_partMany_98 ?_
                          refine lv_iload_n hx hb d_R_partMany_101 rfl (lv_at hl 3 rfl) ?_
                          refine va_iald hx hb hK hP 2 1 rfl rfl c12 d_R_partMany_102 ?_
                          refine lv_ior hx hb d_R_partMany_103 ?_
                          refine nx_iast hx hb hK hP hD hS 2 1 rfl rfl c11 d_R_partMany_104 (fun v17 ev17 H locs hP hD hS => ?_)
                          have hf := dn_e ev17 hf
                          have hP : va_P G.1 classes [(h0, O_R f_raised a_all a_text a_saved a_undone f_undos f_reached f_length f_begin f_sort f_sign f_value f_word f_wrongAt f_badAt f_bad a_told f_read f_side a_pile f_piled a_open f_opened f_joins f_had a_size a_capped a_connected a_bestCost a_bestCrosses a_bestPart a_part a_trees f_treeMany a_nodes f_nodeMany f_moveNode f_movePart f_moveFirst f_moveThen f_moveOther a_out f_outMany a_kept), (a_all, aI G 1276 g_all), (a_trees, aI G 8 v17)] H := hP
                          have hD : va_D A [(h0, O_R f_raised a_all a_text a_saved a_undone f_undos f_reached f_length f_begin f_sort f_sign f_value f_word f_wrongAt f_badAt f_bad a_told f_read f_side a_pile f_piled a_open f_opened f_joins f_had a_size a_capped a_connected a_bestCost a_bestCrosses a_bestPart a_part a_trees f_treeMany a_nodes f_nodeMany f_moveNode f_movePart f_moveFirst f_moveThen f_moveOther a_out f_outMany a_kept), (a_all, aI G 1276 g_all), (a_trees, aI G 8 v17)] := hD
                          refine lv_aload_n hx hb d_R_partMany_105 rfl (lv_at hl 1 rfl) ?_
                          refine va_get (D := G.1) (ci := 12) (v := .ref a_trees) (C := n_R) (T := T_R) (N := 44) hx hb htl iw_R hown hK hP 0 rfl rfl 32 (by decide) (htl _ k_1228) (fun _ h9 => h9) rfl d_R_partMany_106 ?_
                          refine lv_iload_n hx hb d_R_partMany_109 rfl (lv_at hl 3 rfl) ?_
                          refine lv_aload_n hx hb d_R_partMany_110 rfl (lv_at hl 1 rfl) ?_
                          refine va_get (D := G.1) (ci := 12) (v := .ref a_trees) (C := n_R) (T := T_R) (N := 44) hx hb htl iw_R hown hK hP 0 rfl rfl 32 (by decide) (htl _ k_1228) (fun _ h9 => h9) rfl d_R_partMany_111 ?_
                          refine lv_aload_n hx hb d_R_partMany_114 rfl (lv_at hl 1 rfl) ?_
                          refine va_get (D := G.1) (ci := 12) (v := .int f_treeMany) (C := n_R) (T := T_R) (N := 44) hx hb htl iw_R hown hK hP 0 rfl rfl 33 (by decide) (htl _ k_1229) (fun _ h9 => h9) rfl d_R_partMany_115 ?_
                          refine lv_iconst (v := (1 : Int32)) hx hb d_R_partMany_118 (by decide) ?_
                          refine lv_isub hx hb d_R_partMany_119 ?_
                          obtain ⟨c18, hf⟩ := dk_e hf
                          refine va_iald hx hb hK hP 2 1 rfl rfl c18 d_R_partMany_120 ?_
                          refine nx_iast hx hb hK hP hD hS 2 1 rfl rfl c12 d_R_partMany_121 (fun v19 ev19 H locs hP hD hS => ?_)
                          have hf := dn_e ev19 hf
                          have hP : va_P G.1 classes [(h0, O_R f_raised a_all a_text a_saved a_undone f_undos f_reached f_length f_begin f_sort f_sign f_value f_word f_wrongAt f_badAt f_bad a_told f_read f_side a_pile f_piled a_open f_opened f_joins f_had a_size a_capped a_connected a_bestCost a_bestCrosses a_bestPart a_part a_trees f_treeMany a_nodes f_nodeMany f_moveNode f_movePart f_moveFirst f_moveThen f_moveOther a_out f_outMany a_kept), (a_all, aI G 1276 g_all), (a_trees, aI G 8 v19)] H := hP
                          have hD : va_D A [(h0, O_R f_raised a_all a_text a_saved a_undone f_undos f_reached f_length f_begin f_sort f_sign f_value f_word f_wrongAt f_badAt f_bad a_told f_read f_side a_pile f_piled a_open f_opened f_joins f_had a_size a_capped a_connected a_bestCost a_bestCrosses a_bestPart a_part a_trees f_treeMany a_nodes f_nodeMany f_moveNode f_movePart f_moveFirst f_moveThen f_moveOther a_out f_outMany a_kept), (a_all, aI G 1276 g_all), (a_trees, aI G 8 v19)] := hD
                          refine lv_aload_n hx hb d_R_partMany_122 rfl (lv_at hl 1 rfl) ?_
                          refine lv_dup hx hb d_R_partMany_123 rfl ?_
                          refine va_get (D := G.1) (ci := 12) (v := .int f_treeMany) (C := n_R) (T := T_R) (N := 44) hx hb htl iw_R hown hK hP 0 rfl rfl 33 (by decide) (htl _ k_1229) (fun _ h9 => h9) rfl d_R_partMany_124 ?_
                          refine lv_iconst (v := (1 : Int32)) hx hb d_R_partMany_127 (by decide) ?_
                          refine lv_isub hx hb d_R_partMany_128 ?_
                          refine lv_topi (fun v20 ev20 => ?_)
                          have hf := dn_e ev20 hf
                          refine va_put (D := G.1) (ci := 12) (v := .int v20) (ty := .int) (C := n_R) (T := T_R) (N := 44) hx hb htl iw_R ty_R ty_R_ok nm_R hown hK hP hD hS 0 rfl rfl 33 (by decide) (htl _ k_1229) (fun _ h9 => h9) rfl (by decide +kernel) rfl rfl (Nat.le_of_ble_eq_true rfl) d_R_partMany_129 (fun H locs hP hD hS => ?_)
                          have hP : va_P G.1 classes [(h0, O_R f_raised a_all a_text a_saved a_undone f_undos f_reached f_length f_begin f_sort f_sign f_value f_word f_wrongAt f_badAt f_bad a_told f_read f_side a_pile f_piled a_open f_opened f_joins f_had a_size a_capped a_connected a_bestCost a_bestCrosses a_bestPart a_part a_trees v20 a_nodes f_nodeMany f_moveNode f_movePart f_moveFirst f_moveThen f_moveOther a_out f_outMany a_kept), (a_all, aI G 1276 g_all), (a_trees, aI G 8 v19)] H := hP
                          have hD : va_D A [(h0, O_R f_raised a_all a_text a_saved a_undone f_undos f_reached f_length f_begin f_sort f_sign f_value f_word f_wrongAt f_badAt f_bad a_told f_read f_side a_pile f_piled a_open f_opened f_joins f_had a_size a_capped a_connected a_bestCost a_bestCrosses a_bestPart a_part a_trees v20 a_nodes f_nodeMany f_moveNode f_movePart f_moveFirst f_moveThen f_moveOther a_out f_outMany a_kept), (a_all, aI G 1276 g_all), (a_trees, aI G 8 v19)] := hD
                          obtain ⟨v21, ev21⟩ : ∃ z : Int32, z = x3 + (1 : Int32) := ⟨_, rfl⟩
                          have hf := dn_e ev21 hf
                          refine lv_iinc (v := v21) (lv' := [(3, .int v21), (1, .int t13), (0, .ref h0), (2, .int x2)]) hx hb d_R_partMany_132 hl (k := 3) rfl (by rw [ev21]; rfl) (by decide) rfl (fun ls hl => ?_)
                          refine lv_goto (tgt := 57) hx hb d_R_partMany_135 (by decide) ?_
                          exact ih57 v20 v19 t13 v21 H locs ls (lpk_i hf hk57) ⟨hP, hD, hS⟩ (lv_sub hl [2, 1, 3, 0] rfl)
                exact hL57 N f_treeMany g_trees x1 x3 H locs ls hy57 ⟨hP, hD, hS⟩ hl
              refine lv_iload_n hx hb d_R_partMany_45 rfl (lv_at hl 2 rfl) ?_
              refine lv_aload_n hx hb d_R_partMany_46 rfl (lv_at hl 0 rfl) ?_
              refine va_get (D := G.1) (ci := 12) (v := .int f_treeMany) (C := n_R) (T := T_R) (N := 44) hx hb htl iw_R hown hK hP 0 rfl rfl 33 (by decide) (htl _ k_1229) (fun _ h9 => h9) rfl d_R_partMany_47 ?_
              refine lv_icmp_ge (tgt := 144) hx hb d_R_partMany_50 (by decide) (fun c7 => ?_) (fun c7 => ?_)
              · have hf := di_t c7 hf
                have hq45 := lpk_x hf hk45
                have hf := ex_y (f := fun y => R_partMany_a45 N g_all y) hq45 hfo45
                have hf : R_partMany_144 N f_treeMany g_all g_trees x1 = some r37 := hf
                exact hJ144 f_treeMany g_trees x1 H locs ls ⟨hP, hD, hS⟩ (lv_sub hl [0, 1] rfl) hf
              · have hf := di_f c7 hf
                refine lv_iload_n hx hb d_R_partMany_53 rfl (lv_at hl 2 rfl) ?_
                refine lv_iconst (v := (1 : Int32)) hx hb d_R_partMany_54 (by decide) ?_
                refine lv_iadd hx hb d_R_partMany_55 ?_
                refine lv_topi (fun v8 ev8 => ?_)
                have hf := dn_e ev8 hf
                refine lv_istore_n (lv' := [(3, .int v8), (0, .ref h0), (1, .int x1), (2, .int x2)]) hx hb d_R_partMany_56 rfl hl (by decide) rfl (fun ls hl => ?_)
                exact hJ57 f_treeMany g_trees x1 x2 v8 H locs ls ⟨hP, hD, hS⟩ (lv_sub hl [1, 2, 3, 0] rfl) hf
          exact hL45 N f_treeMany g_trees x1 x2 H locs ls hy45 ⟨hP, hD, hS⟩ hl
        refine lv_iload_n hx hb d_R_partMany_37 rfl (lv_at hl 1 rfl) ?_
        refine lv_if_eq (tgt := 147) hx hb d_R_partMany_38 (by decide) (fun c6 => ?_) (fun c6 => ?_)
        · have hf := di_t c6 hf
          have hq37 := lpk_x hf hk37
          have hf := ex_y (f := fun y => R_partMany_a37 N g_all y) hq37 hfo37
          have hf : R_partMany_147 N f_treeMany g_all g_trees = some res := hf
          exact hJ147 f_treeMany g_trees H locs ls ⟨hP, hD, hS⟩ (lv_sub hl [0] rfl) hf
        · have hf := di_f c6 hf
          refine lv_iconst (v := (0 : Int32)) hx hb d_R_partMany_41 (by decide) ?_
          refine lv_istore_n (lv' := [(1, .int (0 : Int32)), (0, .ref h0)]) hx hb d_R_partMany_42 rfl hl (by decide) rfl (fun ls hl => ?_)
          refine lv_iconst (v := (0 : Int32)) hx hb d_R_partMany_43 (by decide) ?_
          refine lv_istore_n (lv' := [(2, .int (0 : Int32)), (1, .int (0 : Int32)), (0, .ref h0)]) hx hb d_R_partMany_44 rfl hl (by decide) rfl (fun ls hl => ?_)
          exact hJ45 f_treeMany g_trees (0 : Int32) (0 : Int32) H locs ls ⟨hP, hD, hS⟩ (lv_sub hl [2, 1, 0] rfl) hf
    exact hL37 N f_treeMany g_trees x1 H locs ls hy37 ⟨hP, hD, hS⟩ hl
  have hJ35 : ∀ (f_treeMany : Int32) (g_trees : Nat → Int32) (H : Heap) (locs : List Loc) (ls : Array Slot), PDS G.1 classes A s [(h0, O_R f_raised a_all a_text a_saved a_undone f_undos f_reached f_length f_begin f_sort f_sign f_value f_word f_wrongAt f_badAt f_bad a_told f_read f_side a_pile f_piled a_open f_opened f_joins f_had a_size a_capped a_connected a_bestCost a_bestCrosses a_bestPart a_part a_trees f_treeMany a_nodes f_nodeMany f_moveNode f_movePart f_moveFirst f_moveThen f_moveOther a_out f_outMany a_kept), (a_all, aI G 1276 g_all), (a_trees, aI G 8 g_trees)] H locs → lv_has ls 4 [(0, .ref h0)] → R_partMany_35 N f_treeMany g_all g_trees = some res → W p l e (rmk 2) s m args below meth c H locs 0 0 Q (F0 m 35 ls []) := by
    intro f_treeMany g_trees H locs ls wq hl hf
    obtain ⟨hP, hD, hS⟩ := wq
    refine lv_iconst (v := (1 : Int32)) hx hb d_R_partMany_35 (by decide) ?_
    refine lv_istore_n (lv' := [(1, .int (1 : Int32)), (0, .ref h0)]) hx hb d_R_partMany_36 rfl hl (by decide) rfl (fun ls hl => ?_)
    exact hJ37 f_treeMany g_trees (1 : Int32) H locs ls ⟨hP, hD, hS⟩ (lv_sub hl [1, 0] rfl) hf
  have hJ12 : ∀ (f_treeMany : Int32) (g_trees : Nat → Int32) (x1 : Int32) (H : Heap) (locs : List Loc) (ls : Array Slot), PDS G.1 classes A s [(h0, O_R f_raised a_all a_text a_saved a_undone f_undos f_reached f_length f_begin f_sort f_sign f_value f_word f_wrongAt f_badAt f_bad a_told f_read f_side a_pile f_piled a_open f_opened f_joins f_had a_size a_capped a_connected a_bestCost a_bestCrosses a_bestPart a_part a_trees f_treeMany a_nodes f_nodeMany f_moveNode f_movePart f_moveFirst f_moveThen f_moveOther a_out f_outMany a_kept), (a_all, aI G 1276 g_all), (a_trees, aI G 8 g_trees)] H locs → lv_has ls 4 [(0, .ref h0), (1, .int x1)] → R_partMany_12 N f_treeMany g_all g_trees x1 = some res → W p l e (rmk 2) s m args below meth c H locs 0 0 Q (F0 m 12 ls []) := by
    intro f_treeMany g_trees x1 H locs ls wq hl hf
    obtain ⟨hP, hD, hS⟩ := wq
    obtain ⟨y12, hy12, hfo12⟩ := db_e hf
    have hL12 : ∀ (n : Nat) (g_trees : Nat → Int32) (x1 : Int32) (H : Heap) (locs : List Loc) (ls : Array Slot), lp (fun x => R_partMany_b12 N f_treeMany g_all x.1 x.2) n (g_trees, x1) = some y12 → PDS G.1 classes A s [(h0, O_R f_raised a_all a_text a_saved a_undone f_undos f_reached f_length f_begin f_sort f_sign f_value f_word f_wrongAt f_badAt f_bad a_told f_read f_side a_pile f_piled a_open f_opened f_joins f_had a_size a_capped a_connected a_bestCost a_bestCrosses a_bestPart a_part a_trees f_treeMany a_nodes f_nodeMany f_moveNode f_movePart f_moveFirst f_moveThen f_moveOther a_out f_outMany a_kept), (a_all, aI G 1276 g_all), (a_trees, aI G 8 g_trees)] H locs → lv_has ls 4 [(0, .ref h0), (1, .int x1)] → W p l e (rmk 2) s m args below meth c H locs 0 0 Q (F0 m 12 ls []) := by
      intro n
      induction n with
      | zero =>
        intro g_trees x1 H locs ls hf
        exact lp_0 hf
      | succ n ih12 =>
        intro g_trees x1 H locs ls hf wq hl
        obtain ⟨hP, hD, hS⟩ := wq
        obtain ⟨r12, hf, hk12⟩ := lp_s hf
        have hf : R_partMany_b12 N f_treeMany g_all g_trees x1 = some r12 := hf
        refine lv_iload_n hx hb d_R_partMany_12 rfl (lv_at hl 1 rfl) ?_
        refine lv_aload_n hx hb d_R_partMany_13 rfl (lv_at hl 0 rfl) ?_
        refine va_get (D := G.1) (ci := 12) (v := .int f_treeMany) (C := n_R) (T := T_R) (N := 44) hx hb htl iw_R hown hK hP 0 rfl rfl 33 (by decide) (htl _ k_1229) (fun _ h9 => h9) rfl d_R_partMany_14 ?_
        refine lv_icmp_ge (tgt := 35) hx hb d_R_partMany_17 (by decide) (fun c2 => ?_) (fun c2 => ?_)
        · have hf := di_t c2 hf
          have hq12 := lpk_x hf hk12
          have hf := ex_y (f := fun y => R_partMany_a12 N f_treeMany g_all y) hq12 hfo12
          have hf : R_partMany_35 N f_treeMany g_all g_trees = some res := hf
          exact hJ35 f_treeMany g_trees H locs ls ⟨hP, hD, hS⟩ (lv_sub hl [0] rfl) hf
        · have hf := di_f c2 hf
          refine lv_aload_n hx hb d_R_partMany_20 rfl (lv_at hl 0 rfl) ?_
          refine va_get (D := G.1) (ci := 12) (v := .ref a_trees) (C := n_R) (T := T_R) (N := 44) hx hb htl iw_R hown hK hP 0 rfl rfl 32 (by decide) (htl _ k_1228) (fun _ h9 => h9) rfl d_R_partMany_21 ?_
          refine lv_iload_n hx hb d_R_partMany_24 rfl (lv_at hl 1 rfl) ?_
          refine lv_iconst (v := (1 : Int32)) hx hb d_R_partMany_25 (by decide) ?_
          refine lv_iload_n hx hb d_R_partMany_26 rfl (lv_at hl 1 rfl) ?_
          refine lv_ishl hx hb d_R_partMany_27 ?_
          obtain ⟨c3, hf⟩ := dk_e hf
          refine nx_iast hx hb hK hP hD hS 2 1 rfl rfl c3 d_R_partMany_28 (fun v4 ev4 H locs hP hD hS => ?_)
          have hf := dn_e ev4 hf
          have hP : va_P G.1 classes [(h0, O_R f_raised a_all a_text a_saved a_undone f_undos f_reached f_length f_begin f_sort f_sign f_value f_word f_wrongAt f_badAt f_bad a_told f_read f_side a_pile f_piled a_open f_opened f_joins f_had a_size a_capped a_connected a_bestCost a_bestCrosses a_bestPart a_part a_trees f_treeMany a_nodes f_nodeMany f_moveNode f_movePart f_moveFirst f_moveThen f_moveOther a_out f_outMany a_kept), (a_all, aI G 1276 g_all), (a_trees, aI G 8 v4)] H := hP
          have hD : va_D A [(h0, O_R f_raised a_all a_text a_saved a_undone f_undos f_reached f_length f_begin f_sort f_sign f_value f_word f_wrongAt f_badAt f_bad a_told f_read f_side a_pile f_piled a_open f_opened f_joins f_had a_size a_capped a_connected a_bestCost a_bestCrosses a_bestPart a_part a_trees f_treeMany a_nodes f_nodeMany f_moveNode f_movePart f_moveFirst f_moveThen f_moveOther a_out f_outMany a_kept), (a_all, aI G 1276 g_all), (a_trees, aI G 8 v4)] := hD
          obtain ⟨v5, ev5⟩ : ∃ z : Int32, z = x1 + (1 : Int32) := ⟨_, rfl⟩
          have hf := dn_e ev5 hf
          refine lv_iinc (v := v5) (lv' := [(1, .int v5), (0, .ref h0)]) hx hb d_R_partMany_29 hl (k := 1) rfl (by rw [ev5]; rfl) (by decide) rfl (fun ls hl => ?_)
          refine lv_goto (tgt := 12) hx hb d_R_partMany_32 (by decide) ?_
          exact ih12 v4 v5 H locs ls (lpk_i hf hk12) ⟨hP, hD, hS⟩ (lv_sub hl [1, 0] rfl)
    exact hL12 N g_trees x1 H locs ls hy12 ⟨hP, hD, hS⟩ hl
  refine lv_aload_n hx hb d_R_partMany_0 rfl (lv_at hl 0 rfl) ?_
  refine lv_aload_n hx hb d_R_partMany_1 rfl (lv_at hl 0 rfl) ?_
  refine va_get (D := G.1) (ci := 12) (v := .ref a_all) (C := n_R) (T := T_R) (N := 44) hx hb htl iw_R hown hK hP 0 rfl rfl 1 (by decide) (htl _ k_1197) (fun _ h9 => h9) rfl d_R_partMany_2 ?_
  refine lv_iconst (v := (0 : Int32)) hx hb d_R_partMany_5 (by decide) ?_
  refine va_iald hx hb hK hP 1 1 rfl rfl (vp_lit (by decide)) d_R_partMany_6 ?_
  refine lv_topi (fun v1 ev1 => ?_)
  have hf := dn_e ev1 hf
  refine va_put (D := G.1) (ci := 12) (v := .int v1) (ty := .int) (C := n_R) (T := T_R) (N := 44) hx hb htl iw_R ty_R ty_R_ok nm_R hown hK hP hD hS 0 rfl rfl 33 (by decide) (htl _ k_1229) (fun _ h9 => h9) rfl (by decide +kernel) rfl rfl (Nat.le_of_ble_eq_true rfl) d_R_partMany_7 (fun H locs hP hD hS => ?_)
  have hP : va_P G.1 classes [(h0, O_R f_raised a_all a_text a_saved a_undone f_undos f_reached f_length f_begin f_sort f_sign f_value f_word f_wrongAt f_badAt f_bad a_told f_read f_side a_pile f_piled a_open f_opened f_joins f_had a_size a_capped a_connected a_bestCost a_bestCrosses a_bestPart a_part a_trees v1 a_nodes f_nodeMany f_moveNode f_movePart f_moveFirst f_moveThen f_moveOther a_out f_outMany a_kept), (a_all, aI G 1276 g_all), (a_trees, aI G 8 g_trees)] H := hP
  have hD : va_D A [(h0, O_R f_raised a_all a_text a_saved a_undone f_undos f_reached f_length f_begin f_sort f_sign f_value f_word f_wrongAt f_badAt f_bad a_told f_read f_side a_pile f_piled a_open f_opened f_joins f_had a_size a_capped a_connected a_bestCost a_bestCrosses a_bestPart a_part a_trees v1 a_nodes f_nodeMany f_moveNode f_movePart f_moveFirst f_moveThen f_moveOther a_out f_outMany a_kept), (a_all, aI G 1276 g_all), (a_trees, aI G 8 g_trees)] := hD
  refine lv_iconst (v := (0 : Int32)) hx hb d_R_partMany_10 (by decide) ?_
  refine lv_istore_n (lv' := [(1, .int (0 : Int32)), (0, .ref h0)]) hx hb d_R_partMany_11 rfl hl (by decide) rfl (fun ls hl => ?_)
  exact hJ12 v1 g_trees (0 : Int32) H locs ls ⟨hP, hD, hS⟩ (lv_sub hl [1, 0] rfl) hf
set_option maxHeartbeats 4000000 in
set_option maxRecDepth 100000 in
theorem c_R_joinMany (l : Launch) (G : va_G × (Nat → ClassId)) (Y : (Nat → Nat) × (Nat → Nat)) (h0 : Nat) (a_all : Nat) (a_text : Nat) (a_saved : Nat) (a_undone : Nat) (a_told : Nat) (a_pile : Nat) (a_open : Nat) (a_size : Nat) (a_capped : Nat) (a_connected : Nat) (a_bestCost : Nat) (a_bestCrosses : Nat) (a_bestPart : Nat) (a_part : Nat) (a_trees : Nat) (a_nodes : Nat) (a_out : Nat) (a_kept : Nat) (f_raised : Int32) (f_undos : Int32) (f_reached : Int32) (f_length : Int32) (f_begin : Int32) (f_sort : Int32) (f_sign : Int32) (f_value : Int32) (f_word : Int64) (f_wrongAt : Int32) (f_badAt : Int32) (f_bad : Int32) (f_read : Int32) (f_side : Int32) (f_piled : Int32) (f_opened : Int32) (f_joins : Int32) (f_had : Int32) (f_treeMany : Int32) (f_nodeMany : Int32) (f_moveNode : Int32) (f_movePart : Int32) (f_moveFirst : Int32) (f_moveThen : Int32) (f_moveOther : Int32) (f_outMany : Int32) (g_part : Nat → Int32) (N : Nat) (res : Int32) (hf : R_joinMany N g_part = some res) : Ci l classes y_R_joinMany b_R_joinMany 3 (some .int) (rmk 0) G.1 (tyL G) Y [.ref h0] [(h0, O_R f_raised a_all a_text a_saved a_undone f_undos f_reached f_length f_begin f_sort f_sign f_value f_word f_wrongAt f_badAt f_bad a_told f_read f_side a_pile f_piled a_open f_opened f_joins f_had a_size a_capped a_connected a_bestCost a_bestCrosses a_bestPart a_part a_trees f_treeMany a_nodes f_nodeMany f_moveNode f_movePart f_moveFirst f_moveThen f_moveOther a_out f_outMany a_kept), (a_part, aI G 256 g_part)] [(h0, O_R f_raised a_all a_text a_saved a_undone f_undos f_reached f_length f_begin f_sort f_sign f_value f_word f_wrongAt f_badAt f_bad a_told f_read f_side a_pile f_piled a_open f_opened f_joins f_had a_size a_capped a_connected a_bestCost a_bestCrosses a_bestPart a_part a_trees f_treeMany a_nodes f_nodeMany f_moveNode f_movePart f_moveFirst f_moveThen f_moveOther a_out f_outMany a_kept), (a_part, aI G 256 g_part)] res := by
  refine entI (by decide) (Nat.le_of_ble_eq_true rfl) ?_
  intro p e s m args below meth c ls A Q hx hb hml hown htl hK hsk wq hl hret
  obtain ⟨hP, hD, hS⟩ := wq
  have hl : lv_has ls 3 [(0, .ref h0)] := hl
  have hS : va_S A s.heap s.heap [] := hS
  obtain ⟨H, hH⟩ : ∃ H : Heap, H = s.heap := ⟨_, rfl⟩
  obtain ⟨locs, hlocs⟩ : ∃ z : List Loc, z = [] := ⟨_, rfl⟩
  rw [← hH] at hP
  replace hS : va_S A s.heap H locs := by rw [hH, hlocs]; exact hS
  suffices hgo : W p l e (rmk 0) s m args below meth c H locs 0 0 Q (F0 m 0 ls []) by rw [hH, hlocs] at hgo; exact hgo
  have hJ34 : ∀ (x1 : Int32) (H : Heap) (locs : List Loc) (ls : Array Slot), PDS G.1 classes A s [(h0, O_R f_raised a_all a_text a_saved a_undone f_undos f_reached f_length f_begin f_sort f_sign f_value f_word f_wrongAt f_badAt f_bad a_told f_read f_side a_pile f_piled a_open f_opened f_joins f_had a_size a_capped a_connected a_bestCost a_bestCrosses a_bestPart a_part a_trees f_treeMany a_nodes f_nodeMany f_moveNode f_movePart f_moveFirst f_moveThen f_moveOther a_out f_outMany a_kept), (a_part, aI G 256 g_part)] H locs → lv_has ls 3 [(1, .int x1)] → R_joinMany_34 N g_part x1 = some res → W p l e (rmk 0) s m args below meth c H locs 0 0 Q (F0 m 34 ls []) := by
    intro x1 H locs ls wq hl hf
    obtain ⟨hP, hD, hS⟩ := wq
    refine lv_iload_n hx hb d_R_joinMany_34 rfl (lv_at hl 0 rfl) ?_
    cases hf
    exact hret 35 ls H locs hP hS d_R_joinMany_35
  have hJ4 : ∀ (x1 : Int32) (x2 : Int32) (H : Heap) (locs : List Loc) (ls : Array Slot), PDS G.1 classes A s [(h0, O_R f_raised a_all a_text a_saved a_undone f_undos f_reached f_length f_begin f_sort f_sign f_value f_word f_wrongAt f_badAt f_bad a_told f_read f_side a_pile f_piled a_open f_opened f_joins f_had a_size a_capped a_connected a_bestCost a_bestCrosses a_bestPart a_part a_trees f_treeMany a_nodes f_nodeMany f_moveNode f_movePart f_moveFirst f_moveThen f_moveOther a_out f_outMany a_kept), (a_part, aI G 256 g_part)] H locs → lv_has ls 3 [(0, .ref h0), (1, .int x1), (2, .int x2)] → R_joinMany_4 N g_part x1 x2 = some res → W p l e (rmk 0) s m args below meth c H locs 0 0 Q (F0 m 4 ls []) := by
    intro x1 x2 H locs ls wq hl hf
    obtain ⟨hP, hD, hS⟩ := wq
    obtain ⟨y4, hy4, hfo4⟩ := db_e hf
    have hL4 : ∀ (n : Nat) (x1 : Int32) (x2 : Int32) (H : Heap) (locs : List Loc) (ls : Array Slot), lp (fun x => R_joinMany_b4 N g_part x.1 x.2) n (x1, x2) = some y4 → PDS G.1 classes A s [(h0, O_R f_raised a_all a_text a_saved a_undone f_undos f_reached f_length f_begin f_sort f_sign f_value f_word f_wrongAt f_badAt f_bad a_told f_read f_side a_pile f_piled a_open f_opened f_joins f_had a_size a_capped a_connected a_bestCost a_bestCrosses a_bestPart a_part a_trees f_treeMany a_nodes f_nodeMany f_moveNode f_movePart f_moveFirst f_moveThen f_moveOther a_out f_outMany a_kept), (a_part, aI G 256 g_part)] H locs → lv_has ls 3 [(0, .ref h0), (1, .int x1), (2, .int x2)] → W p l e (rmk 0) s m args below meth c H locs 0 0 Q (F0 m 4 ls []) := by
      intro n
      induction n with
      | zero =>
        intro x1 x2 H locs ls hf
        exact lp_0 hf
      | succ n ih4 =>
        intro x1 x2 H locs ls hf wq hl
        obtain ⟨hP, hD, hS⟩ := wq
        obtain ⟨r4, hf, hk4⟩ := lp_s hf
        have hf : R_joinMany_b4 N g_part x1 x2 = some r4 := hf
        have hJ26 : ∀ (x2 : Int32) (z0 : Int32) (z1 : Int32) (H : Heap) (locs : List Loc) (ls : Array Slot), PDS G.1 classes A s [(h0, O_R f_raised a_all a_text a_saved a_undone f_undos f_reached f_length f_begin f_sort f_sign f_value f_word f_wrongAt f_badAt f_bad a_told f_read f_side a_pile f_piled a_open f_opened f_joins f_had a_size a_capped a_connected a_bestCost a_bestCrosses a_bestPart a_part a_trees f_treeMany a_nodes f_nodeMany f_moveNode f_movePart f_moveFirst f_moveThen f_moveOther a_out f_outMany a_kept), (a_part, aI G 256 g_part)] H locs → lv_has ls 3 [(0, .ref h0), (2, .int x2)] → R_joinMany_26 N g_part x2 z0 z1 = some r4 → W p l e (rmk 0) s m args below meth c H locs 0 0 Q (F0 m 26 ls [.int z1, .int z0]) := by
          intro x2 z0 z1 H locs ls wq hl hf
          obtain ⟨hP, hD, hS⟩ := wq
          refine lv_iadd hx hb d_R_joinMany_26 ?_
          refine lv_topi (fun v4 ev4 => ?_)
          have hf := dn_e ev4 hf
          refine lv_istore_n (lv' := [(1, .int v4), (0, .ref h0), (2, .int x2)]) hx hb d_R_joinMany_27 rfl hl (by decide) rfl (fun ls hl => ?_)
          obtain ⟨v5, ev5⟩ : ∃ z : Int32, z = x2 + (1 : Int32) := ⟨_, rfl⟩
          have hf := dn_e ev5 hf
          refine lv_iinc (v := v5) (lv' := [(2, .int v5), (1, .int v4), (0, .ref h0)]) hx hb d_R_joinMany_28 hl (k := 2) rfl (by rw [ev5]; rfl) (by decide) rfl (fun ls hl => ?_)
          refine lv_goto (tgt := 4) hx hb d_R_joinMany_31 (by decide) ?_
          exact ih4 v4 v5 H locs ls (lpk_i hf hk4) ⟨hP, hD, hS⟩ (lv_sub hl [2, 1, 0] rfl)
        refine lv_iload_n hx hb d_R_joinMany_4 rfl (lv_at hl 2 rfl) ?_
        refine lv_sipush (v := (256 : Int32)) hx hb d_R_joinMany_5 (by decide) ?_
        refine lv_icmp_ge (tgt := 34) hx hb d_R_joinMany_8 (by decide) (fun c1 => ?_) (fun c1 => ?_)
        · have hf := di_t c1 hf
          have hq4 := lpk_x hf hk4
          have hf := ex_y (f := fun y => R_joinMany_a4 N g_part y) hq4 hfo4
          have hf : R_joinMany_34 N g_part x1 = some res := hf
          exact hJ34 x1 H locs ls ⟨hP, hD, hS⟩ (lv_sub hl [1] rfl) hf
        · have hf := di_f c1 hf
          refine lv_iload_n hx hb d_R_joinMany_11 rfl (lv_at hl 1 rfl) ?_
          refine lv_aload_n hx hb d_R_joinMany_12 rfl (lv_at hl 0 rfl) ?_
          refine va_get (D := G.1) (ci := 12) (v := .ref a_part) (C := n_R) (T := T_R) (N := 44) hx hb htl iw_R hown hK hP 0 rfl rfl 31 (by decide) (htl _ k_1227) (fun _ h9 => h9) rfl d_R_joinMany_13 ?_
          refine lv_iload_n hx hb d_R_joinMany_16 rfl (lv_at hl 2 rfl) ?_
          obtain ⟨c2, hf⟩ := dk_e hf
          refine va_iald hx hb hK hP 1 1 rfl rfl c2 d_R_joinMany_17 ?_
          refine lv_if_le (tgt := 25) hx hb d_R_joinMany_18 (by decide) (fun c3 => ?_) (fun c3 => ?_)
          · have hf := di_t c3 hf
            refine lv_iconst (v := (0 : Int32)) hx hb d_R_joinMany_25 (by decide) ?_
            exact hJ26 x2 x1 (0 : Int32) H locs ls ⟨hP, hD, hS⟩ (lv_sub hl [0, 2] rfl) hf
          · have hf := di_f c3 hf
            refine lv_iconst (v := (1 : Int32)) hx hb d_R_joinMany_21 (by decide) ?_
            refine lv_goto (tgt := 26) hx hb d_R_joinMany_22 (by decide) ?_
            exact hJ26 x2 x1 (1 : Int32) H locs ls ⟨hP, hD, hS⟩ (lv_sub hl [0, 2] rfl) hf
    exact hL4 N x1 x2 H locs ls hy4 ⟨hP, hD, hS⟩ hl
  refine lv_iconst (v := (0 : Int32)) hx hb d_R_joinMany_0 (by decide) ?_
  refine lv_istore_n (lv' := [(1, .int (0 : Int32)), (0, .ref h0)]) hx hb d_R_joinMany_1 rfl hl (by decide) rfl (fun ls hl => ?_)
  refine lv_iconst (v := (0 : Int32)) hx hb d_R_joinMany_2 (by decide) ?_
  refine lv_istore_n (lv' := [(2, .int (0 : Int32)), (1, .int (0 : Int32)), (0, .ref h0)]) hx hb d_R_joinMany_3 rfl hl (by decide) rfl (fun ls hl => ?_)
  exact hJ4 (0 : Int32) (0 : Int32) H locs ls ⟨hP, hD, hS⟩ (lv_sub hl [2, 1, 0] rfl) hf
set_option maxHeartbeats 4000000 in
set_option maxRecDepth 100000 in
theorem c_R_count (l : Launch) (G : va_G × (Nat → ClassId)) (Y : (Nat → Nat) × (Nat → Nat)) (h0 : Nat) (a_all : Nat) (a_text : Nat) (a_saved : Nat) (a_undone : Nat) (a_told : Nat) (a_pile : Nat) (a_open : Nat) (a_size : Nat) (a_capped : Nat) (a_connected : Nat) (a_bestCost : Nat) (a_bestCrosses : Nat) (a_bestPart : Nat) (a_part : Nat) (a_trees : Nat) (a_nodes : Nat) (a_out : Nat) (a_kept : Nat) (f_raised : Int32) (f_undos : Int32) (f_reached : Int32) (f_length : Int32) (f_begin : Int32) (f_sort : Int32) (f_sign : Int32) (f_value : Int32) (f_word : Int64) (f_wrongAt : Int32) (f_badAt : Int32) (f_bad : Int32) (f_read : Int32) (f_side : Int32) (f_piled : Int32) (f_opened : Int32) (f_joins : Int32) (f_had : Int32) (f_treeMany : Int32) (f_nodeMany : Int32) (f_moveNode : Int32) (f_movePart : Int32) (f_moveFirst : Int32) (f_moveThen : Int32) (f_moveOther : Int32) (f_outMany : Int32) (g_all : Nat → Int32) (g_bestCost : Nat → Int64) (g_bestCrosses : Nat → Int32) (g_bestPart : Nat → Int32) (g_capped : Nat → Int32) (g_connected : Nat → Int32) (g_part : Nat → Int32) (g_size : Nat → Int64) (g_trees : Nat → Int32) (x1 : Int32) (N : Nat) (res : Int32 × Int32 × Int32 × (Nat → Int64) × (Nat → Int32) × (Nat → Int32) × (Nat → Int32) × (Nat → Int32) × (Nat → Int32) × (Nat → Int64) × (Nat → Int32)) (hf : R_count N f_raised f_undos f_treeMany g_all g_bestCost g_bestCrosses g_bestPart g_capped g_connected g_part g_size g_trees x1 = some res) : Ci l classes y_R_count b_R_count 3 (some .int) (rmk 5) G.1 (tyL G) Y [.ref h0, .int x1] [(h0, O_R f_raised a_all a_text a_saved a_undone f_undos f_reached f_length f_begin f_sort f_sign f_value f_word f_wrongAt f_badAt f_bad a_told f_read f_side a_pile f_piled a_open f_opened f_joins f_had a_size a_capped a_connected a_bestCost a_bestCrosses a_bestPart a_part a_trees f_treeMany a_nodes f_nodeMany f_moveNode f_movePart f_moveFirst f_moveThen f_moveOther a_out f_outMany a_kept), (a_all, aI G 1276 g_all), (a_bestCost, aJ G 512 g_bestCost), (a_bestCrosses, aI G 512 g_bestCrosses), (a_bestPart, aI G 512 g_bestPart), (a_capped, aZ G 256 g_capped), (a_connected, aZ G 256 g_connected), (a_part, aI G 256 g_part), (a_size, aJ G 256 g_size), (a_trees, aI G 8 g_trees)] [(h0, O_R res.2.1 a_all a_text a_saved a_undone f_undos f_reached f_length f_begin f_sort f_sign f_value f_word f_wrongAt f_badAt f_bad a_told f_read f_side a_pile f_piled a_open f_opened f_joins f_had a_size a_capped a_connected a_bestCost a_bestCrosses a_bestPart a_part a_trees res.2.2.1 a_nodes f_nodeMany f_moveNode f_movePart f_moveFirst f_moveThen f_moveOther a_out f_outMany a_kept), (a_all, aI G 1276 g_all), (a_bestCost, aJ G 512 res.2.2.2.1), (a_bestCrosses, aI G 512 res.2.2.2.2.1), (a_bestPart, aI G 512 res.2.2.2.2.2.1), (a_capped, aZ G 256 res.2.2.2.2.2.2.1), (a_connected, aZ G 256 res.2.2.2.2.2.2.2.1), (a_part, aI G 256 res.2.2.2.2.2.2.2.2.1), (a_size, aJ G 256 res.2.2.2.2.2.2.2.2.2.1), (a_trees, aI G 8 res.2.2.2.2.2.2.2.2.2.2)] res.1 := by
  refine entI (by decide) (Nat.le_of_ble_eq_true rfl) ?_
  intro p e s m args below meth c ls A Q hx hb hml hown htl hK hsk wq hl hret
  obtain ⟨hP, hD, hS⟩ := wq
  have hl : lv_has ls 3 [(0, .ref h0), (1, .int x1)] := hl
  have hS : va_S A s.heap s.heap [] := hS
  obtain ⟨H, hH⟩ : ∃ H : Heap, H = s.heap := ⟨_, rfl⟩
  obtain ⟨locs, hlocs⟩ : ∃ z : List Loc, z = [] := ⟨_, rfl⟩
  rw [← hH] at hP
  replace hS : va_S A s.heap H locs := by rw [hH, hlocs]; exact hS
  suffices hgo : W p l e (rmk 5) s m args below meth c H locs 0 0 Q (F0 m 0 ls []) by rw [hH, hlocs] at hgo; exact hgo
  have hJ126 : ∀ (f_raised : Int32) (f_treeMany : Int32) (g_bestCost : Nat → Int64) (g_bestCrosses : Nat → Int32) (g_bestPart : Nat → Int32) (g_capped : Nat → Int32) (g_connected : Nat → Int32) (g_part : Nat → Int32) (g_size : Nat → Int64) (g_trees : Nat → Int32) (z1 : Int32) (H : Heap) (locs : List Loc) (ls : Array Slot), PDS G.1 classes A s [(h0, O_R f_raised a_all a_text a_saved a_undone f_undos f_reached f_length f_begin f_sort f_sign f_value f_word f_wrongAt f_badAt f_bad a_told f_read f_side a_pile f_piled a_open f_opened f_joins f_had a_size a_capped a_connected a_bestCost a_bestCrosses a_bestPart a_part a_trees f_treeMany a_nodes f_nodeMany f_moveNode f_movePart f_moveFirst f_moveThen f_moveOther a_out f_outMany a_kept), (a_all, aI G 1276 g_all), (a_bestCost, aJ G 512 g_bestCost), (a_bestCrosses, aI G 512 g_bestCrosses), (a_bestPart, aI G 512 g_bestPart), (a_capped, aZ G 256 g_capped), (a_connected, aZ G 256 g_connected), (a_part, aI G 256 g_part), (a_size, aJ G 256 g_size), (a_trees, aI G 8 g_trees)] H locs → lv_has ls 3 [] → R_count_126 N f_raised f_undos f_treeMany g_all g_bestCost g_bestCrosses g_bestPart g_capped g_connected g_part g_size g_trees z1 = some res → W p l e (rmk 5) s m args below meth c H locs 0 0 Q (F0 m 126 ls [.int z1, .ref h0]) := by
    intro f_raised f_treeMany g_bestCost g_bestCrosses g_bestPart g_capped g_connected g_part g_size g_trees z1 H locs ls wq hl hf
    obtain ⟨hP, hD, hS⟩ := wq
    obtain ⟨t33, hv34, hf⟩ := db_e hf
    refine call_i (isC := [0, 1, 5, 6]) (run_V (As := [.int z1]) (rest := []) (ci := 12) (q0 := 0) hx hb hml hown htl (c_R_connectedMany l G Y  h0 a_all a_text a_saved a_undone a_told a_pile a_open a_size a_capped a_connected a_bestCost a_bestCrosses a_bestPart a_part a_trees a_nodes a_out a_kept f_raised f_undos f_reached f_length f_begin f_sort f_sign f_value f_word f_wrongAt f_badAt f_bad f_read f_side f_piled f_opened f_joins f_had f_treeMany f_nodeMany f_moveNode f_movePart f_moveFirst f_moveThen f_moveOther f_outMany g_all g_capped g_connected z1 N t33 hv34) mv_R_connectedMany k_1618 (hRk (by decide) (by decide)) hK hsk hS hP hD (isC := [0, 1, 5, 6]) rfl (by decide) rfl rfl rfl hl.1 rfl (lv_room (Nat.le_of_ble_eq_true rfl)) d_R_count_126) hP hD hS rfl rfl (fun H locs hP hD hS => ?_)
    have hP : va_P G.1 classes [(h0, O_R f_raised a_all a_text a_saved a_undone f_undos f_reached f_length f_begin f_sort f_sign f_value f_word f_wrongAt f_badAt f_bad a_told f_read f_side a_pile f_piled a_open f_opened f_joins f_had a_size a_capped a_connected a_bestCost a_bestCrosses a_bestPart a_part a_trees f_treeMany a_nodes f_nodeMany f_moveNode f_movePart f_moveFirst f_moveThen f_moveOther a_out f_outMany a_kept), (a_all, aI G 1276 g_all), (a_bestCost, aJ G 512 g_bestCost), (a_bestCrosses, aI G 512 g_bestCrosses), (a_bestPart, aI G 512 g_bestPart), (a_capped, aZ G 256 g_capped), (a_connected, aZ G 256 g_connected), (a_part, aI G 256 g_part), (a_size, aJ G 256 g_size), (a_trees, aI G 8 g_trees)] H := hP
    have hD : va_D A [(h0, O_R f_raised a_all a_text a_saved a_undone f_undos f_reached f_length f_begin f_sort f_sign f_value f_word f_wrongAt f_badAt f_bad a_told f_read f_side a_pile f_piled a_open f_opened f_joins f_had a_size a_capped a_connected a_bestCost a_bestCrosses a_bestPart a_part a_trees f_treeMany a_nodes f_nodeMany f_moveNode f_movePart f_moveFirst f_moveThen f_moveOther a_out f_outMany a_kept), (a_all, aI G 1276 g_all), (a_bestCost, aJ G 512 g_bestCost), (a_bestCrosses, aI G 512 g_bestCrosses), (a_bestPart, aI G 512 g_bestPart), (a_capped, aZ G 256 g_capped), (a_connected, aZ G 256 g_connected), (a_part, aI G 256 g_part), (a_size, aJ G 256 g_size), (a_trees, aI G 8 g_trees)] := hD
    cases hf
    exact hret 129 ls H locs hP hS d_R_count_129
  have hJ28 : ∀ (f_raised : Int32) (f_treeMany : Int32) (g_bestCost : Nat → Int64) (g_bestCrosses : Nat → Int32) (g_bestPart : Nat → Int32) (g_capped : Nat → Int32) (g_connected : Nat → Int32) (g_part : Nat → Int32) (g_size : Nat → Int64) (g_trees : Nat → Int32) (z0 : Int32) (H : Heap) (locs : List Loc) (ls : Array Slot), PDS G.1 classes A s [(h0, O_R f_raised a_all a_text a_saved a_undone f_undos f_reached f_length f_begin f_sort f_sign f_value f_word f_wrongAt f_badAt f_bad a_told f_read f_side a_pile f_piled a_open f_opened f_joins f_had a_size a_capped a_connected a_bestCost a_bestCrosses a_bestPart a_part a_trees f_treeMany a_nodes f_nodeMany f_moveNode f_movePart f_moveFirst f_moveThen f_moveOther a_out f_outMany a_kept), (a_all, aI G 1276 g_all), (a_bestCost, aJ G 512 g_bestCost), (a_bestCrosses, aI G 512 g_bestCrosses), (a_bestPart, aI G 512 g_bestPart), (a_capped, aZ G 256 g_capped), (a_connected, aZ G 256 g_connected), (a_part, aI G 256 g_part), (a_size, aJ G 256 g_size), (a_trees, aI G 8 g_trees)] H locs → lv_has ls 3 [(0, .ref h0), (1, .int x1)] → R_count_28 N f_raised f_undos f_treeMany g_all g_bestCost g_bestCrosses g_bestPart g_capped g_connected g_part g_size g_trees x1 z0 = some res → W p l e (rmk 5) s m args below meth c H locs 0 0 Q (F0 m 28 ls [.int z0]) := by
    intro f_raised f_treeMany g_bestCost g_bestCrosses g_bestPart g_capped g_connected g_part g_size g_trees z0 H locs ls wq hl hf
    obtain ⟨hP, hD, hS⟩ := wq
    refine lv_istore_n (lv' := [(2, .int z0), (0, .ref h0), (1, .int x1)]) hx hb d_R_count_28 rfl hl (by decide) rfl (fun ls hl => ?_)
    refine lv_iload_n hx hb d_R_count_29 rfl (lv_at hl 2 rfl) ?_
    by_cases c6 : x1 = (0 : Int32)
    · have hf := di_t c6 hf
      refine lv_tableIn (tgt := 92) hx hb d_R_count_30 (by rw [c6]; decide) (by rw [c6]; decide) (by rw [c6]; rfl) (by decide) ?_
      refine lv_aload_n hx hb d_R_count_92 rfl (lv_at hl 1 rfl) ?_
      refine va_get (D := G.1) (ci := 12) (v := .ref a_all) (C := n_R) (T := T_R) (N := 44) hx hb htl iw_R hown hK hP 0 rfl rfl 1 (by decide) (htl _ k_1197) (fun _ h9 => h9) rfl d_R_count_93 ?_
      refine lv_iconst (v := (0 : Int32)) hx hb d_R_count_96 (by decide) ?_
      refine va_iald hx hb hK hP 1 1 rfl rfl (vp_lit (by decide)) d_R_count_97 ?_
      cases hf
      exact hret 98 ls H locs hP hS d_R_count_98
    have hf := di_f c6 hf
    by_cases c7 : x1 = (1 : Int32)
    · have hf := di_t c7 hf
      refine lv_tableIn (tgt := 99) hx hb d_R_count_30 (by rw [c7]; decide) (by rw [c7]; decide) (by rw [c7]; rfl) (by decide) ?_
      refine lv_aload_n hx hb d_R_count_99 rfl (lv_at hl 1 rfl) ?_
      refine va_get (D := G.1) (ci := 12) (v := .ref a_all) (C := n_R) (T := T_R) (N := 44) hx hb htl iw_R hown hK hP 0 rfl rfl 1 (by decide) (htl _ k_1197) (fun _ h9 => h9) rfl d_R_count_100 ?_
      refine lv_bipush (v := (9 : Int32)) hx hb d_R_count_103 (by decide) ?_
      refine va_iald hx hb hK hP 1 1 rfl rfl (vp_lit (by decide)) d_R_count_105 ?_
      cases hf
      exact hret 106 ls H locs hP hS d_R_count_106
    have hf := di_f c7 hf
    by_cases c8 : x1 = (2 : Int32)
    · have hf := di_t c8 hf
      refine lv_tableIn (tgt := 107) hx hb d_R_count_30 (by rw [c8]; decide) (by rw [c8]; decide) (by rw [c8]; rfl) (by decide) ?_
      refine lv_aload_n hx hb d_R_count_107 rfl (lv_at hl 1 rfl) ?_
      refine va_get (D := G.1) (ci := 12) (v := .ref a_all) (C := n_R) (T := T_R) (N := 44) hx hb htl iw_R hown hK hP 0 rfl rfl 1 (by decide) (htl _ k_1197) (fun _ h9 => h9) rfl d_R_count_108 ?_
      refine lv_bipush (v := (58 : Int32)) hx hb d_R_count_111 (by decide) ?_
      refine va_iald hx hb hK hP 1 1 rfl rfl (vp_lit (by decide)) d_R_count_113 ?_
      cases hf
      exact hret 114 ls H locs hP hS d_R_count_114
    have hf := di_f c8 hf
    by_cases c9 : x1 = (3 : Int32)
    · have hf := di_t c9 hf
      refine lv_tableIn (tgt := 115) hx hb d_R_count_30 (by rw [c9]; decide) (by rw [c9]; decide) (by rw [c9]; rfl) (by decide) ?_
      refine lv_aload_n hx hb d_R_count_115 rfl (lv_at hl 1 rfl) ?_
      refine lv_iload_n hx hb d_R_count_116 rfl (lv_at hl 2 rfl) ?_
      refine lv_iconst (v := (5 : Int32)) hx hb d_R_count_117 (by decide) ?_
      refine lv_icmp_ne (tgt := 125) hx hb d_R_count_118 (by decide) (fun c10 => ?_) (fun c10 => ?_)
      · have hf := di_f c10 hf
        refine lv_iconst (v := (0 : Int32)) hx hb d_R_count_125 (by decide) ?_
        exact hJ126 f_raised f_treeMany g_bestCost g_bestCrosses g_bestPart g_capped g_connected g_part g_size g_trees (0 : Int32) H locs ls ⟨hP, hD, hS⟩ (lv_sub hl [] rfl) hf
      · have hf := di_t c10 hf
        refine lv_iconst (v := (1 : Int32)) hx hb d_R_count_121 (by decide) ?_
        refine lv_goto (tgt := 126) hx hb d_R_count_122 (by decide) ?_
        exact hJ126 f_raised f_treeMany g_bestCost g_bestCrosses g_bestPart g_capped g_connected g_part g_size g_trees (1 : Int32) H locs ls ⟨hP, hD, hS⟩ (lv_sub hl [] rfl) hf
    have hf := di_f c9 hf
    by_cases c11 : x1 = (4 : Int32)
    · have hf := di_t c11 hf
      refine lv_tableIn (tgt := 130) hx hb d_R_count_30 (by rw [c11]; decide) (by rw [c11]; decide) (by rw [c11]; rfl) (by decide) ?_
      refine lv_aload_n hx hb d_R_count_130 rfl (lv_at hl 1 rfl) ?_
      obtain ⟨t12, hv13, hf⟩ := db_e hf
      refine call_i (isC := [0, 1, 6]) (run_V (As := []) (rest := []) (ci := 12) (q0 := 0) hx hb hml hown htl (c_R_pairMany l G Y  h0 a_all a_text a_saved a_undone a_told a_pile a_open a_size a_capped a_connected a_bestCost a_bestCrosses a_bestPart a_part a_trees a_nodes a_out a_kept f_raised f_undos f_reached f_length f_begin f_sort f_sign f_value f_word f_wrongAt f_badAt f_bad f_read f_side f_piled f_opened f_joins f_had f_treeMany f_nodeMany f_moveNode f_movePart f_moveFirst f_moveThen f_moveOther f_outMany g_all g_connected N t12 hv13) mv_R_pairMany k_1542 (hRk (by decide) (by decide)) hK hsk hS hP hD (isC := [0, 1, 6]) rfl (by decide) rfl rfl rfl hl.1 rfl (lv_room (Nat.le_of_ble_eq_true rfl)) d_R_count_131) hP hD hS rfl rfl (fun H locs hP hD hS => ?_)
      have hP : va_P G.1 classes [(h0, O_R f_raised a_all a_text a_saved a_undone f_undos f_reached f_length f_begin f_sort f_sign f_value f_word f_wrongAt f_badAt f_bad a_told f_read f_side a_pile f_piled a_open f_opened f_joins f_had a_size a_capped a_connected a_bestCost a_bestCrosses a_bestPart a_part a_trees f_treeMany a_nodes f_nodeMany f_moveNode f_movePart f_moveFirst f_moveThen f_moveOther a_out f_outMany a_kept), (a_all, aI G 1276 g_all), (a_bestCost, aJ G 512 g_bestCost), (a_bestCrosses, aI G 512 g_bestCrosses), (a_bestPart, aI G 512 g_bestPart), (a_capped, aZ G 256 g_capped), (a_connected, aZ G 256 g_connected), (a_part, aI G 256 g_part), (a_size, aJ G 256 g_size), (a_trees, aI G 8 g_trees)] H := hP
      have hD : va_D A [(h0, O_R f_raised a_all a_text a_saved a_undone f_undos f_reached f_length f_begin f_sort f_sign f_value f_word f_wrongAt f_badAt f_bad a_told f_read f_side a_pile f_piled a_open f_opened f_joins f_had a_size a_capped a_connected a_bestCost a_bestCrosses a_bestPart a_part a_trees f_treeMany a_nodes f_nodeMany f_moveNode f_movePart f_moveFirst f_moveThen f_moveOther a_out f_outMany a_kept), (a_all, aI G 1276 g_all), (a_bestCost, aJ G 512 g_bestCost), (a_bestCrosses, aI G 512 g_bestCrosses), (a_bestPart, aI G 512 g_bestPart), (a_capped, aZ G 256 g_capped), (a_connected, aZ G 256 g_connected), (a_part, aI G 256 g_part), (a_size, aJ G 256 g_size), (a_trees, aI G 8 g_trees)] := hD
      cases hf
      exact hret 134 ls H locs hP hS d_R_count_134
    have hf := di_f c11 hf
    by_cases c14 : x1 = (5 : Int32)
    · have hf := di_t c14 hf
      refine lv_tableIn (tgt := 115) hx hb d_R_count_30 (by rw [c14]; decide) (by rw [c14]; decide) (by rw [c14]; rfl) (by decide) ?_
      refine lv_aload_n hx hb d_R_count_115 rfl (lv_at hl 1 rfl) ?_
      refine lv_iload_n hx hb d_R_count_116 rfl (lv_at hl 2 rfl) ?_
      refine lv_iconst (v := (5 : Int32)) hx hb d_R_count_117 (by decide) ?_
      refine lv_icmp_ne (tgt := 125) hx hb d_R_count_118 (by decide) (fun c15 => ?_) (fun c15 => ?_)
      · have hf := di_f c15 hf
        refine lv_iconst (v := (0 : Int32)) hx hb d_R_count_125 (by decide) ?_
        exact hJ126 f_raised f_treeMany g_bestCost g_bestCrosses g_bestPart g_capped g_connected g_part g_size g_trees (0 : Int32) H locs ls ⟨hP, hD, hS⟩ (lv_sub hl [] rfl) hf
      · have hf := di_t c15 hf
        refine lv_iconst (v := (1 : Int32)) hx hb d_R_count_121 (by decide) ?_
        refine lv_goto (tgt := 126) hx hb d_R_count_122 (by decide) ?_
        exact hJ126 f_raised f_treeMany g_bestCost g_bestCrosses g_bestPart g_capped g_connected g_part g_size g_trees (1 : Int32) H locs ls ⟨hP, hD, hS⟩ (lv_sub hl [] rfl) hf
    have hf := di_f c14 hf
    by_cases c16 : x1 = (6 : Int32)
    · have hf := di_t c16 hf
      refine lv_tableIn (tgt := 135) hx hb d_R_count_30 (by rw [c16]; decide) (by rw [c16]; decide) (by rw [c16]; rfl) (by decide) ?_
      refine lv_aload_n hx hb d_R_count_135 rfl (lv_at hl 1 rfl) ?_
      refine va_get (D := G.1) (ci := 12) (v := .ref a_all) (C := n_R) (T := T_R) (N := 44) hx hb htl iw_R hown hK hP 0 rfl rfl 1 (by decide) (htl _ k_1197) (fun _ h9 => h9) rfl d_R_count_136 ?_
      refine lv_iconst (v := (0 : Int32)) hx hb d_R_count_139 (by decide) ?_
      refine va_iald hx hb hK hP 1 1 rfl rfl (vp_lit (by decide)) d_R_count_140 ?_
      refine lv_if_le (tgt := 160) hx hb d_R_count_141 (by decide) (fun c17 => ?_) (fun c17 => ?_)
      · have hf := di_t c17 hf
        refine lv_iconst (v := (0 : Int32)) hx hb d_R_count_160 (by decide) ?_
        cases hf
        exact hret 161 ls H locs hP hS d_R_count_161
      · have hf := di_f c17 hf
        refine lv_aload_n hx hb d_R_count_144 rfl (lv_at hl 1 rfl) ?_
        refine va_get (D := G.1) (ci := 12) (v := .ref a_connected) (C := n_R) (T := T_R) (N := 44) hx hb htl iw_R hown hK hP 0 rfl rfl 27 (by decide) (htl _ k_1223) (fun _ h9 => h9) rfl d_R_count_145 ?_
        refine lv_aload_n hx hb d_R_count_148 rfl (lv_at hl 1 rfl) ?_
        refine call_i (isC := [0, 1]) (run_V (As := []) (rest := [.ref a_connected]) (ci := 12) (q0 := 0) hx hb hml hown htl (c_R_everything l G Y  h0 a_all a_text a_saved a_undone a_told a_pile a_open a_size a_capped a_connected a_bestCost a_bestCrosses a_bestPart a_part a_trees a_nodes a_out a_kept f_raised f_undos f_reached f_length f_begin f_sort f_sign f_value f_word f_wrongAt f_badAt f_bad f_read f_side f_piled f_opened f_joins f_had f_treeMany f_nodeMany f_moveNode f_movePart f_moveFirst f_moveThen f_moveOther f_outMany g_all _ rfl) mv_R_everything k_1466 (hRk (by decide) (by decide)) hK hsk hS hP hD (isC := [0, 1]) rfl (by decide) rfl rfl rfl hl.1 rfl (lv_room (Nat.le_of_ble_eq_true rfl)) d_R_count_149) hP hD hS rfl rfl (fun H locs hP hD hS => ?_)
        have hP : va_P G.1 classes [(h0, O_R f_raised a_all a_text a_saved a_undone f_undos f_reached f_length f_begin f_sort f_sign f_value f_word f_wrongAt f_badAt f_bad a_told f_read f_side a_pile f_piled a_open f_opened f_joins f_had a_size a_capped a_connected a_bestCost a_bestCrosses a_bestPart a_part a_trees f_treeMany a_nodes f_nodeMany f_moveNode f_movePart f_moveFirst f_moveThen f_moveOther a_out f_outMany a_kept), (a_all, aI G 1276 g_all), (a_bestCost, aJ G 512 g_bestCost), (a_bestCrosses, aI G 512 g_bestCrosses), (a_bestPart, aI G 512 g_bestPart), (a_capped, aZ G 256 g_capped), (a_connected, aZ G 256 g_connected), (a_part, aI G 256 g_part), (a_size, aJ G 256 g_size), (a_trees, aI G 8 g_trees)] H := hP
        have hD : va_D A [(h0, O_R f_raised a_all a_text a_saved a_undone f_undos f_reached f_length f_begin f_sort f_sign f_value f_word f_wrongAt f_badAt f_bad a_told f_read f_side a_pile f_piled a_open f_opened f_joins f_had a_size a_capped a_connected a_bestCost a_bestCrosses a_bestPart a_part a_trees f_treeMany a_nodes f_nodeMany f_moveNode f_movePart f_moveFirst f_moveThen f_moveOther a_out f_outMany a_kept), (a_all, aI G 1276 g_all), (a_bestCost, aJ G 512 g_bestCost), (a_bestCrosses, aI G 512 g_bestCrosses), (a_bestPart, aI G 512 g_bestPart), (a_capped, aZ G 256 g_capped), (a_connected, aZ G 256 g_connected), (a_part, aI G 256 g_part), (a_size, aJ G 256 g_size), (a_trees, aI G 8 g_trees)] := hD
        obtain ⟨c18, hf⟩ := dk_e hf
        refine va_zald hx hb hK hP 6 3 rfl rfl c18 d_R_count_152 ?_
        refine lv_if_eq (tgt := 160) hx hb d_R_count_153 (by decide) (fun c19 => ?_) (fun c19 => ?_)
        · have hf := di_t c19 hf
          refine lv_iconst (v := (0 : Int32)) hx hb d_R_count_160 (by decide) ?_
          cases hf
          exact hret 161 ls H locs hP hS d_R_count_161
        · have hf := di_f c19 hf
          refine lv_iconst (v := (1 : Int32)) hx hb d_R_count_156 (by decide) ?_
          refine lv_goto (tgt := 161) hx hb d_R_count_157 (by decide) ?_
          cases hf
          exact hret 161 ls H locs hP hS d_R_count_161
    have hf := di_f c16 hf
    by_cases c20 : x1 = (7 : Int32)
    · have hf := di_t c20 hf
      refine lv_tableIn (tgt := 162) hx hb d_R_count_30 (by rw [c20]; decide) (by rw [c20]; decide) (by rw [c20]; rfl) (by decide) ?_
      refine lv_iload_n hx hb d_R_count_162 rfl (lv_at hl 0 rfl) ?_
      refine lv_if_eq (tgt := 173) hx hb d_R_count_163 (by decide) (fun c21 => ?_) (fun c21 => ?_)
      · have hf := di_t c21 hf
        refine lv_iconst (v := (-1 : Int32)) hx hb d_R_count_173 (by decide) ?_
        cases hf
        exact hret 174 ls H locs hP hS d_R_count_174
      · have hf := di_f c21 hf
        refine lv_aload_n hx hb d_R_count_166 rfl (lv_at hl 1 rfl) ?_
        obtain ⟨t22, hv23, hf⟩ := db_e hf
        refine call_i (isC := [0, 7]) (run_V (As := []) (rest := []) (ci := 12) (q0 := 0) hx hb hml hown htl (c_R_joinMany l G Y  h0 a_all a_text a_saved a_undone a_told a_pile a_open a_size a_capped a_connected a_bestCost a_bestCrosses a_bestPart a_part a_trees a_nodes a_out a_kept f_raised f_undos f_reached f_length f_begin f_sort f_sign f_value f_word f_wrongAt f_badAt f_bad f_read f_side f_piled f_opened f_joins f_had f_treeMany f_nodeMany f_moveNode f_movePart f_moveFirst f_moveThen f_moveOther f_outMany g_part N t22 hv23) mv_R_joinMany k_1622 (hRk (by decide) (by decide)) hK hsk hS hP hD (isC := [0, 7]) rfl (by decide) rfl rfl rfl hl.1 rfl (lv_room (Nat.le_of_ble_eq_true rfl)) d_R_count_167) hP hD hS rfl rfl (fun H locs hP hD hS => ?_)
        have hP : va_P G.1 classes [(h0, O_R f_raised a_all a_text a_saved a_undone f_undos f_reached f_length f_begin f_sort f_sign f_value f_word f_wrongAt f_badAt f_bad a_told f_read f_side a_pile f_piled a_open f_opened f_joins f_had a_size a_capped a_connected a_bestCost a_bestCrosses a_bestPart a_part a_trees f_treeMany a_nodes f_nodeMany f_moveNode f_movePart f_moveFirst f_moveThen f_moveOther a_out f_outMany a_kept), (a_all, aI G 1276 g_all), (a_bestCost, aJ G 512 g_bestCost), (a_bestCrosses, aI G 512 g_bestCrosses), (a_bestPart, aI G 512 g_bestPart), (a_capped, aZ G 256 g_capped), (a_connected, aZ G 256 g_connected), (a_part, aI G 256 g_part), (a_size, aJ G 256 g_size), (a_trees, aI G 8 g_trees)] H := hP
        have hD : va_D A [(h0, O_R f_raised a_all a_text a_saved a_undone f_undos f_reached f_length f_begin f_sort f_sign f_value f_word f_wrongAt f_badAt f_bad a_told f_read f_side a_pile f_piled a_open f_opened f_joins f_had a_size a_capped a_connected a_bestCost a_bestCrosses a_bestPart a_part a_trees f_treeMany a_nodes f_nodeMany f_moveNode f_movePart f_moveFirst f_moveThen f_moveOther a_out f_outMany a_kept), (a_all, aI G 1276 g_all), (a_bestCost, aJ G 512 g_bestCost), (a_bestCrosses, aI G 512 g_bestCrosses), (a_bestPart, aI G 512 g_bestPart), (a_capped, aZ G 256 g_capped), (a_connected, aZ G 256 g_connected), (a_part, aI G 256 g_part), (a_size, aJ G 256 g_size), (a_trees, aI G 8 g_trees)] := hD
        refine lv_goto (tgt := 174) hx hb d_R_count_170 (by decide) ?_
        cases hf
        exact hret 174 ls H locs hP hS d_R_count_174
    have hf := di_f c20 hf
    by_cases c24 : x1 = (8 : Int32)
    · have hf := di_t c24 hf
      refine lv_tableIn (tgt := 175) hx hb d_R_count_30 (by rw [c24]; decide) (by rw [c24]; decide) (by rw [c24]; rfl) (by decide) ?_
      refine lv_iload_n hx hb d_R_count_175 rfl (lv_at hl 0 rfl) ?_
      refine lv_if_eq (tgt := 186) hx hb d_R_count_176 (by decide) (fun c25 => ?_) (fun c25 => ?_)
      · have hf := di_t c25 hf
        refine lv_iconst (v := (-1 : Int32)) hx hb d_R_count_186 (by decide) ?_
        cases hf
        exact hret 187 ls H locs hP hS d_R_count_187
      · have hf := di_f c25 hf
        refine lv_aload_n hx hb d_R_count_179 rfl (lv_at hl 1 rfl) ?_
        obtain ⟨t26, hv27, hf⟩ := db_e hf
        refine call_i (isC := [0, 1, 7]) (run_V (As := []) (rest := []) (ci := 12) (q0 := 0) hx hb hml hown htl (c_R_crossesOfParts l G Y  h0 a_all a_text a_saved a_undone a_told a_pile a_open a_size a_capped a_connected a_bestCost a_bestCrosses a_bestPart a_part a_trees a_nodes a_out a_kept f_raised f_undos f_reached f_length f_begin f_sort f_sign f_value f_word f_wrongAt f_badAt f_bad f_read f_side f_piled f_opened f_joins f_had f_treeMany f_nodeMany f_moveNode f_movePart f_moveFirst f_moveThen f_moveOther f_outMany g_all g_part N t26 hv27) mv_R_crossesOfParts k_1586 (hRk (by decide) (by decide)) hK hsk hS hP hD (isC := [0, 1, 7]) rfl (by decide) rfl rfl rfl hl.1 rfl (lv_room (Nat.le_of_ble_eq_true rfl)) d_R_count_180) hP hD hS rfl rfl (fun H locs hP hD hS => ?_)
        have hP : va_P G.1 classes [(h0, O_R f_raised a_all a_text a_saved a_undone f_undos f_reached f_length f_begin f_sort f_sign f_value f_word f_wrongAt f_badAt f_bad a_told f_read f_side a_pile f_piled a_open f_opened f_joins f_had a_size a_capped a_connected a_bestCost a_bestCrosses a_bestPart a_part a_trees f_treeMany a_nodes f_nodeMany f_moveNode f_movePart f_moveFirst f_moveThen f_moveOther a_out f_outMany a_kept), (a_all, aI G 1276 g_all), (a_bestCost, aJ G 512 g_bestCost), (a_bestCrosses, aI G 512 g_bestCrosses), (a_bestPart, aI G 512 g_bestPart), (a_capped, aZ G 256 g_capped), (a_connected, aZ G 256 g_connected), (a_part, aI G 256 g_part), (a_size, aJ G 256 g_size), (a_trees, aI G 8 g_trees)] H := hP
        have hD : va_D A [(h0, O_R f_raised a_all a_text a_saved a_undone f_undos f_reached f_length f_begin f_sort f_sign f_value f_word f_wrongAt f_badAt f_bad a_told f_read f_side a_pile f_piled a_open f_opened f_joins f_had a_size a_capped a_connected a_bestCost a_bestCrosses a_bestPart a_part a_trees f_treeMany a_nodes f_nodeMany f_moveNode f_movePart f_moveFirst f_moveThen f_moveOther a_out f_outMany a_kept), (a_all, aI G 1276 g_all), (a_bestCost, aJ G 512 g_bestCost), (a_bestCrosses, aI G 512 g_bestCrosses), (a_bestPart, aI G 512 g_bestPart), (a_capped, aZ G 256 g_capped), (a_connected, aZ G 256 g_connected), (a_part, aI G 256 g_part), (a_size, aJ G 256 g_size), (a_trees, aI G 8 g_trees)] := hD
        refine lv_goto (tgt := 187) hx hb d_R_count_183 (by decide) ?_
        cases hf
        exact hret 187 ls H locs hP hS d_R_count_187
    have hf := di_f c24 hf
    by_cases c28 : x1 = (9 : Int32)
    · have hf := di_t c28 hf
      refine lv_tableIn (tgt := 188) hx hb d_R_count_30 (by rw [c28]; decide) (by rw [c28]; decide) (by rw [c28]; rfl) (by decide) ?_
      refine lv_aload_n hx hb d_R_count_188 rfl (lv_at hl 1 rfl) ?_
      refine va_get (D := G.1) (ci := 12) (v := .int f_undos) (C := n_R) (T := T_R) (N := 44) hx hb htl iw_R hown hK hP 0 rfl rfl 5 (by decide) (htl _ k_1201) (fun _ h9 => h9) rfl d_R_count_189 ?_
      cases hf
      exact hret 192 ls H locs hP hS d_R_count_192
    have hf := di_f c28 hf
    by_cases c29 : x1 = (10 : Int32)
    · have hf := di_t c29 hf
      refine lv_tableIn (tgt := 193) hx hb d_R_count_30 (by rw [c29]; decide) (by rw [c29]; decide) (by rw [c29]; rfl) (by decide) ?_
      refine lv_aload_n hx hb d_R_count_193 rfl (lv_at hl 1 rfl) ?_
      refine va_get (D := G.1) (ci := 12) (v := .ref a_all) (C := n_R) (T := T_R) (N := 44) hx hb htl iw_R hown hK hP 0 rfl rfl 1 (by decide) (htl _ k_1197) (fun _ h9 => h9) rfl d_R_count_194 ?_
      refine lv_sipush (v := (316 : Int32)) hx hb d_R_count_197 (by decide) ?_
      refine va_iald hx hb hK hP 1 1 rfl rfl (vp_lit (by decide)) d_R_count_200 ?_
      cases hf
      exact hret 201 ls H locs hP hS d_R_count_201
    have hf := di_f c29 hf
    by_cases c30 : x1 = (11 : Int32)
    · have hf := di_t c30 hf
      refine lv_tableIn (tgt := 202) hx hb d_R_count_30 (by rw [c30]; decide) (by rw [c30]; decide) (by rw [c30]; rfl) (by decide) ?_
      refine lv_aload_n hx hb d_R_count_202 rfl (lv_at hl 1 rfl) ?_
      obtain ⟨t31, hv32, hf⟩ := db_e hf
      refine call_i (isC := [0, 1, 9]) (run_V (As := []) (rest := []) (ci := 12) (q0 := 0) hx hb hml hown htl (c_R_partMany l G Y  h0 a_all a_text a_saved a_undone a_told a_pile a_open a_size a_capped a_connected a_bestCost a_bestCrosses a_bestPart a_part a_trees a_nodes a_out a_kept f_raised f_undos f_reached f_length f_begin f_sort f_sign f_value f_word f_wrongAt f_badAt f_bad f_read f_side f_piled f_opened f_joins f_had f_treeMany f_nodeMany f_moveNode f_movePart f_moveFirst f_moveThen f_moveOther f_outMany g_all g_trees N t31 hv32) mv_R_partMany k_1626 (hRk (by decide) (by decide)) hK hsk hS hP hD (isC := [0, 1, 9]) rfl (by decide) rfl rfl rfl hl.1 rfl (lv_room (Nat.le_of_ble_eq_true rfl)) d_R_count_203) hP hD hS rfl rfl (fun H locs hP hD hS => ?_)
      have hP : va_P G.1 classes [(h0, O_R f_raised a_all a_text a_saved a_undone f_undos f_reached f_length f_begin f_sort f_sign f_value f_word f_wrongAt f_badAt f_bad a_told f_read f_side a_pile f_piled a_open f_opened f_joins f_had a_size a_capped a_connected a_bestCost a_bestCrosses a_bestPart a_part a_trees t31.2.1 a_nodes f_nodeMany f_moveNode f_movePart f_moveFirst f_moveThen f_moveOther a_out f_outMany a_kept), (a_all, aI G 1276 g_all), (a_bestCost, aJ G 512 g_bestCost), (a_bestCrosses, aI G 512 g_bestCrosses), (a_bestPart, aI G 512 g_bestPart), (a_capped, aZ G 256 g_capped), (a_connected, aZ G 256 g_connected), (a_part, aI G 256 g_part), (a_size, aJ G 256 g_size), (a_trees, aI G 8 t31.2.2)] H := hP
      have hD : va_D A [(h0, O_R f_raised a_all a_text a_saved a_undone f_undos f_reached f_length f_begin f_sort f_sign f_value f_word f_wrongAt f_badAt f_bad a_told f_read f_side a_pile f_piled a_open f_opened f_joins f_had a_size a_capped a_connected a_bestCost a_bestCrosses a_bestPart a_part a_trees t31.2.1 a_nodes f_nodeMany f_moveNode f_movePart f_moveFirst f_moveThen f_moveOther a_out f_outMany a_kept), (a_all, aI G 1276 g_all), (a_bestCost, aJ G 512 g_bestCost), (a_bestCrosses, aI G 512 g_bestCrosses), (a_bestPart, aI G 512 g_bestPart), (a_capped, aZ G 256 g_capped), (a_connected, aZ G 256 g_connected), (a_part, aI G 256 g_part), (a_size, aJ G 256 g_size), (a_trees, aI G 8 t31.2.2)] := hD
      cases hf
      exact hret 206 ls H locs hP hS d_R_count_206
    have hf := di_f c30 hf
    refine lv_tableOut (tgt := 207) hx hb d_R_count_30 (sw_out_0_11 c6 c7 c8 c9 c11 c14 c16 c20 c24 c28 c29 c30) (by decide) ?_
    refine lv_iconst (v := (-1 : Int32)) hx hb d_R_count_207 (by decide) ?_
    cases hf
    exact hret 208 ls H locs hP hS d_R_count_208
  refine lv_aload_n hx hb d_R_count_0 rfl (lv_at hl 0 rfl) ?_
  refine lv_iconst (v := (0 : Int32)) hx hb d_R_count_1 (by decide) ?_
  refine va_put (D := G.1) (ci := 12) (v := .int (0 : Int32)) (ty := .int) (C := n_R) (T := T_R) (N := 44) hx hb htl iw_R ty_R ty_R_ok nm_R hown hK hP hD hS 0 rfl rfl 0 (by decide) (htl _ k_1196) (fun _ h9 => h9) rfl (by decide +kernel) rfl rfl (Nat.le_of_ble_eq_true rfl) d_R_count_2 (fun H locs hP hD hS => ?_)
  have hP : va_P G.1 classes [(h0, O_R (0 : Int32) a_all a_text a_saved a_undone f_undos f_reached f_length f_begin f_sort f_sign f_value f_word f_wrongAt f_badAt f_bad a_told f_read f_side a_pile f_piled a_open f_opened f_joins f_had a_size a_capped a_connected a_bestCost a_bestCrosses a_bestPart a_part a_trees f_treeMany a_nodes f_nodeMany f_moveNode f_movePart f_moveFirst f_moveThen f_moveOther a_out f_outMany a_kept), (a_all, aI G 1276 g_all), (a_bestCost, aJ G 512 g_bestCost), (a_bestCrosses, aI G 512 g_bestCrosses), (a_bestPart, aI G 512 g_bestPart), (a_capped, aZ G 256 g_capped), (a_connected, aZ G 256 g_connected), (a_part, aI G 256 g_part), (a_size, aJ G 256 g_size), (a_trees, aI G 8 g_trees)] H := hP
  have hD : va_D A [(h0, O_R (0 : Int32) a_all a_text a_saved a_undone f_undos f_reached f_length f_begin f_sort f_sign f_value f_word f_wrongAt f_badAt f_bad a_told f_read f_side a_pile f_piled a_open f_opened f_joins f_had a_size a_capped a_connected a_bestCost a_bestCrosses a_bestPart a_part a_trees f_treeMany a_nodes f_nodeMany f_moveNode f_movePart f_moveFirst f_moveThen f_moveOther a_out f_outMany a_kept), (a_all, aI G 1276 g_all), (a_bestCost, aJ G 512 g_bestCost), (a_bestCrosses, aI G 512 g_bestCrosses), (a_bestPart, aI G 512 g_bestPart), (a_capped, aZ G 256 g_capped), (a_connected, aZ G 256 g_connected), (a_part, aI G 256 g_part), (a_size, aJ G 256 g_size), (a_trees, aI G 8 g_trees)] := hD
  refine lv_aload_n hx hb d_R_count_5 rfl (lv_at hl 0 rfl) ?_
  obtain ⟨t1, hv2, hf⟩ := db_e hf
  refine call_v (isC := [0, 1, 2, 3, 4, 5, 6, 8]) (run_V (As := []) (rest := []) (ci := 12) (q0 := 0) hx hb hml hown htl (c_R_lays l G Y  h0 a_all a_text a_saved a_undone a_told a_pile a_open a_size a_capped a_connected a_bestCost a_bestCrosses a_bestPart a_part a_trees a_nodes a_out a_kept (0 : Int32) f_undos f_reached f_length f_begin f_sort f_sign f_value f_word f_wrongAt f_badAt f_bad f_read f_side f_piled f_opened f_joins f_had f_treeMany f_nodeMany f_moveNode f_movePart f_moveFirst f_moveThen f_moveOther f_outMany g_all g_bestCost g_bestCrosses g_bestPart g_capped g_connected g_size N t1 hv2) mv_R_lays k_1503 (hRk (by decide) (by decide)) hK hsk hS hP hD (isC := [0, 1, 2, 3, 4, 5, 6, 8]) rfl (by decide) rfl rfl rfl hl.1 rfl (lv_room (Nat.le_of_ble_eq_true rfl)) d_R_count_6) hP hD hS rfl rfl (fun H locs hP hD hS => ?_)
  have hP : va_P G.1 classes [(h0, O_R (0 : Int32) a_all a_text a_saved a_undone f_undos f_reached f_length f_begin f_sort f_sign f_value f_word f_wrongAt f_badAt f_bad a_told f_read f_side a_pile f_piled a_open f_opened f_joins f_had a_size a_capped a_connected a_bestCost a_bestCrosses a_bestPart a_part a_trees f_treeMany a_nodes f_nodeMany f_moveNode f_movePart f_moveFirst f_moveThen f_moveOther a_out f_outMany a_kept), (a_all, aI G 1276 g_all), (a_bestCost, aJ G 512 t1.1), (a_bestCrosses, aI G 512 t1.2.1), (a_bestPart, aI G 512 t1.2.2.1), (a_capped, aZ G 256 t1.2.2.2.1), (a_connected, aZ G 256 t1.2.2.2.2.1), (a_part, aI G 256 g_part), (a_size, aJ G 256 t1.2.2.2.2.2), (a_trees, aI G 8 g_trees)] H := hP
  have hD : va_D A [(h0, O_R (0 : Int32) a_all a_text a_saved a_undone f_undos f_reached f_length f_begin f_sort f_sign f_value f_word f_wrongAt f_badAt f_bad a_told f_read f_side a_pile f_piled a_open f_opened f_joins f_had a_size a_capped a_connected a_bestCost a_bestCrosses a_bestPart a_part a_trees f_treeMany a_nodes f_nodeMany f_moveNode f_movePart f_moveFirst f_moveThen f_moveOther a_out f_outMany a_kept), (a_all, aI G 1276 g_all), (a_bestCost, aJ G 512 t1.1), (a_bestCrosses, aI G 512 t1.2.1), (a_bestPart, aI G 512 t1.2.2.1), (a_capped, aZ G 256 t1.2.2.2.1), (a_connected, aZ G 256 t1.2.2.2.2.1), (a_part, aI G 256 g_part), (a_size, aJ G 256 t1.2.2.2.2.2), (a_trees, aI G 8 g_trees)] := hD
  refine lv_aload_n hx hb d_R_count_9 rfl (lv_at hl 0 rfl) ?_
  obtain ⟨t3, hv4, hf⟩ := db_e hf
  refine call_v (isC := [0, 1, 7]) (run_V (As := []) (rest := []) (ci := 12) (q0 := 0) hx hb hml hown htl (c_R_takesPlan l G Y  h0 a_all a_text a_saved a_undone a_told a_pile a_open a_size a_capped a_connected a_bestCost a_bestCrosses a_bestPart a_part a_trees a_nodes a_out a_kept (0 : Int32) f_undos f_reached f_length f_begin f_sort f_sign f_value f_word f_wrongAt f_badAt f_bad f_read f_side f_piled f_opened f_joins f_had f_treeMany f_nodeMany f_moveNode f_movePart f_moveFirst f_moveThen f_moveOther f_outMany g_all g_part N t3 hv4) mv_R_takesPlan k_1574 (hRk (by decide) (by decide)) hK hsk hS hP hD (isC := [0, 1, 7]) rfl (by decide) rfl rfl rfl hl.1 rfl (lv_room (Nat.le_of_ble_eq_true rfl)) d_R_count_10) hP hD hS rfl rfl (fun H locs hP hD hS => ?_)
  have hP : va_P G.1 classes [(h0, O_R (0 : Int32) a_all a_text a_saved a_undone f_undos f_reached f_length f_begin f_sort f_sign f_value f_word f_wrongAt f_badAt f_bad a_told f_read f_side a_pile f_piled a_open f_opened f_joins f_had a_size a_capped a_connected a_bestCost a_bestCrosses a_bestPart a_part a_trees f_treeMany a_nodes f_nodeMany f_moveNode f_movePart f_moveFirst f_moveThen f_moveOther a_out f_outMany a_kept), (a_all, aI G 1276 g_all), (a_bestCost, aJ G 512 t1.1), (a_bestCrosses, aI G 512 t1.2.1), (a_bestPart, aI G 512 t1.2.2.1), (a_capped, aZ G 256 t1.2.2.2.1), (a_connected, aZ G 256 t1.2.2.2.2.1), (a_part, aI G 256 t3), (a_size, aJ G 256 t1.2.2.2.2.2), (a_trees, aI G 8 g_trees)] H := hP
  have hD : va_D A [(h0, O_R (0 : Int32) a_all a_text a_saved a_undone f_undos f_reached f_length f_begin f_sort f_sign f_value f_word f_wrongAt f_badAt f_bad a_told f_read f_side a_pile f_piled a_open f_opened f_joins f_had a_size a_capped a_connected a_bestCost a_bestCrosses a_bestPart a_part a_trees f_treeMany a_nodes f_nodeMany f_moveNode f_movePart f_moveFirst f_moveThen f_moveOther a_out f_outMany a_kept), (a_all, aI G 1276 g_all), (a_bestCost, aJ G 512 t1.1), (a_bestCrosses, aI G 512 t1.2.1), (a_bestPart, aI G 512 t1.2.2.1), (a_capped, aZ G 256 t1.2.2.2.1), (a_connected, aZ G 256 t1.2.2.2.2.1), (a_part, aI G 256 t3), (a_size, aJ G 256 t1.2.2.2.2.2), (a_trees, aI G 8 g_trees)] := hD
  refine lv_aload_n hx hb d_R_count_13 rfl (lv_at hl 0 rfl) ?_
  refine va_get (D := G.1) (ci := 12) (v := .ref a_all) (C := n_R) (T := T_R) (N := 44) hx hb htl iw_R hown hK hP 0 rfl rfl 1 (by decide) (htl _ k_1197) (fun _ h9 => h9) rfl d_R_count_14 ?_
  refine lv_bipush (v := (59 : Int32)) hx hb d_R_count_17 (by decide) ?_
  refine va_iald hx hb hK hP 1 1 rfl rfl (vp_lit (by decide)) d_R_count_19 ?_
  refine lv_if_le (tgt := 27) hx hb d_R_count_20 (by decide) (fun c5 => ?_) (fun c5 => ?_)
  · have hf := di_t c5 hf
    refine lv_iconst (v := (0 : Int32)) hx hb d_R_count_27 (by decide) ?_
    exact hJ28 (0 : Int32) f_treeMany t1.1 t1.2.1 t1.2.2.1 t1.2.2.2.1 t1.2.2.2.2.1 t3 t1.2.2.2.2.2 g_trees (0 : Int32) H locs ls ⟨hP, hD, hS⟩ (lv_sub hl [0, 1] rfl) hf
  · have hf := di_f c5 hf
    refine lv_iconst (v := (1 : Int32)) hx hb d_R_count_23 (by decide) ?_
    refine lv_goto (tgt := 28) hx hb d_R_count_24 (by decide) ?_
    exact hJ28 (0 : Int32) f_treeMany t1.1 t1.2.1 t1.2.2.1 t1.2.2.2.1 t1.2.2.2.2.1 t3 t1.2.2.2.2.2 g_trees (1 : Int32) H locs ls ⟨hP, hD, hS⟩ (lv_sub hl [0, 1] rfl) hf
set_option maxHeartbeats 4000000 in
set_option maxRecDepth 100000 in
theorem c_R_edge (l : Launch) (G : va_G × (Nat → ClassId)) (Y : (Nat → Nat) × (Nat → Nat)) (h0 : Nat) (a_all : Nat) (a_text : Nat) (a_saved : Nat) (a_undone : Nat) (a_told : Nat) (a_pile : Nat) (a_open : Nat) (a_size : Nat) (a_capped : Nat) (a_connected : Nat) (a_bestCost : Nat) (a_bestCrosses : Nat) (a_bestPart : Nat) (a_part : Nat) (a_trees : Nat) (a_nodes : Nat) (a_out : Nat) (a_kept : Nat) (f_raised : Int32) (f_undos : Int32) (f_reached : Int32) (f_length : Int32) (f_begin : Int32) (f_sort : Int32) (f_sign : Int32) (f_value : Int32) (f_word : Int64) (f_wrongAt : Int32) (f_badAt : Int32) (f_bad : Int32) (f_read : Int32) (f_side : Int32) (f_piled : Int32) (f_opened : Int32) (f_joins : Int32) (f_had : Int32) (f_treeMany : Int32) (f_nodeMany : Int32) (f_moveNode : Int32) (f_movePart : Int32) (f_moveFirst : Int32) (f_moveThen : Int32) (f_moveOther : Int32) (f_outMany : Int32) (g_all : Nat → Int32) (x1 : Int32) (x2 : Int32) (res : Int32 × Int32) (hf : R_edge f_raised g_all x1 x2 = some res) : Ci l classes y_R_edge b_R_edge 3 (some .int) (rmk 2) G.1 (tyL G) Y [.ref h0, .int x1, .int x2] [(h0, O_R f_raised a_all a_text a_saved a_undone f_undos f_reached f_length f_begin f_sort f_sign f_value f_word f_wrongAt f_badAt f_bad a_told f_read f_side a_pile f_piled a_open f_opened f_joins f_had a_size a_capped a_connected a_bestCost a_bestCrosses a_bestPart a_part a_trees f_treeMany a_nodes f_nodeMany f_moveNode f_movePart f_moveFirst f_moveThen f_moveOther a_out f_outMany a_kept), (a_all, aI G 1276 g_all)] [(h0, O_R res.2 a_all a_text a_saved a_undone f_undos f_reached f_length f_begin f_sort f_sign f_value f_word f_wrongAt f_badAt f_bad a_told f_read f_side a_pile f_piled a_open f_opened f_joins f_had a_size a_capped a_connected a_bestCost a_bestCrosses a_bestPart a_part a_trees f_treeMany a_nodes f_nodeMany f_moveNode f_movePart f_moveFirst f_moveThen f_moveOther a_out f_outMany a_kept), (a_all, aI G 1276 g_all)] res.1 := by
  refine entI (by decide) (Nat.le_of_ble_eq_true rfl) ?_
  intro p e s m args below meth c ls A Q hx hb hml hown htl hK hsk wq hl hret
  obtain ⟨hP, hD, hS⟩ := wq
  have hl : lv_has ls 3 [(0, .ref h0), (1, .int x1), (2, .int x2)] := hl
  have hS : va_S A s.heap s.heap [] := hS
  obtain ⟨H, hH⟩ : ∃ H : Heap, H = s.heap := ⟨_, rfl⟩
  obtain ⟨locs, hlocs⟩ : ∃ z : List Loc, z = [] := ⟨_, rfl⟩
  rw [← hH] at hP
  replace hS : va_S A s.heap H locs := by rw [hH, hlocs]; exact hS
  suffices hgo : W p l e (rmk 2) s m args below meth c H locs 0 0 Q (F0 m 0 ls []) by rw [hH, hlocs] at hgo; exact hgo
  have hJ26 : ∀ (f_raised : Int32) (z1 : Int32) (H : Heap) (locs : List Loc) (ls : Array Slot), PDS G.1 classes A s [(h0, O_R f_raised a_all a_text a_saved a_undone f_undos f_reached f_length f_begin f_sort f_sign f_value f_word f_wrongAt f_badAt f_bad a_told f_read f_side a_pile f_piled a_open f_opened f_joins f_had a_size a_capped a_connected a_bestCost a_bestCrosses a_bestPart a_part a_trees f_treeMany a_nodes f_nodeMany f_moveNode f_movePart f_moveFirst f_moveThen f_moveOther a_out f_outMany a_kept), (a_all, aI G 1276 g_all)] H locs → lv_has ls 3 [(0, .ref h0), (1, .int x1), (2, .int x2)] → R_edge_26 f_raised g_all x1 x2 z1 = some res → W p l e (rmk 2) s m args below meth c H locs 0 0 Q (F0 m 26 ls [.int z1, .ref h0]) := by
    intro f_raised z1 H locs ls wq hl hf
    obtain ⟨hP, hD, hS⟩ := wq
    refine va_put (D := G.1) (ci := 12) (v := .int z1) (ty := .int) (C := n_R) (T := T_R) (N := 44) hx hb htl iw_R ty_R ty_R_ok nm_R hown hK hP hD hS 0 rfl rfl 0 (by decide) (htl _ k_1196) (fun _ h9 => h9) rfl (by decide +kernel) rfl rfl (Nat.le_of_ble_eq_true rfl) d_R_edge_26 (fun H locs hP hD hS => ?_)
    have hP : va_P G.1 classes [(h0, O_R z1 a_all a_text a_saved a_undone f_undos f_reached f_length f_begin f_sort f_sign f_value f_word f_wrongAt f_badAt f_bad a_told f_read f_side a_pile f_piled a_open f_opened f_joins f_had a_size a_capped a_connected a_bestCost a_bestCrosses a_bestPart a_part a_trees f_treeMany a_nodes f_nodeMany f_moveNode f_movePart f_moveFirst f_moveThen f_moveOther a_out f_outMany a_kept), (a_all, aI G 1276 g_all)] H := hP
    have hD : va_D A [(h0, O_R z1 a_all a_text a_saved a_undone f_undos f_reached f_length f_begin f_sort f_sign f_value f_word f_wrongAt f_badAt f_bad a_told f_read f_side a_pile f_piled a_open f_opened f_joins f_had a_size a_capped a_connected a_bestCost a_bestCrosses a_bestPart a_part a_trees f_treeMany a_nodes f_nodeMany f_moveNode f_movePart f_moveFirst f_moveThen f_moveOther a_out f_outMany a_kept), (a_all, aI G 1276 g_all)] := hD
    refine lv_aload_n hx hb d_R_edge_29 rfl (lv_at hl 0 rfl) ?_
    refine va_get (D := G.1) (ci := 12) (v := .int z1) (C := n_R) (T := T_R) (N := 44) hx hb htl iw_R hown hK hP 0 rfl rfl 0 (by decide) (htl _ k_1196) (fun _ h9 => h9) rfl d_R_edge_30 ?_
    refine lv_if_le (tgt := 40) hx hb d_R_edge_33 (by decide) (fun c5 => ?_) (fun c5 => ?_)
    · have hf := di_t c5 hf
      refine lv_aload_n hx hb d_R_edge_40 rfl (lv_at hl 0 rfl) ?_
      refine va_get (D := G.1) (ci := 12) (v := .ref a_all) (C := n_R) (T := T_R) (N := 44) hx hb htl iw_R hown hK hP 0 rfl rfl 1 (by decide) (htl _ k_1197) (fun _ h9 => h9) rfl d_R_edge_41 ?_
      refine lv_bipush (v := (10 : Int32)) hx hb d_R_edge_44 (by decide) ?_
      refine lv_iconst (v := (3 : Int32)) hx hb d_R_edge_46 (by decide) ?_
      refine lv_iload_n hx hb d_R_edge_47 rfl (lv_at hl 1 rfl) ?_
      refine lv_imul hx hb d_R_edge_48 ?_
      refine lv_iadd hx hb d_R_edge_49 ?_
      refine lv_iload_n hx hb d_R_edge_50 rfl (lv_at hl 2 rfl) ?_
      refine lv_iadd hx hb d_R_edge_51 ?_
      obtain ⟨c6, hf⟩ := dk_e hf
      refine va_iald hx hb hK hP 1 1 rfl rfl c6 d_R_edge_52 ?_
      cases hf
      exact hret 53 ls H locs hP hS d_R_edge_53
    · have hf := di_f c5 hf
      refine lv_iconst (v := (0 : Int32)) hx hb d_R_edge_36 (by decide) ?_
      refine lv_goto (tgt := 53) hx hb d_R_edge_37 (by decide) ?_
      cases hf
      exact hret 53 ls H locs hP hS d_R_edge_53
  have hJ25 : ∀ (f_raised : Int32) (H : Heap) (locs : List Loc) (ls : Array Slot), PDS G.1 classes A s [(h0, O_R f_raised a_all a_text a_saved a_undone f_undos f_reached f_length f_begin f_sort f_sign f_value f_word f_wrongAt f_badAt f_bad a_told f_read f_side a_pile f_piled a_open f_opened f_joins f_had a_size a_capped a_connected a_bestCost a_bestCrosses a_bestPart a_part a_trees f_treeMany a_nodes f_nodeMany f_moveNode f_movePart f_moveFirst f_moveThen f_moveOther a_out f_outMany a_kept), (a_all, aI G 1276 g_all)] H locs → lv_has ls 3 [(0, .ref h0), (1, .int x1), (2, .int x2)] → R_edge_25 f_raised g_all x1 x2 = some res → W p l e (rmk 2) s m args below meth c H locs 0 0 Q (F0 m 25 ls [.ref h0]) := by
    intro f_raised H locs ls wq hl hf
    obtain ⟨hP, hD, hS⟩ := wq
    refine lv_iconst (v := (1 : Int32)) hx hb d_R_edge_25 (by decide) ?_
    exact hJ26 f_raised (1 : Int32) H locs ls ⟨hP, hD, hS⟩ (lv_sub hl [0, 1, 2] rfl) hf
  refine lv_aload_n hx hb d_R_edge_0 rfl (lv_at hl 0 rfl) ?_
  refine lv_aload_n hx hb d_R_edge_1 rfl (lv_at hl 0 rfl) ?_
  refine lv_iload_n hx hb d_R_edge_2 rfl (lv_at hl 1 rfl) ?_
  obtain ⟨t1, hv2, hf⟩ := db_e hf
  refine call_i (isC := [0, 1]) (run_V (As := [.int x1]) (rest := [.ref h0]) (ci := 12) (q0 := 0) hx hb hml hown htl (c_R_isEdge l G Y  h0 a_all a_text a_saved a_undone a_told a_pile a_open a_size a_capped a_connected a_bestCost a_bestCrosses a_bestPart a_part a_trees a_nodes a_out a_kept f_raised f_undos f_reached f_length f_begin f_sort f_sign f_value f_word f_wrongAt f_badAt f_bad f_read f_side f_piled f_opened f_joins f_had f_treeMany f_nodeMany f_moveNode f_movePart f_moveFirst f_moveThen f_moveOther f_outMany g_all x1 t1 hv2) mv_R_isEdge k_1478 (hRk (by decide) (by decide)) hK hsk hS hP hD (isC := [0, 1]) rfl (by decide) rfl rfl rfl hl.1 rfl (lv_room (Nat.le_of_ble_eq_true rfl)) d_R_edge_3) hP hD hS rfl rfl (fun H locs hP hD hS => ?_)
  have hP : va_P G.1 classes [(h0, O_R f_raised a_all a_text a_saved a_undone f_undos f_reached f_length f_begin f_sort f_sign f_value f_word f_wrongAt f_badAt f_bad a_told f_read f_side a_pile f_piled a_open f_opened f_joins f_had a_size a_capped a_connected a_bestCost a_bestCrosses a_bestPart a_part a_trees f_treeMany a_nodes f_nodeMany f_moveNode f_movePart f_moveFirst f_moveThen f_moveOther a_out f_outMany a_kept), (a_all, aI G 1276 g_all)] H := hP
  have hD : va_D A [(h0, O_R f_raised a_all a_text a_saved a_undone f_undos f_reached f_length f_begin f_sort f_sign f_value f_word f_wrongAt f_badAt f_bad a_told f_read f_side a_pile f_piled a_open f_opened f_joins f_had a_size a_capped a_connected a_bestCost a_bestCrosses a_bestPart a_part a_trees f_treeMany a_nodes f_nodeMany f_moveNode f_movePart f_moveFirst f_moveThen f_moveOther a_out f_outMany a_kept), (a_all, aI G 1276 g_all)] := hD
  refine lv_if_eq (tgt := 25) hx hb d_R_edge_6 (by decide) (fun c3 => ?_) (fun c3 => ?_)
  · have hf := di_t c3 hf
    exact hJ25 f_raised H locs ls ⟨hP, hD, hS⟩ (lv_sub hl [0, 1, 2] rfl) hf
  · have hf := di_f c3 hf
    refine lv_iload_n hx hb d_R_edge_9 rfl (lv_at hl 2 rfl) ?_
    refine lv_i2l hx hb d_R_edge_10 rfl ?_
    refine lv_lconst (v := (0 : Int64)) hx hb d_R_edge_11 (by decide) ?_
    refine lv_ldc2 (v := (2 : Int64)) hx hb hown (htl _ k_1634) d_R_edge_12 ?_
    refine call_i (isC := []) (run_S (As := [.long x2.toInt64, .long (0 : Int64), .long (2 : Int64)]) (rest := [.ref h0]) hx hb hml hown htl (c_R_in l G Y  x2.toInt64 (0 : Int64) (2 : Int64) _ rfl) ms_R_in k_1356 (hRk (by decide) (by decide)) hK hsk hS hP hD (isC := []) rfl (by decide) rfl hl.1 rfl (lv_room (Nat.le_of_ble_eq_true rfl)) d_R_edge_15) hP hD hS rfl rfl (fun H locs hP hD hS => ?_)
    have hP : va_P G.1 classes [(h0, O_R f_raised a_all a_text a_saved a_undone f_undos f_reached f_length f_begin f_sort f_sign f_value f_word f_wrongAt f_badAt f_bad a_told f_read f_side a_pile f_piled a_open f_opened f_joins f_had a_size a_capped a_connected a_bestCost a_bestCrosses a_bestPart a_part a_trees f_treeMany a_nodes f_nodeMany f_moveNode f_movePart f_moveFirst f_moveThen f_moveOther a_out f_outMany a_kept), (a_all, aI G 1276 g_all)] H := hP
    have hD : va_D A [(h0, O_R f_raised a_all a_text a_saved a_undone f_undos f_reached f_length f_begin f_sort f_sign f_value f_word f_wrongAt f_badAt f_bad a_told f_read f_side a_pile f_piled a_open f_opened f_joins f_had a_size a_capped a_connected a_bestCost a_bestCrosses a_bestPart a_part a_trees f_treeMany a_nodes f_nodeMany f_moveNode f_movePart f_moveFirst f_moveThen f_moveOther a_out f_outMany a_kept), (a_all, aI G 1276 g_all)] := hD
    refine lv_if_eq (tgt := 25) hx hb d_R_edge_18 (by decide) (fun c4 => ?_) (fun c4 => ?_)
    · have hf := di_t c4 hf
      exact hJ25 f_raised H locs ls ⟨hP, hD, hS⟩ (lv_sub hl [0, 1, 2] rfl) hf
    · have hf := di_f c4 hf
      refine lv_iconst (v := (0 : Int32)) hx hb d_R_edge_21 (by decide) ?_
      refine lv_goto (tgt := 26) hx hb d_R_edge_22 (by decide) ?_
      exact hJ26 f_raised (0 : Int32) H locs ls ⟨hP, hD, hS⟩ (lv_sub hl [0, 1, 2] rfl) hf
set_option maxHeartbeats 4000000 in
set_option maxRecDepth 100000 in
theorem c_R_size (l : Launch) (G : va_G × (Nat → ClassId)) (Y : (Nat → Nat) × (Nat → Nat)) (h0 : Nat) (a_all : Nat) (a_text : Nat) (a_saved : Nat) (a_undone : Nat) (a_told : Nat) (a_pile : Nat) (a_open : Nat) (a_size : Nat) (a_capped : Nat) (a_connected : Nat) (a_bestCost : Nat) (a_bestCrosses : Nat) (a_bestPart : Nat) (a_part : Nat) (a_trees : Nat) (a_nodes : Nat) (a_out : Nat) (a_kept : Nat) (f_raised : Int32) (f_undos : Int32) (f_reached : Int32) (f_length : Int32) (f_begin : Int32) (f_sort : Int32) (f_sign : Int32) (f_value : Int32) (f_word : Int64) (f_wrongAt : Int32) (f_badAt : Int32) (f_bad : Int32) (f_read : Int32) (f_side : Int32) (f_piled : Int32) (f_opened : Int32) (f_joins : Int32) (f_had : Int32) (f_treeMany : Int32) (f_nodeMany : Int32) (f_moveNode : Int32) (f_movePart : Int32) (f_moveFirst : Int32) (f_moveThen : Int32) (f_moveOther : Int32) (f_outMany : Int32) (g_all : Nat → Int32) (g_capped : Nat → Int32) (g_size : Nat → Int64) (x1 : Int32) (x2 : Int32) (N : Nat) (res : Int64 × Int32 × (Nat → Int32) × (Nat → Int64)) (hf : R_size N f_raised g_all g_capped g_size x1 x2 = some res) : Cl l classes y_R_size b_R_size 3 (some .long) (rmk 2) G.1 (tyL G) Y [.ref h0, .int x1, .int x2] [(h0, O_R f_raised a_all a_text a_saved a_undone f_undos f_reached f_length f_begin f_sort f_sign f_value f_word f_wrongAt f_badAt f_bad a_told f_read f_side a_pile f_piled a_open f_opened f_joins f_had a_size a_capped a_connected a_bestCost a_bestCrosses a_bestPart a_part a_trees f_treeMany a_nodes f_nodeMany f_moveNode f_movePart f_moveFirst f_moveThen f_moveOther a_out f_outMany a_kept), (a_all, aI G 1276 g_all), (a_capped, aZ G 256 g_capped), (a_size, aJ G 256 g_size)] [(h0, O_R res.2.1 a_all a_text a_saved a_undone f_undos f_reached f_length f_begin f_sort f_sign f_value f_word f_wrongAt f_badAt f_bad a_told f_read f_side a_pile f_piled a_open f_opened f_joins f_had a_size a_capped a_connected a_bestCost a_bestCrosses a_bestPart a_part a_trees f_treeMany a_nodes f_nodeMany f_moveNode f_movePart f_moveFirst f_moveThen f_moveOther a_out f_outMany a_kept), (a_all, aI G 1276 g_all), (a_capped, aZ G 256 res.2.2.1), (a_size, aJ G 256 res.2.2.2)] res.1 := by
  refine entL (by decide) (Nat.le_of_ble_eq_true rfl) ?_
  intro p e s m args below meth c ls A Q hx hb hml hown htl hK hsk wq hl hret
  obtain ⟨hP, hD, hS⟩ := wq
  have hl : lv_has ls 3 [(0, .ref h0), (1, .int x1), (2, .int x2)] := hl
  have hS : va_S A s.heap s.heap [] := hS
  obtain ⟨H, hH⟩ : ∃ H : Heap, H = s.heap := ⟨_, rfl⟩
  obtain ⟨locs, hlocs⟩ : ∃ z : List Loc, z = [] := ⟨_, rfl⟩
  rw [← hH] at hP
  replace hS : va_S A s.heap H locs := by rw [hH, hlocs]; exact hS
  suffices hgo : W p l e (rmk 2) s m args below meth c H locs 0 0 Q (F0 m 0 ls []) by rw [hH, hlocs] at hgo; exact hgo
  refine lv_aload_n hx hb d_R_size_0 rfl (lv_at hl 0 rfl) ?_
  refine lv_iconst (v := (0 : Int32)) hx hb d_R_size_1 (by decide) ?_
  refine va_put (D := G.1) (ci := 12) (v := .int (0 : Int32)) (ty := .int) (C := n_R) (T := T_R) (N := 44) hx hb htl iw_R ty_R ty_R_ok nm_R hown hK hP hD hS 0 rfl rfl 0 (by decide) (htl _ k_1196) (fun _ h9 => h9) rfl (by decide +kernel) rfl rfl (Nat.le_of_ble_eq_true rfl) d_R_size_2 (fun H locs hP hD hS => ?_)
  have hP : va_P G.1 classes [(h0, O_R (0 : Int32) a_all a_text a_saved a_undone f_undos f_reached f_length f_begin f_sort f_sign f_value f_word f_wrongAt f_badAt f_bad a_told f_read f_side a_pile f_piled a_open f_opened f_joins f_had a_size a_capped a_connected a_bestCost a_bestCrosses a_bestPart a_part a_trees f_treeMany a_nodes f_nodeMany f_moveNode f_movePart f_moveFirst f_moveThen f_moveOther a_out f_outMany a_kept), (a_all, aI G 1276 g_all), (a_capped, aZ G 256 g_capped), (a_size, aJ G 256 g_size)] H := hP
  have hD : va_D A [(h0, O_R (0 : Int32) a_all a_text a_saved a_undone f_undos f_reached f_length f_begin f_sort f_sign f_value f_word f_wrongAt f_badAt f_bad a_told f_read f_side a_pile f_piled a_open f_opened f_joins f_had a_size a_capped a_connected a_bestCost a_bestCrosses a_bestPart a_part a_trees f_treeMany a_nodes f_nodeMany f_moveNode f_movePart f_moveFirst f_moveThen f_moveOther a_out f_outMany a_kept), (a_all, aI G 1276 g_all), (a_capped, aZ G 256 g_capped), (a_size, aJ G 256 g_size)] := hD
  refine lv_aload_n hx hb d_R_size_5 rfl (lv_at hl 0 rfl) ?_
  refine lv_iload_n hx hb d_R_size_6 rfl (lv_at hl 1 rfl) ?_
  refine call_i (isC := [0, 1]) (run_V (As := [.int x1]) (rest := []) (ci := 12) (q0 := 0) hx hb hml hown htl (c_R_isSet l G Y  h0 a_all a_text a_saved a_undone a_told a_pile a_open a_size a_capped a_connected a_bestCost a_bestCrosses a_bestPart a_part a_trees a_nodes a_out a_kept (0 : Int32) f_undos f_reached f_length f_begin f_sort f_sign f_value f_word f_wrongAt f_badAt f_bad f_read f_side f_piled f_opened f_joins f_had f_treeMany f_nodeMany f_moveNode f_movePart f_moveFirst f_moveThen f_moveOther f_outMany g_all x1 _ rfl) mv_R_isSet k_1462 (hRk (by decide) (by decide)) hK hsk hS hP hD (isC := [0, 1]) rfl (by decide) rfl rfl rfl hl.1 rfl (lv_room (Nat.le_of_ble_eq_true rfl)) d_R_size_7) hP hD hS rfl rfl (fun H locs hP hD hS => ?_)
  have hP : va_P G.1 classes [(h0, O_R (0 : Int32) a_all a_text a_saved a_undone f_undos f_reached f_length f_begin f_sort f_sign f_value f_word f_wrongAt f_badAt f_bad a_told f_read f_side a_pile f_piled a_open f_opened f_joins f_had a_size a_capped a_connected a_bestCost a_bestCrosses a_bestPart a_part a_trees f_treeMany a_nodes f_nodeMany f_moveNode f_movePart f_moveFirst f_moveThen f_moveOther a_out f_outMany a_kept), (a_all, aI G 1276 g_all), (a_capped, aZ G 256 g_capped), (a_size, aJ G 256 g_size)] H := hP
  have hD : va_D A [(h0, O_R (0 : Int32) a_all a_text a_saved a_undone f_undos f_reached f_length f_begin f_sort f_sign f_value f_word f_wrongAt f_badAt f_bad a_told f_read f_side a_pile f_piled a_open f_opened f_joins f_had a_size a_capped a_connected a_bestCost a_bestCrosses a_bestPart a_part a_trees f_treeMany a_nodes f_nodeMany f_moveNode f_movePart f_moveFirst f_moveThen f_moveOther a_out f_outMany a_kept), (a_all, aI G 1276 g_all), (a_capped, aZ G 256 g_capped), (a_size, aJ G 256 g_size)] := hD
  refine lv_if_ne (tgt := 17) hx hb d_R_size_10 (by decide) (fun c1 => ?_) (fun c1 => ?_)
  · have hf := di_f c1 hf
    refine lv_aload_n hx hb d_R_size_17 rfl (lv_at hl 0 rfl) ?_
    refine lv_iload_n hx hb d_R_size_18 rfl (lv_at hl 1 rfl) ?_
    obtain ⟨t2, hv3, hf⟩ := db_e hf
    refine call_v (isC := [0, 1, 2, 3]) (run_V (As := [.int x1]) (rest := []) (ci := 12) (q0 := 0) hx hb hml hown htl (c_R_laysSize l G Y  h0 a_all a_text a_saved a_undone a_told a_pile a_open a_size a_capped a_connected a_bestCost a_bestCrosses a_bestPart a_part a_trees a_nodes a_out a_kept (0 : Int32) f_undos f_reached f_length f_begin f_sort f_sign f_value f_word f_wrongAt f_badAt f_bad f_read f_side f_piled f_opened f_joins f_had f_treeMany f_nodeMany f_moveNode f_movePart f_moveFirst f_moveThen f_moveOther f_outMany g_all g_capped g_size x1 N t2 hv3) mv_R_laysSize k_1507 (hRk (by decide) (by decide)) hK hsk hS hP hD (isC := [0, 1, 2, 3]) rfl (by decide) rfl rfl rfl hl.1 rfl (lv_room (Nat.le_of_ble_eq_true rfl)) d_R_size_19) hP hD hS rfl rfl (fun H locs hP hD hS => ?_)
    have hP : va_P G.1 classes [(h0, O_R (0 : Int32) a_all a_text a_saved a_undone f_undos f_reached f_length f_begin f_sort f_sign f_value f_word f_wrongAt f_badAt f_bad a_told f_read f_side a_pile f_piled a_open f_opened f_joins f_had a_size a_capped a_connected a_bestCost a_bestCrosses a_bestPart a_part a_trees f_treeMany a_nodes f_nodeMany f_moveNode f_movePart f_moveFirst f_moveThen f_moveOther a_out f_outMany a_kept), (a_all, aI G 1276 g_all), (a_capped, aZ G 256 t2.1), (a_size, aJ G 256 t2.2)] H := hP
    have hD : va_D A [(h0, O_R (0 : Int32) a_all a_text a_saved a_undone f_undos f_reached f_length f_begin f_sort f_sign f_value f_word f_wrongAt f_badAt f_bad a_told f_read f_side a_pile f_piled a_open f_opened f_joins f_had a_size a_capped a_connected a_bestCost a_bestCrosses a_bestPart a_part a_trees f_treeMany a_nodes f_nodeMany f_moveNode f_movePart f_moveFirst f_moveThen f_moveOther a_out f_outMany a_kept), (a_all, aI G 1276 g_all), (a_capped, aZ G 256 t2.1), (a_size, aJ G 256 t2.2)] := hD
    refine lv_iload_n hx hb d_R_size_22 rfl (lv_at hl 2 rfl) ?_
    refine lv_if_eq (tgt := 43) hx hb d_R_size_23 (by decide) (fun c4 => ?_) (fun c4 => ?_)
    · have hf := di_t c4 hf
      refine lv_aload_n hx hb d_R_size_43 rfl (lv_at hl 0 rfl) ?_
      refine va_get (D := G.1) (ci := 12) (v := .ref a_size) (C := n_R) (T := T_R) (N := 44) hx hb htl iw_R hown hK hP 0 rfl rfl 25 (by decide) (htl _ k_1221) (fun _ h9 => h9) rfl d_R_size_44 ?_
      refine lv_iload_n hx hb d_R_size_47 rfl (lv_at hl 1 rfl) ?_
      obtain ⟨c5, hf⟩ := dk_e hf
      refine va_lald hx hb hK hP 3 2 rfl rfl c5 d_R_size_48 ?_
      cases hf
      exact hret 49 ls H locs hP hS d_R_size_49
    · have hf := di_f c4 hf
      refine lv_aload_n hx hb d_R_size_26 rfl (lv_at hl 0 rfl) ?_
      refine va_get (D := G.1) (ci := 12) (v := .ref a_capped) (C := n_R) (T := T_R) (N := 44) hx hb htl iw_R hown hK hP 0 rfl rfl 26 (by decide) (htl _ k_1222) (fun _ h9 => h9) rfl d_R_size_27 ?_
      refine lv_iload_n hx hb d_R_size_30 rfl (lv_at hl 1 rfl) ?_
      obtain ⟨c6, hf⟩ := dk_e hf
      refine va_zald hx hb hK hP 2 3 rfl rfl c6 d_R_size_31 ?_
      refine lv_if_eq (tgt := 39) hx hb d_R_size_32 (by decide) (fun c7 => ?_) (fun c7 => ?_)
      · have hf := di_t c7 hf
        refine lv_lconst (v := (0 : Int64)) hx hb d_R_size_39 (by decide) ?_
        refine lv_goto (tgt := 49) hx hb d_R_size_40 (by decide) ?_
        cases hf
        exact hret 49 ls H locs hP hS d_R_size_49
      · have hf := di_f c7 hf
        refine lv_lconst (v := (1 : Int64)) hx hb d_R_size_35 (by decide) ?_
        refine lv_goto (tgt := 49) hx hb d_R_size_36 (by decide) ?_
        cases hf
        exact hret 49 ls H locs hP hS d_R_size_49
  · have hf := di_t c1 hf
    refine lv_ldc2 (v := (-1 : Int64)) hx hb hown (htl _ k_1639) d_R_size_13 ?_
    cases hf
    exact hret 16 ls H locs hP hS d_R_size_16
set_option maxHeartbeats 4000000 in
set_option maxRecDepth 100000 in
theorem c_R_connected (l : Launch) (G : va_G × (Nat → ClassId)) (Y : (Nat → Nat) × (Nat → Nat)) (h0 : Nat) (a_all : Nat) (a_text : Nat) (a_saved : Nat) (a_undone : Nat) (a_told : Nat) (a_pile : Nat) (a_open : Nat) (a_size : Nat) (a_capped : Nat) (a_connected : Nat) (a_bestCost : Nat) (a_bestCrosses : Nat) (a_bestPart : Nat) (a_part : Nat) (a_trees : Nat) (a_nodes : Nat) (a_out : Nat) (a_kept : Nat) (f_raised : Int32) (f_undos : Int32) (f_reached : Int32) (f_length : Int32) (f_begin : Int32) (f_sort : Int32) (f_sign : Int32) (f_value : Int32) (f_word : Int64) (f_wrongAt : Int32) (f_badAt : Int32) (f_bad : Int32) (f_read : Int32) (f_side : Int32) (f_piled : Int32) (f_opened : Int32) (f_joins : Int32) (f_had : Int32) (f_treeMany : Int32) (f_nodeMany : Int32) (f_moveNode : Int32) (f_movePart : Int32) (f_moveFirst : Int32) (f_moveThen : Int32) (f_moveOther : Int32) (f_outMany : Int32) (g_all : Nat → Int32) (g_bestCost : Nat → Int64) (g_bestCrosses : Nat → Int32) (g_bestPart : Nat → Int32) (g_capped : Nat → Int32) (g_connected : Nat → Int32) (g_size : Nat → Int64) (x1 : Int32) (N : Nat) (res : Int32 × Int32 × (Nat → Int64) × (Nat → Int32) × (Nat → Int32) × (Nat → Int32) × (Nat → Int32) × (Nat → Int64)) (hf : R_connected N f_raised g_all g_bestCost g_bestCrosses g_bestPart g_capped g_connected g_size x1 = some res) : Ci l classes y_R_connected b_R_connected 2 (some .boolean) (rmk 5) G.1 (tyL G) Y [.ref h0, .int x1] [(h0, O_R f_raised a_all a_text a_saved a_undone f_undos f_reached f_length f_begin f_sort f_sign f_value f_word f_wrongAt f_badAt f_bad a_told f_read f_side a_pile f_piled a_open f_opened f_joins f_had a_size a_capped a_connected a_bestCost a_bestCrosses a_bestPart a_part a_trees f_treeMany a_nodes f_nodeMany f_moveNode f_movePart f_moveFirst f_moveThen f_moveOther a_out f_outMany a_kept), (a_all, aI G 1276 g_all), (a_bestCost, aJ G 512 g_bestCost), (a_bestCrosses, aI G 512 g_bestCrosses), (a_bestPart, aI G 512 g_bestPart), (a_capped, aZ G 256 g_capped), (a_connected, aZ G 256 g_connected), (a_size, aJ G 256 g_size)] [(h0, O_R res.2.1 a_all a_text a_saved a_undone f_undos f_reached f_length f_begin f_sort f_sign f_value f_word f_wrongAt f_badAt f_bad a_told f_read f_side a_pile f_piled a_open f_opened f_joins f_had a_size a_capped a_connected a_bestCost a_bestCrosses a_bestPart a_part a_trees f_treeMany a_nodes f_nodeMany f_moveNode f_movePart f_moveFirst f_moveThen f_moveOther a_out f_outMany a_kept), (a_all, aI G 1276 g_all), (a_bestCost, aJ G 512 res.2.2.1), (a_bestCrosses, aI G 512 res.2.2.2.1), (a_bestPart, aI G 512 res.2.2.2.2.1), (a_capped, aZ G 256 res.2.2.2.2.2.1), (a_connected, aZ G 256 res.2.2.2.2.2.2.1), (a_size, aJ G 256 res.2.2.2.2.2.2.2)] res.1 := by
  refine entZ (by decide) (Nat.le_of_ble_eq_true rfl) ?_
  intro p e s m args below meth c ls A Q hx hb hml hown htl hK hsk wq hl hret
  obtain ⟨hP, hD, hS⟩ := wq
  have hl : lv_has ls 2 [(0, .ref h0), (1, .int x1)] := hl
  have hS : va_S A s.heap s.heap [] := hS
  obtain ⟨H, hH⟩ : ∃ H : Heap, H = s.heap := ⟨_, rfl⟩
  obtain ⟨locs, hlocs⟩ : ∃ z : List Loc, z = [] := ⟨_, rfl⟩
  rw [← hH] at hP
  replace hS : va_S A s.heap H locs := by rw [hH, hlocs]; exact hS
  suffices hgo : W p l e (rmk 5) s m args below meth c H locs 0 0 Q (F0 m 0 ls []) by rw [hH, hlocs] at hgo; exact hgo
  refine lv_aload_n hx hb d_R_connected_0 rfl (lv_at hl 0 rfl) ?_
  refine lv_iconst (v := (0 : Int32)) hx hb d_R_connected_1 (by decide) ?_
  refine va_put (D := G.1) (ci := 12) (v := .int (0 : Int32)) (ty := .int) (C := n_R) (T := T_R) (N := 44) hx hb htl iw_R ty_R ty_R_ok nm_R hown hK hP hD hS 0 rfl rfl 0 (by decide) (htl _ k_1196) (fun _ h9 => h9) rfl (by decide +kernel) rfl rfl (Nat.le_of_ble_eq_true rfl) d_R_connected_2 (fun H locs hP hD hS => ?_)
  have hP : va_P G.1 classes [(h0, O_R (0 : Int32) a_all a_text a_saved a_undone f_undos f_reached f_length f_begin f_sort f_sign f_value f_word f_wrongAt f_badAt f_bad a_told f_read f_side a_pile f_piled a_open f_opened f_joins f_had a_size a_capped a_connected a_bestCost a_bestCrosses a_bestPart a_part a_trees f_treeMany a_nodes f_nodeMany f_moveNode f_movePart f_moveFirst f_moveThen f_moveOther a_out f_outMany a_kept), (a_all, aI G 1276 g_all), (a_bestCost, aJ G 512 g_bestCost), (a_bestCrosses, aI G 512 g_bestCrosses), (a_bestPart, aI G 512 g_bestPart), (a_capped, aZ G 256 g_capped), (a_connected, aZ G 256 g_connected), (a_size, aJ G 256 g_size)] H := hP
  have hD : va_D A [(h0, O_R (0 : Int32) a_all a_text a_saved a_undone f_undos f_reached f_length f_begin f_sort f_sign f_value f_word f_wrongAt f_badAt f_bad a_told f_read f_side a_pile f_piled a_open f_opened f_joins f_had a_size a_capped a_connected a_bestCost a_bestCrosses a_bestPart a_part a_trees f_treeMany a_nodes f_nodeMany f_moveNode f_movePart f_moveFirst f_moveThen f_moveOther a_out f_outMany a_kept), (a_all, aI G 1276 g_all), (a_bestCost, aJ G 512 g_bestCost), (a_bestCrosses, aI G 512 g_bestCrosses), (a_bestPart, aI G 512 g_bestPart), (a_capped, aZ G 256 g_capped), (a_connected, aZ G 256 g_connected), (a_size, aJ G 256 g_size)] := hD
  refine lv_aload_n hx hb d_R_connected_5 rfl (lv_at hl 0 rfl) ?_
  refine lv_iload_n hx hb d_R_connected_6 rfl (lv_at hl 1 rfl) ?_
  refine call_i (isC := [0, 1]) (run_V (As := [.int x1]) (rest := []) (ci := 12) (q0 := 0) hx hb hml hown htl (c_R_isSet l G Y  h0 a_all a_text a_saved a_undone a_told a_pile a_open a_size a_capped a_connected a_bestCost a_bestCrosses a_bestPart a_part a_trees a_nodes a_out a_kept (0 : Int32) f_undos f_reached f_length f_begin f_sort f_sign f_value f_word f_wrongAt f_badAt f_bad f_read f_side f_piled f_opened f_joins f_had f_treeMany f_nodeMany f_moveNode f_movePart f_moveFirst f_moveThen f_moveOther f_outMany g_all x1 _ rfl) mv_R_isSet k_1462 (hRk (by decide) (by decide)) hK hsk hS hP hD (isC := [0, 1]) rfl (by decide) rfl rfl rfl hl.1 rfl (lv_room (Nat.le_of_ble_eq_true rfl)) d_R_connected_7) hP hD hS rfl rfl (fun H locs hP hD hS => ?_)
  have hP : va_P G.1 classes [(h0, O_R (0 : Int32) a_all a_text a_saved a_undone f_undos f_reached f_length f_begin f_sort f_sign f_value f_word f_wrongAt f_badAt f_bad a_told f_read f_side a_pile f_piled a_open f_opened f_joins f_had a_size a_capped a_connected a_bestCost a_bestCrosses a_bestPart a_part a_trees f_treeMany a_nodes f_nodeMany f_moveNode f_movePart f_moveFirst f_moveThen f_moveOther a_out f_outMany a_kept), (a_all, aI G 1276 g_all), (a_bestCost, aJ G 512 g_bestCost), (a_bestCrosses, aI G 512 g_bestCrosses), (a_bestPart, aI G 512 g_bestPart), (a_capped, aZ G 256 g_capped), (a_connected, aZ G 256 g_connected), (a_size, aJ G 256 g_size)] H := hP
  have hD : va_D A [(h0, O_R (0 : Int32) a_all a_text a_saved a_undone f_undos f_reached f_length f_begin f_sort f_sign f_value f_word f_wrongAt f_badAt f_bad a_told f_read f_side a_pile f_piled a_open f_opened f_joins f_had a_size a_capped a_connected a_bestCost a_bestCrosses a_bestPart a_part a_trees f_treeMany a_nodes f_nodeMany f_moveNode f_movePart f_moveFirst f_moveThen f_moveOther a_out f_outMany a_kept), (a_all, aI G 1276 g_all), (a_bestCost, aJ G 512 g_bestCost), (a_bestCrosses, aI G 512 g_bestCrosses), (a_bestPart, aI G 512 g_bestPart), (a_capped, aZ G 256 g_capped), (a_connected, aZ G 256 g_connected), (a_size, aJ G 256 g_size)] := hD
  refine lv_if_ne (tgt := 15) hx hb d_R_connected_10 (by decide) (fun c1 => ?_) (fun c1 => ?_)
  · have hf := di_f c1 hf
    refine lv_aload_n hx hb d_R_connected_15 rfl (lv_at hl 0 rfl) ?_
    obtain ⟨t2, hv3, hf⟩ := db_e hf
    refine call_v (isC := [0, 1, 2, 3, 4, 5, 6, 7]) (run_V (As := []) (rest := []) (ci := 12) (q0 := 0) hx hb hml hown htl (c_R_lays l G Y  h0 a_all a_text a_saved a_undone a_told a_pile a_open a_size a_capped a_connected a_bestCost a_bestCrosses a_bestPart a_part a_trees a_nodes a_out a_kept (0 : Int32) f_undos f_reached f_length f_begin f_sort f_sign f_value f_word f_wrongAt f_badAt f_bad f_read f_side f_piled f_opened f_joins f_had f_treeMany f_nodeMany f_moveNode f_movePart f_moveFirst f_moveThen f_moveOther f_outMany g_all g_bestCost g_bestCrosses g_bestPart g_capped g_connected g_size N t2 hv3) mv_R_lays k_1503 (hRk (by decide) (by decide)) hK hsk hS hP hD (isC := [0, 1, 2, 3, 4, 5, 6, 7]) rfl (by decide) rfl rfl rfl hl.1 rfl (lv_room (Nat.le_of_ble_eq_true rfl)) d_R_connected_16) hP hD hS rfl rfl (fun H locs hP hD hS => ?_)
    have hP : va_P G.1 classes [(h0, O_R (0 : Int32) a_all a_text a_saved a_undone f_undos f_reached f_length f_begin f_sort f_sign f_value f_word f_wrongAt f_badAt f_bad a_told f_read f_side a_pile f_piled a_open f_opened f_joins f_had a_size a_capped a_connected a_bestCost a_bestCrosses a_bestPart a_part a_trees f_treeMany a_nodes f_nodeMany f_moveNode f_movePart f_moveFirst f_moveThen f_moveOther a_out f_outMany a_kept), (a_all, aI G 1276 g_all), (a_bestCost, aJ G 512 t2.1), (a_bestCrosses, aI G 512 t2.2.1), (a_bestPart, aI G 512 t2.2.2.1), (a_capped, aZ G 256 t2.2.2.2.1), (a_connected, aZ G 256 t2.2.2.2.2.1), (a_size, aJ G 256 t2.2.2.2.2.2)] H := hP
    have hD : va_D A [(h0, O_R (0 : Int32) a_all a_text a_saved a_undone f_undos f_reached f_length f_begin f_sort f_sign f_value f_word f_wrongAt f_badAt f_bad a_told f_read f_side a_pile f_piled a_open f_opened f_joins f_had a_size a_capped a_connected a_bestCost a_bestCrosses a_bestPart a_part a_trees f_treeMany a_nodes f_nodeMany f_moveNode f_movePart f_moveFirst f_moveThen f_moveOther a_out f_outMany a_kept), (a_all, aI G 1276 g_all), (a_bestCost, aJ G 512 t2.1), (a_bestCrosses, aI G 512 t2.2.1), (a_bestPart, aI G 512 t2.2.2.1), (a_capped, aZ G 256 t2.2.2.2.1), (a_connected, aZ G 256 t2.2.2.2.2.1), (a_size, aJ G 256 t2.2.2.2.2.2)] := hD
    refine lv_aload_n hx hb d_R_connected_19 rfl (lv_at hl 0 rfl) ?_
    refine va_get (D := G.1) (ci := 12) (v := .ref a_connected) (C := n_R) (T := T_R) (N := 44) hx hb htl iw_R hown hK hP 0 rfl rfl 27 (by decide) (htl _ k_1223) (fun _ h9 => h9) rfl d_R_connected_20 ?_
    refine lv_iload_n hx hb d_R_connected_23 rfl (lv_at hl 1 rfl) ?_
    obtain ⟨c4, hf⟩ := dk_e hf
    refine va_zald hx hb hK hP 6 3 rfl rfl c4 d_R_connected_24 ?_
    obtain ⟨c5, hf⟩ := dk_e hf
    cases hf
    exact hret 25 ls H locs c5 hP hS d_R_connected_25
  · have hf := di_t c1 hf
    refine lv_iconst (v := (0 : Int32)) hx hb d_R_connected_13 (by decide) ?_
    cases hf
    exact hret 14 ls H locs z_0 hP hS d_R_connected_14
set_option maxHeartbeats 4000000 in
set_option maxRecDepth 100000 in
theorem c_R_joined (l : Launch) (G : va_G × (Nat → ClassId)) (Y : (Nat → Nat) × (Nat → Nat)) (h0 : Nat) (a_all : Nat) (a_text : Nat) (a_saved : Nat) (a_undone : Nat) (a_told : Nat) (a_pile : Nat) (a_open : Nat) (a_size : Nat) (a_capped : Nat) (a_connected : Nat) (a_bestCost : Nat) (a_bestCrosses : Nat) (a_bestPart : Nat) (a_part : Nat) (a_trees : Nat) (a_nodes : Nat) (a_out : Nat) (a_kept : Nat) (f_raised : Int32) (f_undos : Int32) (f_reached : Int32) (f_length : Int32) (f_begin : Int32) (f_sort : Int32) (f_sign : Int32) (f_value : Int32) (f_word : Int64) (f_wrongAt : Int32) (f_badAt : Int32) (f_bad : Int32) (f_read : Int32) (f_side : Int32) (f_piled : Int32) (f_opened : Int32) (f_joins : Int32) (f_had : Int32) (f_treeMany : Int32) (f_nodeMany : Int32) (f_moveNode : Int32) (f_movePart : Int32) (f_moveFirst : Int32) (f_moveThen : Int32) (f_moveOther : Int32) (f_outMany : Int32) (g_all : Nat → Int32) (x1 : Int32) (x2 : Int32) (N : Nat) (res : Int32 × Int32) (hf : R_joined N f_raised g_all x1 x2 = some res) : Ci l classes y_R_joined b_R_joined 3 (some .boolean) (rmk 2) G.1 (tyL G) Y [.ref h0, .int x1, .int x2] [(h0, O_R f_raised a_all a_text a_saved a_undone f_undos f_reached f_length f_begin f_sort f_sign f_value f_word f_wrongAt f_badAt f_bad a_told f_read f_side a_pile f_piled a_open f_opened f_joins f_had a_size a_capped a_connected a_bestCost a_bestCrosses a_bestPart a_part a_trees f_treeMany a_nodes f_nodeMany f_moveNode f_movePart f_moveFirst f_moveThen f_moveOther a_out f_outMany a_kept), (a_all, aI G 1276 g_all)] [(h0, O_R res.2 a_all a_text a_saved a_undone f_undos f_reached f_length f_begin f_sort f_sign f_value f_word f_wrongAt f_badAt f_bad a_told f_read f_side a_pile f_piled a_open f_opened f_joins f_had a_size a_capped a_connected a_bestCost a_bestCrosses a_bestPart a_part a_trees f_treeMany a_nodes f_nodeMany f_moveNode f_movePart f_moveFirst f_moveThen f_moveOther a_out f_outMany a_kept), (a_all, aI G 1276 g_all)] res.1 := by
  refine entZ (by decide) (Nat.le_of_ble_eq_true rfl) ?_
  intro p e s m args below meth c ls A Q hx hb hml hown htl hK hsk wq hl hret
  obtain ⟨hP, hD, hS⟩ := wq
  have hl : lv_has ls 3 [(0, .ref h0), (1, .int x1), (2, .int x2)] := hl
  have hS : va_S A s.heap s.heap [] := hS
  obtain ⟨H, hH⟩ : ∃ H : Heap, H = s.heap := ⟨_, rfl⟩
  obtain ⟨locs, hlocs⟩ : ∃ z : List Loc, z = [] := ⟨_, rfl⟩
  rw [← hH] at hP
  replace hS : va_S A s.heap H locs := by rw [hH, hlocs]; exact hS
  suffices hgo : W p l e (rmk 2) s m args below meth c H locs 0 0 Q (F0 m 0 ls []) by rw [hH, hlocs] at hgo; exact hgo
  refine lv_aload_n hx hb d_R_joined_0 rfl (lv_at hl 0 rfl) ?_
  refine lv_iconst (v := (0 : Int32)) hx hb d_R_joined_1 (by decide) ?_
  refine va_put (D := G.1) (ci := 12) (v := .int (0 : Int32)) (ty := .int) (C := n_R) (T := T_R) (N := 44) hx hb htl iw_R ty_R ty_R_ok nm_R hown hK hP hD hS 0 rfl rfl 0 (by decide) (htl _ k_1196) (fun _ h9 => h9) rfl (by decide +kernel) rfl rfl (Nat.le_of_ble_eq_true rfl) d_R_joined_2 (fun H locs hP hD hS => ?_)
  have hP : va_P G.1 classes [(h0, O_R (0 : Int32) a_all a_text a_saved a_undone f_undos f_reached f_length f_begin f_sort f_sign f_value f_word f_wrongAt f_badAt f_bad a_told f_read f_side a_pile f_piled a_open f_opened f_joins f_had a_size a_capped a_connected a_bestCost a_bestCrosses a_bestPart a_part a_trees f_treeMany a_nodes f_nodeMany f_moveNode f_movePart f_moveFirst f_moveThen f_moveOther a_out f_outMany a_kept), (a_all, aI G 1276 g_all)] H := hP
  have hD : va_D A [(h0, O_R (0 : Int32) a_all a_text a_saved a_undone f_undos f_reached f_length f_begin f_sort f_sign f_value f_word f_wrongAt f_badAt f_bad a_told f_read f_side a_pile f_piled a_open f_opened f_joins f_had a_size a_capped a_connected a_bestCost a_bestCrosses a_bestPart a_part a_trees f_treeMany a_nodes f_nodeMany f_moveNode f_movePart f_moveFirst f_moveThen f_moveOther a_out f_outMany a_kept), (a_all, aI G 1276 g_all)] := hD
  refine lv_aload_n hx hb d_R_joined_5 rfl (lv_at hl 0 rfl) ?_
  refine lv_iload_n hx hb d_R_joined_6 rfl (lv_at hl 1 rfl) ?_
  refine call_i (isC := [0, 1]) (run_V (As := [.int x1]) (rest := []) (ci := 12) (q0 := 0) hx hb hml hown htl (c_R_isSet l G Y  h0 a_all a_text a_saved a_undone a_told a_pile a_open a_size a_capped a_connected a_bestCost a_bestCrosses a_bestPart a_part a_trees a_nodes a_out a_kept (0 : Int32) f_undos f_reached f_length f_begin f_sort f_sign f_value f_word f_wrongAt f_badAt f_bad f_read f_side f_piled f_opened f_joins f_had f_treeMany f_nodeMany f_moveNode f_movePart f_moveFirst f_moveThen f_moveOther f_outMany g_all x1 _ rfl) mv_R_isSet k_1462 (hRk (by decide) (by decide)) hK hsk hS hP hD (isC := [0, 1]) rfl (by decide) rfl rfl rfl hl.1 rfl (lv_room (Nat.le_of_ble_eq_true rfl)) d_R_joined_7) hP hD hS rfl rfl (fun H locs hP hD hS => ?_)
  have hP : va_P G.1 classes [(h0, O_R (0 : Int32) a_all a_text a_saved a_undone f_undos f_reached f_length f_begin f_sort f_sign f_value f_word f_wrongAt f_badAt f_bad a_told f_read f_side a_pile f_piled a_open f_opened f_joins f_had a_size a_capped a_connected a_bestCost a_bestCrosses a_bestPart a_part a_trees f_treeMany a_nodes f_nodeMany f_moveNode f_movePart f_moveFirst f_moveThen f_moveOther a_out f_outMany a_kept), (a_all, aI G 1276 g_all)] H := hP
  have hD : va_D A [(h0, O_R (0 : Int32) a_all a_text a_saved a_undone f_undos f_reached f_length f_begin f_sort f_sign f_value f_word f_wrongAt f_badAt f_bad a_told f_read f_side a_pile f_piled a_open f_opened f_joins f_had a_size a_capped a_connected a_bestCost a_bestCrosses a_bestPart a_part a_trees f_treeMany a_nodes f_nodeMany f_moveNode f_movePart f_moveFirst f_moveThen f_moveOther a_out f_outMany a_kept), (a_all, aI G 1276 g_all)] := hD
  refine lv_if_eq (tgt := 40) hx hb d_R_joined_10 (by decide) (fun c1 => ?_) (fun c1 => ?_)
  · have hf := di_t c1 hf
    refine lv_iconst (v := (0 : Int32)) hx hb d_R_joined_40 (by decide) ?_
    cases hf
    exact hret 41 ls H locs z_0 hP hS d_R_joined_41
  · have hf := di_f c1 hf
    refine lv_aload_n hx hb d_R_joined_13 rfl (lv_at hl 0 rfl) ?_
    refine lv_iload_n hx hb d_R_joined_14 rfl (lv_at hl 2 rfl) ?_
    refine call_i (isC := [0, 1]) (run_V (As := [.int x2]) (rest := []) (ci := 12) (q0 := 0) hx hb hml hown htl (c_R_isSet l G Y  h0 a_all a_text a_saved a_undone a_told a_pile a_open a_size a_capped a_connected a_bestCost a_bestCrosses a_bestPart a_part a_trees a_nodes a_out a_kept (0 : Int32) f_undos f_reached f_length f_begin f_sort f_sign f_value f_word f_wrongAt f_badAt f_bad f_read f_side f_piled f_opened f_joins f_had f_treeMany f_nodeMany f_moveNode f_movePart f_moveFirst f_moveThen f_moveOther f_outMany g_all x2 _ rfl) mv_R_isSet k_1462 (hRk (by decide) (by decide)) hK hsk hS hP hD (isC := [0, 1]) rfl (by decide) rfl rfl rfl hl.1 rfl (lv_room (Nat.le_of_ble_eq_true rfl)) d_R_joined_15) hP hD hS rfl rfl (fun H locs hP hD hS => ?_)
    have hP : va_P G.1 classes [(h0, O_R (0 : Int32) a_all a_text a_saved a_undone f_undos f_reached f_length f_begin f_sort f_sign f_value f_word f_wrongAt f_badAt f_bad a_told f_read f_side a_pile f_piled a_open f_opened f_joins f_had a_size a_capped a_connected a_bestCost a_bestCrosses a_bestPart a_part a_trees f_treeMany a_nodes f_nodeMany f_moveNode f_movePart f_moveFirst f_moveThen f_moveOther a_out f_outMany a_kept), (a_all, aI G 1276 g_all)] H := hP
    have hD : va_D A [(h0, O_R (0 : Int32) a_all a_text a_saved a_undone f_undos f_reached f_length f_begin f_sort f_sign f_value f_word f_wrongAt f_badAt f_bad a_told f_read f_side a_pile f_piled a_open f_opened f_joins f_had a_size a_capped a_connected a_bestCost a_bestCrosses a_bestPart a_part a_trees f_treeMany a_nodes f_nodeMany f_moveNode f_movePart f_moveFirst f_moveThen f_moveOther a_out f_outMany a_kept), (a_all, aI G 1276 g_all)] := hD
    refine lv_if_eq (tgt := 40) hx hb d_R_joined_18 (by decide) (fun c2 => ?_) (fun c2 => ?_)
    · have hf := di_t c2 hf
      refine lv_iconst (v := (0 : Int32)) hx hb d_R_joined_40 (by decide) ?_
      cases hf
      exact hret 41 ls H locs z_0 hP hS d_R_joined_41
    · have hf := di_f c2 hf
      refine lv_iload_n hx hb d_R_joined_21 rfl (lv_at hl 1 rfl) ?_
      refine lv_iload_n hx hb d_R_joined_22 rfl (lv_at hl 2 rfl) ?_
      refine lv_iand hx hb d_R_joined_23 ?_
      refine lv_if_ne (tgt := 40) hx hb d_R_joined_24 (by decide) (fun c3 => ?_) (fun c3 => ?_)
      · have hf := di_f c3 hf
        refine lv_iconst (v := (0 : Int32)) hx hb d_R_joined_40 (by decide) ?_
        cases hf
        exact hret 41 ls H locs z_0 hP hS d_R_joined_41
      · have hf := di_t c3 hf
        refine lv_aload_n hx hb d_R_joined_27 rfl (lv_at hl 0 rfl) ?_
        refine lv_iload_n hx hb d_R_joined_28 rfl (lv_at hl 1 rfl) ?_
        refine lv_iload_n hx hb d_R_joined_29 rfl (lv_at hl 2 rfl) ?_
        obtain ⟨t4, hv5, hf⟩ := db_e hf
        refine call_i (isC := [0, 1]) (run_V (As := [.int x1, .int x2]) (rest := []) (ci := 12) (q0 := 0) hx hb hml hown htl (c_R_isJoined l G Y  h0 a_all a_text a_saved a_undone a_told a_pile a_open a_size a_capped a_connected a_bestCost a_bestCrosses a_bestPart a_part a_trees a_nodes a_out a_kept (0 : Int32) f_undos f_reached f_length f_begin f_sort f_sign f_value f_word f_wrongAt f_badAt f_bad f_read f_side f_piled f_opened f_joins f_had f_treeMany f_nodeMany f_moveNode f_movePart f_moveFirst f_moveThen f_moveOther f_outMany g_all x1 x2 N t4 hv5) mv_R_isJoined k_1531 (hRk (by decide) (by decide)) hK hsk hS hP hD (isC := [0, 1]) rfl (by decide) rfl rfl rfl hl.1 rfl (lv_room (Nat.le_of_ble_eq_true rfl)) d_R_joined_30) hP hD hS rfl rfl (fun H locs hP hD hS => ?_)
        have hP : va_P G.1 classes [(h0, O_R (0 : Int32) a_all a_text a_saved a_undone f_undos f_reached f_length f_begin f_sort f_sign f_value f_word f_wrongAt f_badAt f_bad a_told f_read f_side a_pile f_piled a_open f_opened f_joins f_had a_size a_capped a_connected a_bestCost a_bestCrosses a_bestPart a_part a_trees f_treeMany a_nodes f_nodeMany f_moveNode f_movePart f_moveFirst f_moveThen f_moveOther a_out f_outMany a_kept), (a_all, aI G 1276 g_all)] H := hP
        have hD : va_D A [(h0, O_R (0 : Int32) a_all a_text a_saved a_undone f_undos f_reached f_length f_begin f_sort f_sign f_value f_word f_wrongAt f_badAt f_bad a_told f_read f_side a_pile f_piled a_open f_opened f_joins f_had a_size a_capped a_connected a_bestCost a_bestCrosses a_bestPart a_part a_trees f_treeMany a_nodes f_nodeMany f_moveNode f_movePart f_moveFirst f_moveThen f_moveOther a_out f_outMany a_kept), (a_all, aI G 1276 g_all)] := hD
        refine lv_if_eq (tgt := 40) hx hb d_R_joined_33 (by decide) (fun c6 => ?_) (fun c6 => ?_)
        · have hf := di_t c6 hf
          refine lv_iconst (v := (0 : Int32)) hx hb d_R_joined_40 (by decide) ?_
          cases hf
          exact hret 41 ls H locs z_0 hP hS d_R_joined_41
        · have hf := di_f c6 hf
          refine lv_iconst (v := (1 : Int32)) hx hb d_R_joined_36 (by decide) ?_
          refine lv_goto (tgt := 41) hx hb d_R_joined_37 (by decide) ?_
          cases hf
          exact hret 41 ls H locs z_1 hP hS d_R_joined_41
set_option maxHeartbeats 4000000 in
set_option maxRecDepth 100000 in
theorem c_R_pair (l : Launch) (G : va_G × (Nat → ClassId)) (Y : (Nat → Nat) × (Nat → Nat)) (h0 : Nat) (a_all : Nat) (a_text : Nat) (a_saved : Nat) (a_undone : Nat) (a_told : Nat) (a_pile : Nat) (a_open : Nat) (a_size : Nat) (a_capped : Nat) (a_connected : Nat) (a_bestCost : Nat) (a_bestCrosses : Nat) (a_bestPart : Nat) (a_part : Nat) (a_trees : Nat) (a_nodes : Nat) (a_out : Nat) (a_kept : Nat) (f_raised : Int32) (f_undos : Int32) (f_reached : Int32) (f_length : Int32) (f_begin : Int32) (f_sort : Int32) (f_sign : Int32) (f_value : Int32) (f_word : Int64) (f_wrongAt : Int32) (f_badAt : Int32) (f_bad : Int32) (f_read : Int32) (f_side : Int32) (f_piled : Int32) (f_opened : Int32) (f_joins : Int32) (f_had : Int32) (f_treeMany : Int32) (f_nodeMany : Int32) (f_moveNode : Int32) (f_movePart : Int32) (f_moveFirst : Int32) (f_moveThen : Int32) (f_moveOther : Int32) (f_outMany : Int32) (g_all : Nat → Int32) (g_bestCost : Nat → Int64) (g_bestCrosses : Nat → Int32) (g_bestPart : Nat → Int32) (g_capped : Nat → Int32) (g_connected : Nat → Int32) (g_size : Nat → Int64) (x1 : Int32) (x2 : Int32) (N : Nat) (res : Int32 × Int32 × (Nat → Int64) × (Nat → Int32) × (Nat → Int32) × (Nat → Int32) × (Nat → Int32) × (Nat → Int64)) (hf : R_pair N f_raised g_all g_bestCost g_bestCrosses g_bestPart g_capped g_connected g_size x1 x2 = some res) : Ci l classes y_R_pair b_R_pair 6 (some .int) (rmk 5) G.1 (tyL G) Y [.ref h0, .int x1, .int x2] [(h0, O_R f_raised a_all a_text a_saved a_undone f_undos f_reached f_length f_begin f_sort f_sign f_value f_word f_wrongAt f_badAt f_bad a_told f_read f_side a_pile f_piled a_open f_opened f_joins f_had a_size a_capped a_connected a_bestCost a_bestCrosses a_bestPart a_part a_trees f_treeMany a_nodes f_nodeMany f_moveNode f_movePart f_moveFirst f_moveThen f_moveOther a_out f_outMany a_kept), (a_all, aI G 1276 g_all), (a_bestCost, aJ G 512 g_bestCost), (a_bestCrosses, aI G 512 g_bestCrosses), (a_bestPart, aI G 512 g_bestPart), (a_capped, aZ G 256 g_capped), (a_connected, aZ G 256 g_connected), (a_size, aJ G 256 g_size)] [(h0, O_R res.2.1 a_all a_text a_saved a_undone f_undos f_reached f_length f_begin f_sort f_sign f_value f_word f_wrongAt f_badAt f_bad a_told f_read f_side a_pile f_piled a_open f_opened f_joins f_had a_size a_capped a_connected a_bestCost a_bestCrosses a_bestPart a_part a_trees f_treeMany a_nodes f_nodeMany f_moveNode f_movePart f_moveFirst f_moveThen f_moveOther a_out f_outMany a_kept), (a_all, aI G 1276 g_all), (a_bestCost, aJ G 512 res.2.2.1), (a_bestCrosses, aI G 512 res.2.2.2.1), (a_bestPart, aI G 512 res.2.2.2.2.1), (a_capped, aZ G 256 res.2.2.2.2.2.1), (a_connected, aZ G 256 res.2.2.2.2.2.2.1), (a_size, aJ G 256 res.2.2.2.2.2.2.2)] res.1 := by
  refine entI (by decide) (Nat.le_of_ble_eq_true rfl) ?_
  intro p e s m args below meth c ls A Q hx hb hml hown htl hK hsk wq hl hret
  obtain ⟨hP, hD, hS⟩ := wq
  have hl : lv_has ls 6 [(0, .ref h0), (1, .int x1), (2, .int x2)] := hl
  have hS : va_S A s.heap s.heap [] := hS
  obtain ⟨H, hH⟩ : ∃ H : Heap, H = s.heap := ⟨_, rfl⟩
  obtain ⟨locs, hlocs⟩ : ∃ z : List Loc, z = [] := ⟨_, rfl⟩
  rw [← hH] at hP
  replace hS : va_S A s.heap H locs := by rw [hH, hlocs]; exact hS
  suffices hgo : W p l e (rmk 5) s m args below meth c H locs 0 0 Q (F0 m 0 ls []) by rw [hH, hlocs] at hgo; exact hgo
  have hJ81 : ∀ (f_raised : Int32) (g_bestCost : Nat → Int64) (g_bestCrosses : Nat → Int32) (g_bestPart : Nat → Int32) (g_capped : Nat → Int32) (g_connected : Nat → Int32) (g_size : Nat → Int64) (H : Heap) (locs : List Loc) (ls : Array Slot), PDS G.1 classes A s [(h0, O_R f_raised a_all a_text a_saved a_undone f_undos f_reached f_length f_begin f_sort f_sign f_value f_word f_wrongAt f_badAt f_bad a_told f_read f_side a_pile f_piled a_open f_opened f_joins f_had a_size a_capped a_connected a_bestCost a_bestCrosses a_bestPart a_part a_trees f_treeMany a_nodes f_nodeMany f_moveNode f_movePart f_moveFirst f_moveThen f_moveOther a_out f_outMany a_kept), (a_all, aI G 1276 g_all), (a_bestCost, aJ G 512 g_bestCost), (a_bestCrosses, aI G 512 g_bestCrosses), (a_bestPart, aI G 512 g_bestPart), (a_capped, aZ G 256 g_capped), (a_connected, aZ G 256 g_connected), (a_size, aJ G 256 g_size)] H locs → lv_has ls 6 [] → R_pair_81 N f_raised g_all g_bestCost g_bestCrosses g_bestPart g_capped g_connected g_size = some res → W p l e (rmk 5) s m args below meth c H locs 0 0 Q (F0 m 81 ls []) := by
    intro f_raised g_bestCost g_bestCrosses g_bestPart g_capped g_connected g_size H locs ls wq hl hf
    obtain ⟨hP, hD, hS⟩ := wq
    refine lv_iconst (v := (-1 : Int32)) hx hb d_R_pair_81 (by decide) ?_
    cases hf
    exact hret 82 ls H locs hP hS d_R_pair_82
  have hJ49 : ∀ (f_raised : Int32) (g_bestCost : Nat → Int64) (g_bestCrosses : Nat → Int32) (g_bestPart : Nat → Int32) (g_capped : Nat → Int32) (g_connected : Nat → Int32) (g_size : Nat → Int64) (x4 : Int32) (x5 : Int32) (H : Heap) (locs : List Loc) (ls : Array Slot), PDS G.1 classes A s [(h0, O_R f_raised a_all a_text a_saved a_undone f_undos f_reached f_length f_begin f_sort f_sign f_value f_word f_wrongAt f_badAt f_bad a_told f_read f_side a_pile f_piled a_open f_opened f_joins f_had a_size a_capped a_connected a_bestCost a_bestCrosses a_bestPart a_part a_trees f_treeMany a_nodes f_nodeMany f_moveNode f_movePart f_moveFirst f_moveThen f_moveOther a_out f_outMany a_kept), (a_all, aI G 1276 g_all), (a_bestCost, aJ G 512 g_bestCost), (a_bestCrosses, aI G 512 g_bestCrosses), (a_bestPart, aI G 512 g_bestPart), (a_capped, aZ G 256 g_capped), (a_connected, aZ G 256 g_connected), (a_size, aJ G 256 g_size)] H locs → lv_has ls 6 [(2, .int x2), (4, .int x4), (5, .int x5)] → R_pair_49 N f_raised g_all g_bestCost g_bestCrosses g_bestPart g_capped g_connected g_size x2 x4 x5 = some res → W p l e (rmk 5) s m args below meth c H locs 0 0 Q (F0 m 49 ls []) := by
    intro f_raised g_bestCost g_bestCrosses g_bestPart g_capped g_connected g_size x4 x5 H locs ls wq hl hf
    obtain ⟨hP, hD, hS⟩ := wq
    refine lv_iload_n hx hb d_R_pair_49 rfl (lv_at hl 0 rfl) ?_
    refine lv_if_eq (tgt := 63) hx hb d_R_pair_50 (by decide) (fun c13 => ?_) (fun c13 => ?_)
    · have hf := di_t c13 hf
      refine lv_iload hx hb d_R_pair_63 (lv_at hl 2 rfl) ?_
      cases hf
      exact hret 65 ls H locs hP hS d_R_pair_65
    · have hf := di_f c13 hf
      refine lv_iload hx hb d_R_pair_53 (lv_at hl 1 rfl) ?_
      refine lv_iload hx hb d_R_pair_55 (lv_at hl 2 rfl) ?_
      refine lv_iconst (v := (-1 : Int32)) hx hb d_R_pair_57 (by decide) ?_
      refine lv_ixor hx hb d_R_pair_58 ?_
      refine lv_iand hx hb d_R_pair_59 ?_
      refine lv_goto (tgt := 65) hx hb d_R_pair_60 (by decide) ?_
      cases hf
      exact hret 65 ls H locs hP hS d_R_pair_65
  have hJ14 : ∀ (f_raised : Int32) (g_bestCost : Nat → Int64) (g_bestCrosses : Nat → Int32) (g_bestPart : Nat → Int32) (g_capped : Nat → Int32) (g_connected : Nat → Int32) (g_size : Nat → Int64) (x3 : Int32) (x4 : Int32) (H : Heap) (locs : List Loc) (ls : Array Slot), PDS G.1 classes A s [(h0, O_R f_raised a_all a_text a_saved a_undone f_undos f_reached f_length f_begin f_sort f_sign f_value f_word f_wrongAt f_badAt f_bad a_told f_read f_side a_pile f_piled a_open f_opened f_joins f_had a_size a_capped a_connected a_bestCost a_bestCrosses a_bestPart a_part a_trees f_treeMany a_nodes f_nodeMany f_moveNode f_movePart f_moveFirst f_moveThen f_moveOther a_out f_outMany a_kept), (a_all, aI G 1276 g_all), (a_bestCost, aJ G 512 g_bestCost), (a_bestCrosses, aI G 512 g_bestCrosses), (a_bestPart, aI G 512 g_bestPart), (a_capped, aZ G 256 g_capped), (a_connected, aZ G 256 g_connected), (a_size, aJ G 256 g_size)] H locs → lv_has ls 6 [(0, .ref h0), (1, .int x1), (2, .int x2), (3, .int x3), (4, .int x4)] → R_pair_14 N f_raised g_all g_bestCost g_bestCrosses g_bestPart g_capped g_connected g_size x1 x2 x3 x4 = some res → W p l e (rmk 5) s m args below meth c H locs 0 0 Q (F0 m 14 ls []) := by
    intro f_raised g_bestCost g_bestCrosses g_bestPart g_capped g_connected g_size x3 x4 H locs ls wq hl hf
    obtain ⟨hP, hD, hS⟩ := wq
    obtain ⟨y14, hy14, hfo14⟩ := db_e hf
    have hL14 : ∀ (n : Nat) (x3 : Int32) (x4 : Int32) (H : Heap) (locs : List Loc) (ls : Array Slot), lp (fun x => R_pair_b14 N f_raised g_all g_bestCost g_bestCrosses g_bestPart g_capped g_connected g_size x1 x2 x.1 x.2) n (x3, x4) = some y14 → PDS G.1 classes A s [(h0, O_R f_raised a_all a_text a_saved a_undone f_undos f_reached f_length f_begin f_sort f_sign f_value f_word f_wrongAt f_badAt f_bad a_told f_read f_side a_pile f_piled a_open f_opened f_joins f_had a_size a_capped a_connected a_bestCost a_bestCrosses a_bestPart a_part a_trees f_treeMany a_nodes f_nodeMany f_moveNode f_movePart f_moveFirst f_moveThen f_moveOther a_out f_outMany a_kept), (a_all, aI G 1276 g_all), (a_bestCost, aJ G 512 g_bestCost), (a_bestCrosses, aI G 512 g_bestCrosses), (a_bestPart, aI G 512 g_bestPart), (a_capped, aZ G 256 g_capped), (a_connected, aZ G 256 g_connected), (a_size, aJ G 256 g_size)] H locs → lv_has ls 6 [(0, .ref h0), (1, .int x1), (2, .int x2), (3, .int x3), (4, .int x4)] → W p l e (rmk 5) s m args below meth c H locs 0 0 Q (F0 m 14 ls []) := by
      intro n
      induction n with
      | zero =>
        intro x3 x4 H locs ls hf
        exact lp_0 hf
      | succ n ih14 =>
        intro x3 x4 H locs ls hf wq hl
        obtain ⟨hP, hD, hS⟩ := wq
        obtain ⟨r14, hf, hk14⟩ := lp_s hf
        have hf : R_pair_b14 N f_raised g_all g_bestCost g_bestCrosses g_bestPart g_capped g_connected g_size x1 x2 x3 x4 = some r14 := hf
        have hJ75 : ∀ (x3 : Int32) (x4 : Int32) (H : Heap) (locs : List Loc) (ls : Array Slot), PDS G.1 classes A s [(h0, O_R f_raised a_all a_text a_saved a_undone f_undos f_reached f_length f_begin f_sort f_sign f_value f_word f_wrongAt f_badAt f_bad a_told f_read f_side a_pile f_piled a_open f_opened f_joins f_had a_size a_capped a_connected a_bestCost a_bestCrosses a_bestPart a_part a_trees f_treeMany a_nodes f_nodeMany f_moveNode f_movePart f_moveFirst f_moveThen f_moveOther a_out f_outMany a_kept), (a_all, aI G 1276 g_all), (a_bestCost, aJ G 512 g_bestCost), (a_bestCrosses, aI G 512 g_bestCrosses), (a_bestPart, aI G 512 g_bestPart), (a_capped, aZ G 256 g_capped), (a_connected, aZ G 256 g_connected), (a_size, aJ G 256 g_size)] H locs → lv_has ls 6 [(0, .ref h0), (1, .int x1), (2, .int x2), (3, .int x3), (4, .int x4)] → R_pair_75 N f_raised g_all g_bestCost g_bestCrosses g_bestPart g_capped g_connected g_size x1 x2 x3 x4 = some r14 → W p l e (rmk 5) s m args below meth c H locs 0 0 Q (F0 m 75 ls []) := by
          intro x3 x4 H locs ls wq hl hf
          obtain ⟨hP, hD, hS⟩ := wq
          obtain ⟨v12, ev12⟩ : ∃ z : Int32, z = x4 + (1 : Int32) := ⟨_, rfl⟩
          have hf := dn_e ev12 hf
          refine lv_iinc (v := v12) (lv' := [(4, .int v12), (0, .ref h0), (1, .int x1), (2, .int x2), (3, .int x3)]) hx hb d_R_pair_75 hl (k := 4) rfl (by rw [ev12]; rfl) (by decide) rfl (fun ls hl => ?_)
          refine lv_goto (tgt := 14) hx hb d_R_pair_78 (by decide) ?_
          exact ih14 x3 v12 H locs ls (lpk_i hf hk14) ⟨hP, hD, hS⟩ (lv_sub hl [1, 2, 3, 4, 0] rfl)
        have hJ26 : ∀ (x3 : Int32) (x4 : Int32) (x5 : Int32) (H : Heap) (locs : List Loc) (ls : Array Slot), PDS G.1 classes A s [(h0, O_R f_raised a_all a_text a_saved a_undone f_undos f_reached f_length f_begin f_sort f_sign f_value f_word f_wrongAt f_badAt f_bad a_told f_read f_side a_pile f_piled a_open f_opened f_joins f_had a_size a_capped a_connected a_bestCost a_bestCrosses a_bestPart a_part a_trees f_treeMany a_nodes f_nodeMany f_moveNode f_movePart f_moveFirst f_moveThen f_moveOther a_out f_outMany a_kept), (a_all, aI G 1276 g_all), (a_bestCost, aJ G 512 g_bestCost), (a_bestCrosses, aI G 512 g_bestCrosses), (a_bestPart, aI G 512 g_bestPart), (a_capped, aZ G 256 g_capped), (a_connected, aZ G 256 g_connected), (a_size, aJ G 256 g_size)] H locs → lv_has ls 6 [(0, .ref h0), (1, .int x1), (2, .int x2), (3, .int x3), (4, .int x4), (5, .int x5)] → R_pair_26 N f_raised g_all g_bestCost g_bestCrosses g_bestPart g_capped g_connected g_size x1 x2 x3 x4 x5 = some r14 → W p l e (rmk 5) s m args below meth c H locs 0 0 Q (F0 m 26 ls []) := by
          intro x3 x4 x5 H locs ls wq hl hf
          obtain ⟨hP, hD, hS⟩ := wq
          obtain ⟨y26, hy26, hfo26⟩ := db_e hf
          have hL26 : ∀ (n : Nat) (x3 : Int32) (x5 : Int32) (H : Heap) (locs : List Loc) (ls : Array Slot), lp (fun x => R_pair_b26 N f_raised g_all g_bestCost g_bestCrosses g_bestPart g_capped g_connected g_size x1 x2 x.1 x4 x.2) n (x3, x5) = some y26 → PDS G.1 classes A s [(h0, O_R f_raised a_all a_text a_saved a_undone f_undos f_reached f_length f_begin f_sort f_sign f_value f_word f_wrongAt f_badAt f_bad a_told f_read f_side a_pile f_piled a_open f_opened f_joins f_had a_size a_capped a_connected a_bestCost a_bestCrosses a_bestPart a_part a_trees f_treeMany a_nodes f_nodeMany f_moveNode f_movePart f_moveFirst f_moveThen f_moveOther a_out f_outMany a_kept), (a_all, aI G 1276 g_all), (a_bestCost, aJ G 512 g_bestCost), (a_bestCrosses, aI G 512 g_bestCrosses), (a_bestPart, aI G 512 g_bestPart), (a_capped, aZ G 256 g_capped), (a_connected, aZ G 256 g_connected), (a_size, aJ G 256 g_size)] H locs → lv_has ls 6 [(0, .ref h0), (1, .int x1), (2, .int x2), (3, .int x3), (4, .int x4), (5, .int x5)] → W p l e (rmk 5) s m args below meth c H locs 0 0 Q (F0 m 26 ls []) := by
            intro n
            induction n with
            | zero =>
              intro x3 x5 H locs ls hf
              exact lp_0 hf
            | succ n ih26 =>
              intro x3 x5 H locs ls hf wq hl
              obtain ⟨hP, hD, hS⟩ := wq
              obtain ⟨r26, hf, hk26⟩ := lp_s hf
              have hf : R_pair_b26 N f_raised g_all g_bestCost g_bestCrosses g_bestPart g_capped g_connected g_size x1 x2 x3 x4 x5 = some r26 := hf
              refine lv_iload hx hb d_R_pair_26 (lv_at hl 5 rfl) ?_
              refine lv_iload hx hb d_R_pair_28 (lv_at hl 4 rfl) ?_
              refine lv_icmp_ge (tgt := 75) hx hb d_R_pair_30 (by decide) (fun c4 => ?_) (fun c4 => ?_)
              · have hf := di_t c4 hf
                have hq26 := lpk_x hf hk26
                have hf := ex_y (f := fun y => R_pair_a26 N f_raised g_all g_bestCost g_bestCrosses g_bestPart g_capped g_connected g_size x1 x2 x4 y) hq26 hfo26
                have hf : R_pair_75 N f_raised g_all g_bestCost g_bestCrosses g_bestPart g_capped g_connected g_size x1 x2 x3 x4 = some r14 := hf
                exact hJ75 x3 x4 H locs ls ⟨hP, hD, hS⟩ (lv_sub hl [0, 1, 2, 3, 4] rfl) hf
              · have hf := di_f c4 hf
                refine lv_aload_n hx hb d_R_pair_33 rfl (lv_at hl 0 rfl) ?_
                refine lv_iload hx hb d_R_pair_34 (lv_at hl 5 rfl) ?_
                refine lv_iload hx hb d_R_pair_36 (lv_at hl 4 rfl) ?_
                obtain ⟨t5, hv6, hf⟩ := db_e hf
                refine call_i (isC := [0, 1, 6]) (run_V (As := [.int x5, .int x4]) (rest := []) (ci := 12) (q0 := 0) hx hb hml hown htl (c_R_isPair l G Y  h0 a_all a_text a_saved a_undone a_told a_pile a_open a_size a_capped a_connected a_bestCost a_bestCrosses a_bestPart a_part a_trees a_nodes a_out a_kept f_raised f_undos f_reached f_length f_begin f_sort f_sign f_value f_word f_wrongAt f_badAt f_bad f_read f_side f_piled f_opened f_joins f_had f_treeMany f_nodeMany f_moveNode f_movePart f_moveFirst f_moveThen f_moveOther f_outMany g_all g_connected x5 x4 N t5 hv6) mv_R_isPair k_1527 (hRk (by decide) (by decide)) hK hsk hS hP hD (isC := [0, 1, 6]) rfl (by decide) rfl rfl rfl hl.1 rfl (lv_room (Nat.le_of_ble_eq_true rfl)) d_R_pair_38) hP hD hS rfl rfl (fun H locs hP hD hS => ?_)
                have hP : va_P G.1 classes [(h0, O_R f_raised a_all a_text a_saved a_undone f_undos f_reached f_length f_begin f_sort f_sign f_value f_word f_wrongAt f_badAt f_bad a_told f_read f_side a_pile f_piled a_open f_opened f_joins f_had a_size a_capped a_connected a_bestCost a_bestCrosses a_bestPart a_part a_trees f_treeMany a_nodes f_nodeMany f_moveNode f_movePart f_moveFirst f_moveThen f_moveOther a_out f_outMany a_kept), (a_all, aI G 1276 g_all), (a_bestCost, aJ G 512 g_bestCost), (a_bestCrosses, aI G 512 g_bestCrosses), (a_bestPart, aI G 512 g_bestPart), (a_capped, aZ G 256 g_capped), (a_connected, aZ G 256 g_connected), (a_size, aJ G 256 g_size)] H := hP
                have hD : va_D A [(h0, O_R f_raised a_all a_text a_saved a_undone f_undos f_reached f_length f_begin f_sort f_sign f_value f_word f_wrongAt f_badAt f_bad a_told f_read f_side a_pile f_piled a_open f_opened f_joins f_had a_size a_capped a_connected a_bestCost a_bestCrosses a_bestPart a_part a_trees f_treeMany a_nodes f_nodeMany f_moveNode f_movePart f_moveFirst f_moveThen f_moveOther a_out f_outMany a_kept), (a_all, aI G 1276 g_all), (a_bestCost, aJ G 512 g_bestCost), (a_bestCrosses, aI G 512 g_bestCrosses), (a_bestPart, aI G 512 g_bestPart), (a_capped, aZ G 256 g_capped), (a_connected, aZ G 256 g_connected), (a_size, aJ G 256 g_size)] := hD
                refine lv_if_eq (tgt := 69) hx hb d_R_pair_41 (by decide) (fun c7 => ?_) (fun c7 => ?_)
                · have hf := di_t c7 hf
                  obtain ⟨v8, ev8⟩ : ∃ z : Int32, z = x5 + (1 : Int32) := ⟨_, rfl⟩
                  have hf := dn_e ev8 hf
                  refine lv_iinc (v := v8) (lv' := [(5, .int v8), (0, .ref h0), (1, .int x1), (2, .int x2), (3, .int x3), (4, .int x4)]) hx hb d_R_pair_69 hl (k := 5) rfl (by rw [ev8]; rfl) (by decide) rfl (fun ls hl => ?_)
                  refine lv_goto (tgt := 26) hx hb d_R_pair_72 (by decide) ?_
                  exact ih26 x3 v8 H locs ls (lpk_i hf hk26) ⟨hP, hD, hS⟩ (lv_sub hl [1, 2, 3, 4, 5, 0] rfl)
                · have hf := di_f c7 hf
                  refine lv_iload_n hx hb d_R_pair_44 rfl (lv_at hl 3 rfl) ?_
                  refine lv_iload_n hx hb d_R_pair_45 rfl (lv_at hl 1 rfl) ?_
                  refine lv_icmp_ne (tgt := 66) hx hb d_R_pair_46 (by decide) (fun c9 => ?_) (fun c9 => ?_)
                  · have hf := di_f c9 hf
                    obtain ⟨v10, ev10⟩ : ∃ z : Int32, z = x3 + (1 : Int32) := ⟨_, rfl⟩
                    have hf := dn_e ev10 hf
                    refine lv_iinc (v := v10) (lv' := [(3, .int v10), (0, .ref h0), (1, .int x1), (2, .int x2), (4, .int x4), (5, .int x5)]) hx hb d_R_pair_66 hl (k := 3) rfl (by rw [ev10]; rfl) (by decide) rfl (fun ls hl => ?_)
                    obtain ⟨v11, ev11⟩ : ∃ z : Int32, z = x5 + (1 : Int32) := ⟨_, rfl⟩
                    have hf := dn_e ev11 hf
                    refine lv_iinc (v := v11) (lv' := [(5, .int v11), (3, .int v10), (0, .ref h0), (1, .int x1), (2, .int x2), (4, .int x4)]) hx hb d_R_pair_69 hl (k := 5) rfl (by rw [ev11]; rfl) (by decide) rfl (fun ls hl => ?_)
                    refine lv_goto (tgt := 26) hx hb d_R_pair_72 (by decide) ?_
                    exact ih26 v10 v11 H locs ls (lpk_i hf hk26) ⟨hP, hD, hS⟩ (lv_sub hl [2, 3, 4, 1, 5, 0] rfl)
                  · have hf := di_t c9 hf
                    have hq26 := lpk_x hf hk26
                    have hf := ex_y (f := fun y => R_pair_a26 N f_raised g_all g_bestCost g_bestCrosses g_bestPart g_capped g_connected g_size x1 x2 x4 y) hq26 hfo26
                    have hf : some (Sum.inr (Sum.inl (x4, x5))) = some r14 := hf
                    have hq14 := lpk_x hf hk14
                    have hf := ex_y (f := fun y => R_pair_a14 N f_raised g_all g_bestCost g_bestCrosses g_bestPart g_capped g_connected g_size x1 x2 y) hq14 hfo14
                    have hf : R_pair_49 N f_raised g_all g_bestCost g_bestCrosses g_bestPart g_capped g_connected g_size x2 x4 x5 = some res := hf
                    exact hJ49 f_raised g_bestCost g_bestCrosses g_bestPart g_capped g_connected g_size x4 x5 H locs ls ⟨hP, hD, hS⟩ (lv_sub hl [2, 4, 5] rfl) hf
          exact hL26 N x3 x5 H locs ls hy26 ⟨hP, hD, hS⟩ hl
        refine lv_iload hx hb d_R_pair_14 (lv_at hl 4 rfl) ?_
        refine lv_aload_n hx hb d_R_pair_16 rfl (lv_at hl 0 rfl) ?_
        refine call_i (isC := [0, 1]) (run_V (As := []) (rest := [.int x4]) (ci := 12) (q0 := 0) hx hb hml hown htl (c_R_everything l G Y  h0 a_all a_text a_saved a_undone a_told a_pile a_open a_size a_capped a_connected a_bestCost a_bestCrosses a_bestPart a_part a_trees a_nodes a_out a_kept f_raised f_undos f_reached f_length f_begin f_sort f_sign f_value f_word f_wrongAt f_badAt f_bad f_read f_side f_piled f_opened f_joins f_had f_treeMany f_nodeMany f_moveNode f_movePart f_moveFirst f_moveThen f_moveOther f_outMany g_all _ rfl) mv_R_everything k_1466 (hRk (by decide) (by decide)) hK hsk hS hP hD (isC := [0, 1]) rfl (by decide) rfl rfl rfl hl.1 rfl (lv_room (Nat.le_of_ble_eq_true rfl)) d_R_pair_17) hP hD hS rfl rfl (fun H locs hP hD hS => ?_)
        have hP : va_P G.1 classes [(h0, O_R f_raised a_all a_text a_saved a_undone f_undos f_reached f_length f_begin f_sort f_sign f_value f_word f_wrongAt f_badAt f_bad a_told f_read f_side a_pile f_piled a_open f_opened f_joins f_had a_size a_capped a_connected a_bestCost a_bestCrosses a_bestPart a_part a_trees f_treeMany a_nodes f_nodeMany f_moveNode f_movePart f_moveFirst f_moveThen f_moveOther a_out f_outMany a_kept), (a_all, aI G 1276 g_all), (a_bestCost, aJ G 512 g_bestCost), (a_bestCrosses, aI G 512 g_bestCrosses), (a_bestPart, aI G 512 g_bestPart), (a_capped, aZ G 256 g_capped), (a_connected, aZ G 256 g_connected), (a_size, aJ G 256 g_size)] H := hP
        have hD : va_D A [(h0, O_R f_raised a_all a_text a_saved a_undone f_undos f_reached f_length f_begin f_sort f_sign f_value f_word f_wrongAt f_badAt f_bad a_told f_read f_side a_pile f_piled a_open f_opened f_joins f_had a_size a_capped a_connected a_bestCost a_bestCrosses a_bestPart a_part a_trees f_treeMany a_nodes f_nodeMany f_moveNode f_movePart f_moveFirst f_moveThen f_moveOther a_out f_outMany a_kept), (a_all, aI G 1276 g_all), (a_bestCost, aJ G 512 g_bestCost), (a_bestCrosses, aI G 512 g_bestCrosses), (a_bestPart, aI G 512 g_bestPart), (a_capped, aZ G 256 g_capped), (a_connected, aZ G 256 g_connected), (a_size, aJ G 256 g_size)] := hD
        refine lv_icmp_gt (tgt := 81) hx hb d_R_pair_20 (by decide) (fun c3 => ?_) (fun c3 => ?_)
        · have hf := di_t c3 hf
          have hq14 := lpk_x hf hk14
          have hf := ex_y (f := fun y => R_pair_a14 N f_raised g_all g_bestCost g_bestCrosses g_bestPart g_capped g_connected g_size x1 x2 y) hq14 hfo14
          have hf : R_pair_81 N f_raised g_all g_bestCost g_bestCrosses g_bestPart g_capped g_connected g_size = some res := hf
          exact hJ81 f_raised g_bestCost g_bestCrosses g_bestPart g_capped g_connected g_size H locs ls ⟨hP, hD, hS⟩ (lv_sub hl [] rfl) hf
        · have hf := di_f c3 hf
          refine lv_iconst (v := (1 : Int32)) hx hb d_R_pair_23 (by decide) ?_
          refine lv_istore (lv' := [(5, .int (1 : Int32)), (0, .ref h0), (1, .int x1), (2, .int x2), (3, .int x3), (4, .int x4)]) hx hb d_R_pair_24 hl (by decide) rfl (fun ls hl => ?_)
          exact hJ26 x3 x4 (1 : Int32) H locs ls ⟨hP, hD, hS⟩ (lv_sub hl [1, 2, 3, 4, 5, 0] rfl) hf
    exact hL14 N x3 x4 H locs ls hy14 ⟨hP, hD, hS⟩ hl
  refine lv_aload_n hx hb d_R_pair_0 rfl (lv_at hl 0 rfl) ?_
  refine lv_iconst (v := (0 : Int32)) hx hb d_R_pair_1 (by decide) ?_
  refine va_put (D := G.1) (ci := 12) (v := .int (0 : Int32)) (ty := .int) (C := n_R) (T := T_R) (N := 44) hx hb htl iw_R ty_R ty_R_ok nm_R hown hK hP hD hS 0 rfl rfl 0 (by decide) (htl _ k_1196) (fun _ h9 => h9) rfl (by decide +kernel) rfl rfl (Nat.le_of_ble_eq_true rfl) d_R_pair_2 (fun H locs hP hD hS => ?_)
  have hP : va_P G.1 classes [(h0, O_R (0 : Int32) a_all a_text a_saved a_undone f_undos f_reached f_length f_begin f_sort f_sign f_value f_word f_wrongAt f_badAt f_bad a_told f_read f_side a_pile f_piled a_open f_opened f_joins f_had a_size a_capped a_connected a_bestCost a_bestCrosses a_bestPart a_part a_trees f_treeMany a_nodes f_nodeMany f_moveNode f_movePart f_moveFirst f_moveThen f_moveOther a_out f_outMany a_kept), (a_all, aI G 1276 g_all), (a_bestCost, aJ G 512 g_bestCost), (a_bestCrosses, aI G 512 g_bestCrosses), (a_bestPart, aI G 512 g_bestPart), (a_capped, aZ G 256 g_capped), (a_connected, aZ G 256 g_connected), (a_size, aJ G 256 g_size)] H := hP
  have hD : va_D A [(h0, O_R (0 : Int32) a_all a_text a_saved a_undone f_undos f_reached f_length f_begin f_sort f_sign f_value f_word f_wrongAt f_badAt f_bad a_told f_read f_side a_pile f_piled a_open f_opened f_joins f_had a_size a_capped a_connected a_bestCost a_bestCrosses a_bestPart a_part a_trees f_treeMany a_nodes f_nodeMany f_moveNode f_movePart f_moveFirst f_moveThen f_moveOther a_out f_outMany a_kept), (a_all, aI G 1276 g_all), (a_bestCost, aJ G 512 g_bestCost), (a_bestCrosses, aI G 512 g_bestCrosses), (a_bestPart, aI G 512 g_bestPart), (a_capped, aZ G 256 g_capped), (a_connected, aZ G 256 g_connected), (a_size, aJ G 256 g_size)] := hD
  refine lv_aload_n hx hb d_R_pair_5 rfl (lv_at hl 0 rfl) ?_
  obtain ⟨t1, hv2, hf⟩ := db_e hf
  refine call_v (isC := [0, 1, 2, 3, 4, 5, 6, 7]) (run_V (As := []) (rest := []) (ci := 12) (q0 := 0) hx hb hml hown htl (c_R_lays l G Y  h0 a_all a_text a_saved a_undone a_told a_pile a_open a_size a_capped a_connected a_bestCost a_bestCrosses a_bestPart a_part a_trees a_nodes a_out a_kept (0 : Int32) f_undos f_reached f_length f_begin f_sort f_sign f_value f_word f_wrongAt f_badAt f_bad f_read f_side f_piled f_opened f_joins f_had f_treeMany f_nodeMany f_moveNode f_movePart f_moveFirst f_moveThen f_moveOther f_outMany g_all g_bestCost g_bestCrosses g_bestPart g_capped g_connected g_size N t1 hv2) mv_R_lays k_1503 (hRk (by decide) (by decide)) hK hsk hS hP hD (isC := [0, 1, 2, 3, 4, 5, 6, 7]) rfl (by decide) rfl rfl rfl hl.1 rfl (lv_room (Nat.le_of_ble_eq_true rfl)) d_R_pair_6) hP hD hS rfl rfl (fun H locs hP hD hS => ?_)
  have hP : va_P G.1 classes [(h0, O_R (0 : Int32) a_all a_text a_saved a_undone f_undos f_reached f_length f_begin f_sort f_sign f_value f_word f_wrongAt f_badAt f_bad a_told f_read f_side a_pile f_piled a_open f_opened f_joins f_had a_size a_capped a_connected a_bestCost a_bestCrosses a_bestPart a_part a_trees f_treeMany a_nodes f_nodeMany f_moveNode f_movePart f_moveFirst f_moveThen f_moveOther a_out f_outMany a_kept), (a_all, aI G 1276 g_all), (a_bestCost, aJ G 512 t1.1), (a_bestCrosses, aI G 512 t1.2.1), (a_bestPart, aI G 512 t1.2.2.1), (a_capped, aZ G 256 t1.2.2.2.1), (a_connected, aZ G 256 t1.2.2.2.2.1), (a_size, aJ G 256 t1.2.2.2.2.2)] H := hP
  have hD : va_D A [(h0, O_R (0 : Int32) a_all a_text a_saved a_undone f_undos f_reached f_length f_begin f_sort f_sign f_value f_word f_wrongAt f_badAt f_bad a_told f_read f_side a_pile f_piled a_open f_opened f_joins f_had a_size a_capped a_connected a_bestCost a_bestCrosses a_bestPart a_part a_trees f_treeMany a_nodes f_nodeMany f_moveNode f_movePart f_moveFirst f_moveThen f_moveOther a_out f_outMany a_kept), (a_all, aI G 1276 g_all), (a_bestCost, aJ G 512 t1.1), (a_bestCrosses, aI G 512 t1.2.1), (a_bestPart, aI G 512 t1.2.2.1), (a_capped, aZ G 256 t1.2.2.2.1), (a_connected, aZ G 256 t1.2.2.2.2.1), (a_size, aJ G 256 t1.2.2.2.2.2)] := hD
  refine lv_iconst (v := (0 : Int32)) hx hb d_R_pair_9 (by decide) ?_
  refine lv_istore_n (lv' := [(3, .int (0 : Int32)), (0, .ref h0), (1, .int x1), (2, .int x2)]) hx hb d_R_pair_10 rfl hl (by decide) rfl (fun ls hl => ?_)
  refine lv_iconst (v := (1 : Int32)) hx hb d_R_pair_11 (by decide) ?_
  refine lv_istore (lv' := [(4, .int (1 : Int32)), (3, .int (0 : Int32)), (0, .ref h0), (1, .int x1), (2, .int x2)]) hx hb d_R_pair_12 hl (by decide) rfl (fun ls hl => ?_)
  exact hJ14 (0 : Int32) t1.1 t1.2.1 t1.2.2.1 t1.2.2.2.1 t1.2.2.2.2.1 t1.2.2.2.2.2 (0 : Int32) (1 : Int32) H locs ls ⟨hP, hD, hS⟩ (lv_sub hl [2, 3, 4, 1, 0] rfl) hf
set_option maxHeartbeats 4000000 in
set_option maxRecDepth 100000 in
theorem c_R_best (l : Launch) (G : va_G × (Nat → ClassId)) (Y : (Nat → Nat) × (Nat → Nat)) (h0 : Nat) (a_all : Nat) (a_text : Nat) (a_saved : Nat) (a_undone : Nat) (a_told : Nat) (a_pile : Nat) (a_open : Nat) (a_size : Nat) (a_capped : Nat) (a_connected : Nat) (a_bestCost : Nat) (a_bestCrosses : Nat) (a_bestPart : Nat) (a_part : Nat) (a_trees : Nat) (a_nodes : Nat) (a_out : Nat) (a_kept : Nat) (f_raised : Int32) (f_undos : Int32) (f_reached : Int32) (f_length : Int32) (f_begin : Int32) (f_sort : Int32) (f_sign : Int32) (f_value : Int32) (f_word : Int64) (f_wrongAt : Int32) (f_badAt : Int32) (f_bad : Int32) (f_read : Int32) (f_side : Int32) (f_piled : Int32) (f_opened : Int32) (f_joins : Int32) (f_had : Int32) (f_treeMany : Int32) (f_nodeMany : Int32) (f_moveNode : Int32) (f_movePart : Int32) (f_moveFirst : Int32) (f_moveThen : Int32) (f_moveOther : Int32) (f_outMany : Int32) (g_all : Nat → Int32) (g_bestCost : Nat → Int64) (g_bestCrosses : Nat → Int32) (g_bestPart : Nat → Int32) (g_capped : Nat → Int32) (g_connected : Nat → Int32) (g_size : Nat → Int64) (x1 : Int32) (x2 : Int32) (x3 : Int32) (N : Nat) (res : Int64 × Int32 × (Nat → Int64) × (Nat → Int32) × (Nat → Int32) × (Nat → Int32) × (Nat → Int32) × (Nat → Int64)) (hf : R_best N f_raised g_all g_bestCost g_bestCrosses g_bestPart g_capped g_connected g_size x1 x2 x3 = some res) : Cl l classes y_R_best b_R_best 5 (some .long) (rmk 5) G.1 (tyL G) Y [.ref h0, .int x1, .int x2, .int x3] [(h0, O_R f_raised a_all a_text a_saved a_undone f_undos f_reached f_length f_begin f_sort f_sign f_value f_word f_wrongAt f_badAt f_bad a_told f_read f_side a_pile f_piled a_open f_opened f_joins f_had a_size a_capped a_connected a_bestCost a_bestCrosses a_bestPart a_part a_trees f_treeMany a_nodes f_nodeMany f_moveNode f_movePart f_moveFirst f_moveThen f_moveOther a_out f_outMany a_kept), (a_all, aI G 1276 g_all), (a_bestCost, aJ G 512 g_bestCost), (a_bestCrosses, aI G 512 g_bestCrosses), (a_bestPart, aI G 512 g_bestPart), (a_capped, aZ G 256 g_capped), (a_connected, aZ G 256 g_connected), (a_size, aJ G 256 g_size)] [(h0, O_R res.2.1 a_all a_text a_saved a_undone f_undos f_reached f_length f_begin f_sort f_sign f_value f_word f_wrongAt f_badAt f_bad a_told f_read f_side a_pile f_piled a_open f_opened f_joins f_had a_size a_capped a_connected a_bestCost a_bestCrosses a_bestPart a_part a_trees f_treeMany a_nodes f_nodeMany f_moveNode f_movePart f_moveFirst f_moveThen f_moveOther a_out f_outMany a_kept), (a_all, aI G 1276 g_all), (a_bestCost, aJ G 512 res.2.2.1), (a_bestCrosses, aI G 512 res.2.2.2.1), (a_bestPart, aI G 512 res.2.2.2.2.1), (a_capped, aZ G 256 res.2.2.2.2.2.1), (a_connected, aZ G 256 res.2.2.2.2.2.2.1), (a_size, aJ G 256 res.2.2.2.2.2.2.2)] res.1 := by
  refine entL (by decide) (Nat.le_of_ble_eq_true rfl) ?_
  intro p e s m args below meth c ls A Q hx hb hml hown htl hK hsk wq hl hret
  obtain ⟨hP, hD, hS⟩ := wq
  have hl : lv_has ls 5 [(0, .ref h0), (1, .int x1), (2, .int x2), (3, .int x3)] := hl
  have hS : va_S A s.heap s.heap [] := hS
  obtain ⟨H, hH⟩ : ∃ H : Heap, H = s.heap := ⟨_, rfl⟩
  obtain ⟨locs, hlocs⟩ : ∃ z : List Loc, z = [] := ⟨_, rfl⟩
  rw [← hH] at hP
  replace hS : va_S A s.heap H locs := by rw [hH, hlocs]; exact hS
  suffices hgo : W p l e (rmk 5) s m args below meth c H locs 0 0 Q (F0 m 0 ls []) by rw [hH, hlocs] at hgo; exact hgo
  have hJ45 : ∀ (f_raised : Int32) (g_bestCost : Nat → Int64) (g_bestCrosses : Nat → Int32) (g_bestPart : Nat → Int32) (g_capped : Nat → Int32) (g_connected : Nat → Int32) (g_size : Nat → Int64) (z0 : Int32) (z1 : Int32) (H : Heap) (locs : List Loc) (ls : Array Slot), PDS G.1 classes A s [(h0, O_R f_raised a_all a_text a_saved a_undone f_undos f_reached f_length f_begin f_sort f_sign f_value f_word f_wrongAt f_badAt f_bad a_told f_read f_side a_pile f_piled a_open f_opened f_joins f_had a_size a_capped a_connected a_bestCost a_bestCrosses a_bestPart a_part a_trees f_treeMany a_nodes f_nodeMany f_moveNode f_movePart f_moveFirst f_moveThen f_moveOther a_out f_outMany a_kept), (a_all, aI G 1276 g_all), (a_bestCost, aJ G 512 g_bestCost), (a_bestCrosses, aI G 512 g_bestCrosses), (a_bestPart, aI G 512 g_bestPart), (a_capped, aZ G 256 g_capped), (a_connected, aZ G 256 g_connected), (a_size, aJ G 256 g_size)] H locs → lv_has ls 5 [(0, .ref h0), (3, .int x3)] → R_best_45 N f_raised g_all g_bestCost g_bestCrosses g_bestPart g_capped g_connected g_size x3 z0 z1 = some res → W p l e (rmk 5) s m args below meth c H locs 0 0 Q (F0 m 45 ls [.int z1, .int z0]) := by
    intro f_raised g_bestCost g_bestCrosses g_bestPart g_capped g_connected g_size z0 z1 H locs ls wq hl hf
    obtain ⟨hP, hD, hS⟩ := wq
    refine lv_iadd hx hb d_R_best_45 ?_
    refine lv_topi (fun v6 ev6 => ?_)
    have hf := dn_e ev6 hf
    refine lv_istore (lv' := [(4, .int v6), (0, .ref h0), (3, .int x3)]) hx hb d_R_best_46 hl (by decide) rfl (fun ls hl => ?_)
    refine lv_iload_n hx hb d_R_best_48 rfl (lv_at hl 2 rfl) ?_
    refine lv_if_ne (tgt := 62) hx hb d_R_best_49 (by decide) (fun c7 => ?_) (fun c7 => ?_)
    · have hf := di_f c7 hf
      refine lv_iload_n hx hb d_R_best_62 rfl (lv_at hl 2 rfl) ?_
      refine lv_iconst (v := (1 : Int32)) hx hb d_R_best_63 (by decide) ?_
      refine lv_icmp_ne (tgt := 78) hx hb d_R_best_64 (by decide) (fun c8 => ?_) (fun c8 => ?_)
      · have hf := di_f c8 hf
        refine lv_aload_n hx hb d_R_best_78 rfl (lv_at hl 1 rfl) ?_
        refine va_get (D := G.1) (ci := 12) (v := .ref a_bestPart) (C := n_R) (T := T_R) (N := 44) hx hb htl iw_R hown hK hP 0 rfl rfl 30 (by decide) (htl _ k_1226) (fun _ h9 => h9) rfl d_R_best_79 ?_
        refine lv_iload hx hb d_R_best_82 (lv_at hl 0 rfl) ?_
        obtain ⟨c9, hf⟩ := dk_e hf
        refine va_iald hx hb hK hP 4 1 rfl rfl c9 d_R_best_84 ?_
        refine lv_i2l hx hb d_R_best_85 rfl ?_
        cases hf
        exact hret 86 ls H locs hP hS d_R_best_86
      · have hf := di_t c8 hf
        refine lv_aload_n hx hb d_R_best_67 rfl (lv_at hl 1 rfl) ?_
        refine va_get (D := G.1) (ci := 12) (v := .ref a_bestCrosses) (C := n_R) (T := T_R) (N := 44) hx hb htl iw_R hown hK hP 0 rfl rfl 29 (by decide) (htl _ k_1225) (fun _ h9 => h9) rfl d_R_best_68 ?_
        refine lv_iload hx hb d_R_best_71 (lv_at hl 0 rfl) ?_
        obtain ⟨c10, hf⟩ := dk_e hf
        refine va_iald hx hb hK hP 3 1 rfl rfl c10 d_R_best_73 ?_
        refine lv_i2l hx hb d_R_best_74 rfl ?_
        refine lv_goto (tgt := 86) hx hb d_R_best_75 (by decide) ?_
        cases hf
        exact hret 86 ls H locs hP hS d_R_best_86
    · have hf := di_t c7 hf
      refine lv_aload_n hx hb d_R_best_52 rfl (lv_at hl 1 rfl) ?_
      refine va_get (D := G.1) (ci := 12) (v := .ref a_bestCost) (C := n_R) (T := T_R) (N := 44) hx hb htl iw_R hown hK hP 0 rfl rfl 28 (by decide) (htl _ k_1224) (fun _ h9 => h9) rfl d_R_best_53 ?_
      refine lv_iload hx hb d_R_best_56 (lv_at hl 0 rfl) ?_
      obtain ⟨c11, hf⟩ := dk_e hf
      refine va_lald hx hb hK hP 2 2 rfl rfl c11 d_R_best_58 ?_
      refine lv_goto (tgt := 86) hx hb d_R_best_59 (by decide) ?_
      cases hf
      exact hret 86 ls H locs hP hS d_R_best_86
  have hJ25 : ∀ (f_raised : Int32) (g_bestCost : Nat → Int64) (g_bestCrosses : Nat → Int32) (g_bestPart : Nat → Int32) (g_capped : Nat → Int32) (g_connected : Nat → Int32) (g_size : Nat → Int64) (H : Heap) (locs : List Loc) (ls : Array Slot), PDS G.1 classes A s [(h0, O_R f_raised a_all a_text a_saved a_undone f_undos f_reached f_length f_begin f_sort f_sign f_value f_word f_wrongAt f_badAt f_bad a_told f_read f_side a_pile f_piled a_open f_opened f_joins f_had a_size a_capped a_connected a_bestCost a_bestCrosses a_bestPart a_part a_trees f_treeMany a_nodes f_nodeMany f_moveNode f_movePart f_moveFirst f_moveThen f_moveOther a_out f_outMany a_kept), (a_all, aI G 1276 g_all), (a_bestCost, aJ G 512 g_bestCost), (a_bestCrosses, aI G 512 g_bestCrosses), (a_bestPart, aI G 512 g_bestPart), (a_capped, aZ G 256 g_capped), (a_connected, aZ G 256 g_connected), (a_size, aJ G 256 g_size)] H locs → lv_has ls 5 [] → R_best_25 N f_raised g_all g_bestCost g_bestCrosses g_bestPart g_capped g_connected g_size = some res → W p l e (rmk 5) s m args below meth c H locs 0 0 Q (F0 m 25 ls []) := by
    intro f_raised g_bestCost g_bestCrosses g_bestPart g_capped g_connected g_size H locs ls wq hl hf
    obtain ⟨hP, hD, hS⟩ := wq
    refine lv_ldc2 (v := (-1 : Int64)) hx hb hown (htl _ k_1639) d_R_best_25 ?_
    cases hf
    exact hret 28 ls H locs hP hS d_R_best_28
  refine lv_aload_n hx hb d_R_best_0 rfl (lv_at hl 0 rfl) ?_
  refine lv_iconst (v := (0 : Int32)) hx hb d_R_best_1 (by decide) ?_
  refine va_put (D := G.1) (ci := 12) (v := .int (0 : Int32)) (ty := .int) (C := n_R) (T := T_R) (N := 44) hx hb htl iw_R ty_R ty_R_ok nm_R hown hK hP hD hS 0 rfl rfl 0 (by decide) (htl _ k_1196) (fun _ h9 => h9) rfl (by decide +kernel) rfl rfl (Nat.le_of_ble_eq_true rfl) d_R_best_2 (fun H locs hP hD hS => ?_)
  have hP : va_P G.1 classes [(h0, O_R (0 : Int32) a_all a_text a_saved a_undone f_undos f_reached f_length f_begin f_sort f_sign f_value f_word f_wrongAt f_badAt f_bad a_told f_read f_side a_pile f_piled a_open f_opened f_joins f_had a_size a_capped a_connected a_bestCost a_bestCrosses a_bestPart a_part a_trees f_treeMany a_nodes f_nodeMany f_moveNode f_movePart f_moveFirst f_moveThen f_moveOther a_out f_outMany a_kept), (a_all, aI G 1276 g_all), (a_bestCost, aJ G 512 g_bestCost), (a_bestCrosses, aI G 512 g_bestCrosses), (a_bestPart, aI G 512 g_bestPart), (a_capped, aZ G 256 g_capped), (a_connected, aZ G 256 g_connected), (a_size, aJ G 256 g_size)] H := hP
  have hD : va_D A [(h0, O_R (0 : Int32) a_all a_text a_saved a_undone f_undos f_reached f_length f_begin f_sort f_sign f_value f_word f_wrongAt f_badAt f_bad a_told f_read f_side a_pile f_piled a_open f_opened f_joins f_had a_size a_capped a_connected a_bestCost a_bestCrosses a_bestPart a_part a_trees f_treeMany a_nodes f_nodeMany f_moveNode f_movePart f_moveFirst f_moveThen f_moveOther a_out f_outMany a_kept), (a_all, aI G 1276 g_all), (a_bestCost, aJ G 512 g_bestCost), (a_bestCrosses, aI G 512 g_bestCrosses), (a_bestPart, aI G 512 g_bestPart), (a_capped, aZ G 256 g_capped), (a_connected, aZ G 256 g_connected), (a_size, aJ G 256 g_size)] := hD
  refine lv_aload_n hx hb d_R_best_5 rfl (lv_at hl 0 rfl) ?_
  refine lv_iload_n hx hb d_R_best_6 rfl (lv_at hl 1 rfl) ?_
  refine call_i (isC := [0, 1]) (run_V (As := [.int x1]) (rest := []) (ci := 12) (q0 := 0) hx hb hml hown htl (c_R_isSet l G Y  h0 a_all a_text a_saved a_undone a_told a_pile a_open a_size a_capped a_connected a_bestCost a_bestCrosses a_bestPart a_part a_trees a_nodes a_out a_kept (0 : Int32) f_undos f_reached f_length f_begin f_sort f_sign f_value f_word f_wrongAt f_badAt f_bad f_read f_side f_piled f_opened f_joins f_had f_treeMany f_nodeMany f_moveNode f_movePart f_moveFirst f_moveThen f_moveOther f_outMany g_all x1 _ rfl) mv_R_isSet k_1462 (hRk (by decide) (by decide)) hK hsk hS hP hD (isC := [0, 1]) rfl (by decide) rfl rfl rfl hl.1 rfl (lv_room (Nat.le_of_ble_eq_true rfl)) d_R_best_7) hP hD hS rfl rfl (fun H locs hP hD hS => ?_)
  have hP : va_P G.1 classes [(h0, O_R (0 : Int32) a_all a_text a_saved a_undone f_undos f_reached f_length f_begin f_sort f_sign f_value f_word f_wrongAt f_badAt f_bad a_told f_read f_side a_pile f_piled a_open f_opened f_joins f_had a_size a_capped a_connected a_bestCost a_bestCrosses a_bestPart a_part a_trees f_treeMany a_nodes f_nodeMany f_moveNode f_movePart f_moveFirst f_moveThen f_moveOther a_out f_outMany a_kept), (a_all, aI G 1276 g_all), (a_bestCost, aJ G 512 g_bestCost), (a_bestCrosses, aI G 512 g_bestCrosses), (a_bestPart, aI G 512 g_bestPart), (a_capped, aZ G 256 g_capped), (a_connected, aZ G 256 g_connected), (a_size, aJ G 256 g_size)] H := hP
  have hD : va_D A [(h0, O_R (0 : Int32) a_all a_text a_saved a_undone f_undos f_reached f_length f_begin f_sort f_sign f_value f_word f_wrongAt f_badAt f_bad a_told f_read f_side a_pile f_piled a_open f_opened f_joins f_had a_size a_capped a_connected a_bestCost a_bestCrosses a_bestPart a_part a_trees f_treeMany a_nodes f_nodeMany f_moveNode f_movePart f_moveFirst f_moveThen f_moveOther a_out f_outMany a_kept), (a_all, aI G 1276 g_all), (a_bestCost, aJ G 512 g_bestCost), (a_bestCrosses, aI G 512 g_bestCrosses), (a_bestPart, aI G 512 g_bestPart), (a_capped, aZ G 256 g_capped), (a_connected, aZ G 256 g_connected), (a_size, aJ G 256 g_size)] := hD
  refine lv_if_eq (tgt := 25) hx hb d_R_best_10 (by decide) (fun c1 => ?_) (fun c1 => ?_)
  · have hf := di_t c1 hf
    exact hJ25 (0 : Int32) g_bestCost g_bestCrosses g_bestPart g_capped g_connected g_size H locs ls ⟨hP, hD, hS⟩ (lv_sub hl [] rfl) hf
  · have hf := di_f c1 hf
    refine lv_iload_n hx hb d_R_best_13 rfl (lv_at hl 3 rfl) ?_
    refine lv_i2l hx hb d_R_best_14 rfl ?_
    refine lv_lconst (v := (0 : Int64)) hx hb d_R_best_15 (by decide) ?_
    refine lv_ldc2 (v := (2 : Int64)) hx hb hown (htl _ k_1634) d_R_best_16 ?_
    refine call_i (isC := []) (run_S (As := [.long x3.toInt64, .long (0 : Int64), .long (2 : Int64)]) (rest := []) hx hb hml hown htl (c_R_in l G Y  x3.toInt64 (0 : Int64) (2 : Int64) _ rfl) ms_R_in k_1356 (hRk (by decide) (by decide)) hK hsk hS hP hD (isC := []) rfl (by decide) rfl hl.1 rfl (lv_room (Nat.le_of_ble_eq_true rfl)) d_R_best_19) hP hD hS rfl rfl (fun H locs hP hD hS => ?_)
    have hP : va_P G.1 classes [(h0, O_R (0 : Int32) a_all a_text a_saved a_undone f_undos f_reached f_length f_begin f_sort f_sign f_value f_word f_wrongAt f_badAt f_bad a_told f_read f_side a_pile f_piled a_open f_opened f_joins f_had a_size a_capped a_connected a_bestCost a_bestCrosses a_bestPart a_part a_trees f_treeMany a_nodes f_nodeMany f_moveNode f_movePart f_moveFirst f_moveThen f_moveOther a_out f_outMany a_kept), (a_all, aI G 1276 g_all), (a_bestCost, aJ G 512 g_bestCost), (a_bestCrosses, aI G 512 g_bestCrosses), (a_bestPart, aI G 512 g_bestPart), (a_capped, aZ G 256 g_capped), (a_connected, aZ G 256 g_connected), (a_size, aJ G 256 g_size)] H := hP
    have hD : va_D A [(h0, O_R (0 : Int32) a_all a_text a_saved a_undone f_undos f_reached f_length f_begin f_sort f_sign f_value f_word f_wrongAt f_badAt f_bad a_told f_read f_side a_pile f_piled a_open f_opened f_joins f_had a_size a_capped a_connected a_bestCost a_bestCrosses a_bestPart a_part a_trees f_treeMany a_nodes f_nodeMany f_moveNode f_movePart f_moveFirst f_moveThen f_moveOther a_out f_outMany a_kept), (a_all, aI G 1276 g_all), (a_bestCost, aJ G 512 g_bestCost), (a_bestCrosses, aI G 512 g_bestCrosses), (a_bestPart, aI G 512 g_bestPart), (a_capped, aZ G 256 g_capped), (a_connected, aZ G 256 g_connected), (a_size, aJ G 256 g_size)] := hD
    refine lv_if_ne (tgt := 29) hx hb d_R_best_22 (by decide) (fun c2 => ?_) (fun c2 => ?_)
    · have hf := di_f c2 hf
      refine lv_aload_n hx hb d_R_best_29 rfl (lv_at hl 0 rfl) ?_
      obtain ⟨t3, hv4, hf⟩ := db_e hf
      refine call_v (isC := [0, 1, 2, 3, 4, 5, 6, 7]) (run_V (As := []) (rest := []) (ci := 12) (q0 := 0) hx hb hml hown htl (c_R_lays l G Y  h0 a_all a_text a_saved a_undone a_told a_pile a_open a_size a_capped a_connected a_bestCost a_bestCrosses a_bestPart a_part a_trees a_nodes a_out a_kept (0 : Int32) f_undos f_reached f_length f_begin f_sort f_sign f_value f_word f_wrongAt f_badAt f_bad f_read f_side f_piled f_opened f_joins f_had f_treeMany f_nodeMany f_moveNode f_movePart f_moveFirst f_moveThen f_moveOther f_outMany g_all g_bestCost g_bestCrosses g_bestPart g_capped g_connected g_size N t3 hv4) mv_R_lays k_1503 (hRk (by decide) (by decide)) hK hsk hS hP hD (isC := [0, 1, 2, 3, 4, 5, 6, 7]) rfl (by decide) rfl rfl rfl hl.1 rfl (lv_room (Nat.le_of_ble_eq_true rfl)) d_R_best_30) hP hD hS rfl rfl (fun H locs hP hD hS => ?_)
      have hP : va_P G.1 classes [(h0, O_R (0 : Int32) a_all a_text a_saved a_undone f_undos f_reached f_length f_begin f_sort f_sign f_value f_word f_wrongAt f_badAt f_bad a_told f_read f_side a_pile f_piled a_open f_opened f_joins f_had a_size a_capped a_connected a_bestCost a_bestCrosses a_bestPart a_part a_trees f_treeMany a_nodes f_nodeMany f_moveNode f_movePart f_moveFirst f_moveThen f_moveOther a_out f_outMany a_kept), (a_all, aI G 1276 g_all), (a_bestCost, aJ G 512 t3.1), (a_bestCrosses, aI G 512 t3.2.1), (a_bestPart, aI G 512 t3.2.2.1), (a_capped, aZ G 256 t3.2.2.2.1), (a_connected, aZ G 256 t3.2.2.2.2.1), (a_size, aJ G 256 t3.2.2.2.2.2)] H := hP
      have hD : va_D A [(h0, O_R (0 : Int32) a_all a_text a_saved a_undone f_undos f_reached f_length f_begin f_sort f_sign f_value f_word f_wrongAt f_badAt f_bad a_told f_read f_side a_pile f_piled a_open f_opened f_joins f_had a_size a_capped a_connected a_bestCost a_bestCrosses a_bestPart a_part a_trees f_treeMany a_nodes f_nodeMany f_moveNode f_movePart f_moveFirst f_moveThen f_moveOther a_out f_outMany a_kept), (a_all, aI G 1276 g_all), (a_bestCost, aJ G 512 t3.1), (a_bestCrosses, aI G 512 t3.2.1), (a_bestPart, aI G 512 t3.2.2.1), (a_capped, aZ G 256 t3.2.2.2.1), (a_connected, aZ G 256 t3.2.2.2.2.1), (a_size, aJ G 256 t3.2.2.2.2.2)] := hD
      refine lv_iload_n hx hb d_R_best_33 rfl (lv_at hl 1 rfl) ?_
      refine lv_iload_n hx hb d_R_best_34 rfl (lv_at hl 2 rfl) ?_
      refine lv_if_eq (tgt := 44) hx hb d_R_best_35 (by decide) (fun c5 => ?_) (fun c5 => ?_)
      · have hf := di_t c5 hf
        refine lv_iconst (v := (0 : Int32)) hx hb d_R_best_44 (by decide) ?_
        exact hJ45 (0 : Int32) t3.1 t3.2.1 t3.2.2.1 t3.2.2.2.1 t3.2.2.2.2.1 t3.2.2.2.2.2 x1 (0 : Int32) H locs ls ⟨hP, hD, hS⟩ (lv_sub hl [0, 3] rfl) hf
      · have hf := di_f c5 hf
        refine lv_sipush (v := (256 : Int32)) hx hb d_R_best_38 (by decide) ?_
        refine lv_goto (tgt := 45) hx hb d_R_best_41 (by decide) ?_
        exact hJ45 (0 : Int32) t3.1 t3.2.1 t3.2.2.1 t3.2.2.2.1 t3.2.2.2.2.1 t3.2.2.2.2.2 x1 (256 : Int32) H locs ls ⟨hP, hD, hS⟩ (lv_sub hl [0, 3] rfl) hf
    · have hf := di_t c2 hf
      exact hJ25 (0 : Int32) g_bestCost g_bestCrosses g_bestPart g_capped g_connected g_size H locs ls ⟨hP, hD, hS⟩ (lv_sub hl [] rfl) hf
set_option maxHeartbeats 4000000 in
set_option maxRecDepth 100000 in
theorem c_R_greedy (l : Launch) (G : va_G × (Nat → ClassId)) (Y : (Nat → Nat) × (Nat → Nat)) (h0 : Nat) (a_all : Nat) (a_text : Nat) (a_saved : Nat) (a_undone : Nat) (a_told : Nat) (a_pile : Nat) (a_open : Nat) (a_size : Nat) (a_capped : Nat) (a_connected : Nat) (a_bestCost : Nat) (a_bestCrosses : Nat) (a_bestPart : Nat) (a_part : Nat) (a_trees : Nat) (a_nodes : Nat) (a_out : Nat) (a_kept : Nat) (f_raised : Int32) (f_undos : Int32) (f_reached : Int32) (f_length : Int32) (f_begin : Int32) (f_sort : Int32) (f_sign : Int32) (f_value : Int32) (f_word : Int64) (f_wrongAt : Int32) (f_badAt : Int32) (f_bad : Int32) (f_read : Int32) (f_side : Int32) (f_piled : Int32) (f_opened : Int32) (f_joins : Int32) (f_had : Int32) (f_treeMany : Int32) (f_nodeMany : Int32) (f_moveNode : Int32) (f_movePart : Int32) (f_moveFirst : Int32) (f_moveThen : Int32) (f_moveOther : Int32) (f_outMany : Int32) (g_all : Nat → Int32) (g_bestCost : Nat → Int64) (g_bestCrosses : Nat → Int32) (g_bestPart : Nat → Int32) (g_capped : Nat → Int32) (g_connected : Nat → Int32) (g_part : Nat → Int32) (g_size : Nat → Int64) (g_trees : Nat → Int32) (x1 : Int32) (N : Nat) (res : Int64 × Int32 × Int32 × (Nat → Int64) × (Nat → Int32) × (Nat → Int32) × (Nat → Int32) × (Nat → Int32) × (Nat → Int32) × (Nat → Int64) × (Nat → Int32)) (hf : R_greedy N f_raised f_treeMany g_all g_bestCost g_bestCrosses g_bestPart g_capped g_connected g_part g_size g_trees x1 = some res) : Cl l classes y_R_greedy b_R_greedy 2 (some .long) (rmk 5) G.1 (tyL G) Y [.ref h0, .int x1] [(h0, O_R f_raised a_all a_text a_saved a_undone f_undos f_reached f_length f_begin f_sort f_sign f_value f_word f_wrongAt f_badAt f_bad a_told f_read f_side a_pile f_piled a_open f_opened f_joins f_had a_size a_capped a_connected a_bestCost a_bestCrosses a_bestPart a_part a_trees f_treeMany a_nodes f_nodeMany f_moveNode f_movePart f_moveFirst f_moveThen f_moveOther a_out f_outMany a_kept), (a_all, aI G 1276 g_all), (a_bestCost, aJ G 512 g_bestCost), (a_bestCrosses, aI G 512 g_bestCrosses), (a_bestPart, aI G 512 g_bestPart), (a_capped, aZ G 256 g_capped), (a_connected, aZ G 256 g_connected), (a_part, aI G 256 g_part), (a_size, aJ G 256 g_size), (a_trees, aI G 8 g_trees)] [(h0, O_R res.2.1 a_all a_text a_saved a_undone f_undos f_reached f_length f_begin f_sort f_sign f_value f_word f_wrongAt f_badAt f_bad a_told f_read f_side a_pile f_piled a_open f_opened f_joins f_had a_size a_capped a_connected a_bestCost a_bestCrosses a_bestPart a_part a_trees res.2.2.1 a_nodes f_nodeMany f_moveNode f_movePart f_moveFirst f_moveThen f_moveOther a_out f_outMany a_kept), (a_all, aI G 1276 g_all), (a_bestCost, aJ G 512 res.2.2.2.1), (a_bestCrosses, aI G 512 res.2.2.2.2.1), (a_bestPart, aI G 512 res.2.2.2.2.2.1), (a_capped, aZ G 256 res.2.2.2.2.2.2.1), (a_connected, aZ G 256 res.2.2.2.2.2.2.2.1), (a_part, aI G 256 res.2.2.2.2.2.2.2.2.1), (a_size, aJ G 256 res.2.2.2.2.2.2.2.2.2.1), (a_trees, aI G 8 res.2.2.2.2.2.2.2.2.2.2)] res.1 := by
  refine entL (by decide) (Nat.le_of_ble_eq_true rfl) ?_
  intro p e s m args below meth c ls A Q hx hb hml hown htl hK hsk wq hl hret
  obtain ⟨hP, hD, hS⟩ := wq
  have hl : lv_has ls 2 [(0, .ref h0), (1, .int x1)] := hl
  have hS : va_S A s.heap s.heap [] := hS
  obtain ⟨H, hH⟩ : ∃ H : Heap, H = s.heap := ⟨_, rfl⟩
  obtain ⟨locs, hlocs⟩ : ∃ z : List Loc, z = [] := ⟨_, rfl⟩
  rw [← hH] at hP
  replace hS : va_S A s.heap H locs := by rw [hH, hlocs]; exact hS
  suffices hgo : W p l e (rmk 5) s m args below meth c H locs 0 0 Q (F0 m 0 ls []) by rw [hH, hlocs] at hgo; exact hgo
  have hJ26 : ∀ (f_raised : Int32) (f_treeMany : Int32) (g_bestCost : Nat → Int64) (g_bestCrosses : Nat → Int32) (g_bestPart : Nat → Int32) (g_capped : Nat → Int32) (g_connected : Nat → Int32) (g_part : Nat → Int32) (g_size : Nat → Int64) (g_trees : Nat → Int32) (H : Heap) (locs : List Loc) (ls : Array Slot), PDS G.1 classes A s [(h0, O_R f_raised a_all a_text a_saved a_undone f_undos f_reached f_length f_begin f_sort f_sign f_value f_word f_wrongAt f_badAt f_bad a_told f_read f_side a_pile f_piled a_open f_opened f_joins f_had a_size a_capped a_connected a_bestCost a_bestCrosses a_bestPart a_part a_trees f_treeMany a_nodes f_nodeMany f_moveNode f_movePart f_moveFirst f_moveThen f_moveOther a_out f_outMany a_kept), (a_all, aI G 1276 g_all), (a_bestCost, aJ G 512 g_bestCost), (a_bestCrosses, aI G 512 g_bestCrosses), (a_bestPart, aI G 512 g_bestPart), (a_capped, aZ G 256 g_capped), (a_connected, aZ G 256 g_connected), (a_part, aI G 256 g_part), (a_size, aJ G 256 g_size), (a_trees, aI G 8 g_trees)] H locs → lv_has ls 2 [] → R_greedy_26 N f_raised f_treeMany g_all g_bestCost g_bestCrosses g_bestPart g_capped g_connected g_part g_size g_trees = some res → W p l e (rmk 5) s m args below meth c H locs 0 0 Q (F0 m 26 ls []) := by
    intro f_raised f_treeMany g_bestCost g_bestCrosses g_bestPart g_capped g_connected g_part g_size g_trees H locs ls wq hl hf
    obtain ⟨hP, hD, hS⟩ := wq
    refine lv_ldc2 (v := (-1 : Int64)) hx hb hown (htl _ k_1639) d_R_greedy_26 ?_
    cases hf
    exact hret 29 ls H locs hP hS d_R_greedy_29
  refine lv_aload_n hx hb d_R_greedy_0 rfl (lv_at hl 0 rfl) ?_
  refine lv_iconst (v := (0 : Int32)) hx hb d_R_greedy_1 (by decide) ?_
  refine va_put (D := G.1) (ci := 12) (v := .int (0 : Int32)) (ty := .int) (C := n_R) (T := T_R) (N := 44) hx hb htl iw_R ty_R ty_R_ok nm_R hown hK hP hD hS 0 rfl rfl 0 (by decide) (htl _ k_1196) (fun _ h9 => h9) rfl (by decide +kernel) rfl rfl (Nat.le_of_ble_eq_true rfl) d_R_greedy_2 (fun H locs hP hD hS => ?_)
  have hP : va_P G.1 classes [(h0, O_R (0 : Int32) a_all a_text a_saved a_undone f_undos f_reached f_length f_begin f_sort f_sign f_value f_word f_wrongAt f_badAt f_bad a_told f_read f_side a_pile f_piled a_open f_opened f_joins f_had a_size a_capped a_connected a_bestCost a_bestCrosses a_bestPart a_part a_trees f_treeMany a_nodes f_nodeMany f_moveNode f_movePart f_moveFirst f_moveThen f_moveOther a_out f_outMany a_kept), (a_all, aI G 1276 g_all), (a_bestCost, aJ G 512 g_bestCost), (a_bestCrosses, aI G 512 g_bestCrosses), (a_bestPart, aI G 512 g_bestPart), (a_capped, aZ G 256 g_capped), (a_connected, aZ G 256 g_connected), (a_part, aI G 256 g_part), (a_size, aJ G 256 g_size), (a_trees, aI G 8 g_trees)] H := hP
  have hD : va_D A [(h0, O_R (0 : Int32) a_all a_text a_saved a_undone f_undos f_reached f_length f_begin f_sort f_sign f_value f_word f_wrongAt f_badAt f_bad a_told f_read f_side a_pile f_piled a_open f_opened f_joins f_had a_size a_capped a_connected a_bestCost a_bestCrosses a_bestPart a_part a_trees f_treeMany a_nodes f_nodeMany f_moveNode f_movePart f_moveFirst f_moveThen f_moveOther a_out f_outMany a_kept), (a_all, aI G 1276 g_all), (a_bestCost, aJ G 512 g_bestCost), (a_bestCrosses, aI G 512 g_bestCrosses), (a_bestPart, aI G 512 g_bestPart), (a_capped, aZ G 256 g_capped), (a_connected, aZ G 256 g_connected), (a_part, aI G 256 g_part), (a_size, aJ G 256 g_size), (a_trees, aI G 8 g_trees)] := hD
  refine lv_aload_n hx hb d_R_greedy_5 rfl (lv_at hl 0 rfl) ?_
  refine va_get (D := G.1) (ci := 12) (v := .ref a_all) (C := n_R) (T := T_R) (N := 44) hx hb htl iw_R hown hK hP 0 rfl rfl 1 (by decide) (htl _ k_1197) (fun _ h9 => h9) rfl d_R_greedy_6 ?_
  refine lv_iconst (v := (0 : Int32)) hx hb d_R_greedy_9 (by decide) ?_
  refine va_iald hx hb hK hP 1 1 rfl rfl (vp_lit (by decide)) d_R_greedy_10 ?_
  refine lv_if_eq (tgt := 26) hx hb d_R_greedy_11 (by decide) (fun c1 => ?_) (fun c1 => ?_)
  · have hf := di_t c1 hf
    exact hJ26 (0 : Int32) f_treeMany g_bestCost g_bestCrosses g_bestPart g_capped g_connected g_part g_size g_trees H locs ls ⟨hP, hD, hS⟩ (lv_sub hl [] rfl) hf
  · have hf := di_f c1 hf
    refine lv_iload_n hx hb d_R_greedy_14 rfl (lv_at hl 1 rfl) ?_
    refine lv_i2l hx hb d_R_greedy_15 rfl ?_
    refine lv_lconst (v := (0 : Int64)) hx hb d_R_greedy_16 (by decide) ?_
    refine lv_ldc2 (v := (2 : Int64)) hx hb hown (htl _ k_1634) d_R_greedy_17 ?_
    refine call_i (isC := []) (run_S (As := [.long x1.toInt64, .long (0 : Int64), .long (2 : Int64)]) (rest := []) hx hb hml hown htl (c_R_in l G Y  x1.toInt64 (0 : Int64) (2 : Int64) _ rfl) ms_R_in k_1356 (hRk (by decide) (by decide)) hK hsk hS hP hD (isC := []) rfl (by decide) rfl hl.1 rfl (lv_room (Nat.le_of_ble_eq_true rfl)) d_R_greedy_20) hP hD hS rfl rfl (fun H locs hP hD hS => ?_)
    have hP : va_P G.1 classes [(h0, O_R (0 : Int32) a_all a_text a_saved a_undone f_undos f_reached f_length f_begin f_sort f_sign f_value f_word f_wrongAt f_badAt f_bad a_told f_read f_side a_pile f_piled a_open f_opened f_joins f_had a_size a_capped a_connected a_bestCost a_bestCrosses a_bestPart a_part a_trees f_treeMany a_nodes f_nodeMany f_moveNode f_movePart f_moveFirst f_moveThen f_moveOther a_out f_outMany a_kept), (a_all, aI G 1276 g_all), (a_bestCost, aJ G 512 g_bestCost), (a_bestCrosses, aI G 512 g_bestCrosses), (a_bestPart, aI G 512 g_bestPart), (a_capped, aZ G 256 g_capped), (a_connected, aZ G 256 g_connected), (a_part, aI G 256 g_part), (a_size, aJ G 256 g_size), (a_trees, aI G 8 g_trees)] H := hP
    have hD : va_D A [(h0, O_R (0 : Int32) a_all a_text a_saved a_undone f_undos f_reached f_length f_begin f_sort f_sign f_value f_word f_wrongAt f_badAt f_bad a_told f_read f_side a_pile f_piled a_open f_opened f_joins f_had a_size a_capped a_connected a_bestCost a_bestCrosses a_bestPart a_part a_trees f_treeMany a_nodes f_nodeMany f_moveNode f_movePart f_moveFirst f_moveThen f_moveOther a_out f_outMany a_kept), (a_all, aI G 1276 g_all), (a_bestCost, aJ G 512 g_bestCost), (a_bestCrosses, aI G 512 g_bestCrosses), (a_bestPart, aI G 512 g_bestPart), (a_capped, aZ G 256 g_capped), (a_connected, aZ G 256 g_connected), (a_part, aI G 256 g_part), (a_size, aJ G 256 g_size), (a_trees, aI G 8 g_trees)] := hD
    refine lv_if_ne (tgt := 30) hx hb d_R_greedy_23 (by decide) (fun c2 => ?_) (fun c2 => ?_)
    · have hf := di_f c2 hf
      refine lv_aload_n hx hb d_R_greedy_30 rfl (lv_at hl 0 rfl) ?_
      obtain ⟨t3, hv4, hf⟩ := db_e hf
      refine call_v (isC := [0, 1, 2, 3, 4, 5, 6, 8]) (run_V (As := []) (rest := []) (ci := 12) (q0 := 0) hx hb hml hown htl (c_R_lays l G Y  h0 a_all a_text a_saved a_undone a_told a_pile a_open a_size a_capped a_connected a_bestCost a_bestCrosses a_bestPart a_part a_trees a_nodes a_out a_kept (0 : Int32) f_undos f_reached f_length f_begin f_sort f_sign f_value f_word f_wrongAt f_badAt f_bad f_read f_side f_piled f_opened f_joins f_had f_treeMany f_nodeMany f_moveNode f_movePart f_moveFirst f_moveThen f_moveOther f_outMany g_all g_bestCost g_bestCrosses g_bestPart g_capped g_connected g_size N t3 hv4) mv_R_lays k_1503 (hRk (by decide) (by decide)) hK hsk hS hP hD (isC := [0, 1, 2, 3, 4, 5, 6, 8]) rfl (by decide) rfl rfl rfl hl.1 rfl (lv_room (Nat.le_of_ble_eq_true rfl)) d_R_greedy_31) hP hD hS rfl rfl (fun H locs hP hD hS => ?_)
      have hP : va_P G.1 classes [(h0, O_R (0 : Int32) a_all a_text a_saved a_undone f_undos f_reached f_length f_begin f_sort f_sign f_value f_word f_wrongAt f_badAt f_bad a_told f_read f_side a_pile f_piled a_open f_opened f_joins f_had a_size a_capped a_connected a_bestCost a_bestCrosses a_bestPart a_part a_trees f_treeMany a_nodes f_nodeMany f_moveNode f_movePart f_moveFirst f_moveThen f_moveOther a_out f_outMany a_kept), (a_all, aI G 1276 g_all), (a_bestCost, aJ G 512 t3.1), (a_bestCrosses, aI G 512 t3.2.1), (a_bestPart, aI G 512 t3.2.2.1), (a_capped, aZ G 256 t3.2.2.2.1), (a_connected, aZ G 256 t3.2.2.2.2.1), (a_part, aI G 256 g_part), (a_size, aJ G 256 t3.2.2.2.2.2), (a_trees, aI G 8 g_trees)] H := hP
      have hD : va_D A [(h0, O_R (0 : Int32) a_all a_text a_saved a_undone f_undos f_reached f_length f_begin f_sort f_sign f_value f_word f_wrongAt f_badAt f_bad a_told f_read f_side a_pile f_piled a_open f_opened f_joins f_had a_size a_capped a_connected a_bestCost a_bestCrosses a_bestPart a_part a_trees f_treeMany a_nodes f_nodeMany f_moveNode f_movePart f_moveFirst f_moveThen f_moveOther a_out f_outMany a_kept), (a_all, aI G 1276 g_all), (a_bestCost, aJ G 512 t3.1), (a_bestCrosses, aI G 512 t3.2.1), (a_bestPart, aI G 512 t3.2.2.1), (a_capped, aZ G 256 t3.2.2.2.1), (a_connected, aZ G 256 t3.2.2.2.2.1), (a_part, aI G 256 g_part), (a_size, aJ G 256 t3.2.2.2.2.2), (a_trees, aI G 8 g_trees)] := hD
      refine lv_aload_n hx hb d_R_greedy_34 rfl (lv_at hl 0 rfl) ?_
      obtain ⟨t5, hv6, hf⟩ := db_e hf
      refine call_v (isC := [0, 1, 7, 8, 9]) (run_V (As := []) (rest := []) (ci := 12) (q0 := 0) hx hb hml hown htl (c_R_partsOfGreedy l G Y  h0 a_all a_text a_saved a_undone a_told a_pile a_open a_size a_capped a_connected a_bestCost a_bestCrosses a_bestPart a_part a_trees a_nodes a_out a_kept (0 : Int32) f_undos f_reached f_length f_begin f_sort f_sign f_value f_word f_wrongAt f_badAt f_bad f_read f_side f_piled f_opened f_joins f_had f_treeMany f_nodeMany f_moveNode f_movePart f_moveFirst f_moveThen f_moveOther f_outMany g_all g_part t3.2.2.2.2.2 g_trees N t5 hv6) mv_R_partsOfGreedy k_1546 (hRk (by decide) (by decide)) hK hsk hS hP hD (isC := [0, 1, 7, 8, 9]) rfl (by decide) rfl rfl rfl hl.1 rfl (lv_room (Nat.le_of_ble_eq_true rfl)) d_R_greedy_35) hP hD hS rfl rfl (fun H locs hP hD hS => ?_)
      have hP : va_P G.1 classes [(h0, O_R (0 : Int32) a_all a_text a_saved a_undone f_undos f_reached f_length f_begin f_sort f_sign f_value f_word f_wrongAt f_badAt f_bad a_told f_read f_side a_pile f_piled a_open f_opened f_joins f_had a_size a_capped a_connected a_bestCost a_bestCrosses a_bestPart a_part a_trees t5.1 a_nodes f_nodeMany f_moveNode f_movePart f_moveFirst f_moveThen f_moveOther a_out f_outMany a_kept), (a_all, aI G 1276 g_all), (a_bestCost, aJ G 512 t3.1), (a_bestCrosses, aI G 512 t3.2.1), (a_bestPart, aI G 512 t3.2.2.1), (a_capped, aZ G 256 t3.2.2.2.1), (a_connected, aZ G 256 t3.2.2.2.2.1), (a_part, aI G 256 t5.2.1), (a_size, aJ G 256 t3.2.2.2.2.2), (a_trees, aI G 8 t5.2.2)] H := hP
      have hD : va_D A [(h0, O_R (0 : Int32) a_all a_text a_saved a_undone f_undos f_reached f_length f_begin f_sort f_sign f_value f_word f_wrongAt f_badAt f_bad a_told f_read f_side a_pile f_piled a_open f_opened f_joins f_had a_size a_capped a_connected a_bestCost a_bestCrosses a_bestPart a_part a_trees t5.1 a_nodes f_nodeMany f_moveNode f_movePart f_moveFirst f_moveThen f_moveOther a_out f_outMany a_kept), (a_all, aI G 1276 g_all), (a_bestCost, aJ G 512 t3.1), (a_bestCrosses, aI G 512 t3.2.1), (a_bestPart, aI G 512 t3.2.2.1), (a_capped, aZ G 256 t3.2.2.2.1), (a_connected, aZ G 256 t3.2.2.2.2.1), (a_part, aI G 256 t5.2.1), (a_size, aJ G 256 t3.2.2.2.2.2), (a_trees, aI G 8 t5.2.2)] := hD
      refine lv_iload_n hx hb d_R_greedy_38 rfl (lv_at hl 1 rfl) ?_
      refine lv_if_ne (tgt := 53) hx hb d_R_greedy_39 (by decide) (fun c7 => ?_) (fun c7 => ?_)
      · have hf := di_f c7 hf
        refine lv_iload_n hx hb d_R_greedy_53 rfl (lv_at hl 1 rfl) ?_
        refine lv_iconst (v := (1 : Int32)) hx hb d_R_greedy_54 (by decide) ?_
        refine lv_icmp_ne (tgt := 66) hx hb d_R_greedy_55 (by decide) (fun c8 => ?_) (fun c8 => ?_)
        · have hf := di_f c8 hf
          refine lv_aload_n hx hb d_R_greedy_66 rfl (lv_at hl 0 rfl) ?_
          refine va_get (D := G.1) (ci := 12) (v := .ref a_part) (C := n_R) (T := T_R) (N := 44) hx hb htl iw_R hown hK hP 0 rfl rfl 31 (by decide) (htl _ k_1227) (fun _ h9 => h9) rfl d_R_greedy_67 ?_
          refine lv_aload_n hx hb d_R_greedy_70 rfl (lv_at hl 0 rfl) ?_
          refine call_i (isC := [0, 1]) (run_V (As := []) (rest := [.ref a_part]) (ci := 12) (q0 := 0) hx hb hml hown htl (c_R_everything l G Y  h0 a_all a_text a_saved a_undone a_told a_pile a_open a_size a_capped a_connected a_bestCost a_bestCrosses a_bestPart a_part a_trees a_nodes a_out a_kept (0 : Int32) f_undos f_reached f_length f_begin f_sort f_sign f_value f_word f_wrongAt f_badAt f_bad f_read f_side f_piled f_opened f_joins f_had t5.1 f_nodeMany f_moveNode f_movePart f_moveFirst f_moveThen f_moveOther f_outMany g_all _ rfl) mv_R_everything k_1466 (hRk (by decide) (by decide)) hK hsk hS hP hD (isC := [0, 1]) rfl (by decide) rfl rfl rfl hl.1 rfl (lv_room (Nat.le_of_ble_eq_true rfl)) d_R_greedy_71) hP hD hS rfl rfl (fun H locs hP hD hS => ?_)
          have hP : va_P G.1 classes [(h0, O_R (0 : Int32) a_all a_text a_saved a_undone f_undos f_reached f_length f_begin f_sort f_sign f_value f_word f_wrongAt f_badAt f_bad a_told f_read f_side a_pile f_piled a_open f_opened f_joins f_had a_size a_capped a_connected a_bestCost a_bestCrosses a_bestPart a_part a_trees t5.1 a_nodes f_nodeMany f_moveNode f_movePart f_moveFirst f_moveThen f_moveOther a_out f_outMany a_kept), (a_all, aI G 1276 g_all), (a_bestCost, aJ G 512 t3.1), (a_bestCrosses, aI G 512 t3.2.1), (a_bestPart, aI G 512 t3.2.2.1), (a_capped, aZ G 256 t3.2.2.2.1), (a_connected, aZ G 256 t3.2.2.2.2.1), (a_part, aI G 256 t5.2.1), (a_size, aJ G 256 t3.2.2.2.2.2), (a_trees, aI G 8 t5.2.2)] H := hP
          have hD : va_D A [(h0, O_R (0 : Int32) a_all a_text a_saved a_undone f_undos f_reached f_length f_begin f_sort f_sign f_value f_word f_wrongAt f_badAt f_bad a_told f_read f_side a_pile f_piled a_open f_opened f_joins f_had a_size a_capped a_connected a_bestCost a_bestCrosses a_bestPart a_part a_trees t5.1 a_nodes f_nodeMany f_moveNode f_movePart f_moveFirst f_moveThen f_moveOther a_out f_outMany a_kept), (a_all, aI G 1276 g_all), (a_bestCost, aJ G 512 t3.1), (a_bestCrosses, aI G 512 t3.2.1), (a_bestPart, aI G 512 t3.2.2.1), (a_capped, aZ G 256 t3.2.2.2.1), (a_connected, aZ G 256 t3.2.2.2.2.1), (a_part, aI G 256 t5.2.1), (a_size, aJ G 256 t3.2.2.2.2.2), (a_trees, aI G 8 t5.2.2)] := hD
          obtain ⟨c9, hf⟩ := dk_e hf
          refine va_iald hx hb hK hP 7 1 rfl rfl c9 d_R_greedy_74 ?_
          refine lv_i2l hx hb d_R_greedy_75 rfl ?_
          cases hf
          exact hret 76 ls H locs hP hS d_R_greedy_76
        · have hf := di_t c8 hf
          refine lv_aload_n hx hb d_R_greedy_58 rfl (lv_at hl 0 rfl) ?_
          obtain ⟨t10, hv11, hf⟩ := db_e hf
          refine call_i (isC := [0, 1, 7]) (run_V (As := []) (rest := []) (ci := 12) (q0 := 0) hx hb hml hown htl (c_R_crossesOfParts l G Y  h0 a_all a_text a_saved a_undone a_told a_pile a_open a_size a_capped a_connected a_bestCost a_bestCrosses a_bestPart a_part a_trees a_nodes a_out a_kept (0 : Int32) f_undos f_reached f_length f_begin f_sort f_sign f_value f_word f_wrongAt f_badAt f_bad f_read f_side f_piled f_opened f_joins f_had t5.1 f_nodeMany f_moveNode f_movePart f_moveFirst f_moveThen f_moveOther f_outMany g_all t5.2.1 N t10 hv11) mv_R_crossesOfParts k_1586 (hRk (by decide) (by decide)) hK hsk hS hP hD (isC := [0, 1, 7]) rfl (by decide) rfl rfl rfl hl.1 rfl (lv_room (Nat.le_of_ble_eq_true rfl)) d_R_greedy_59) hP hD hS rfl rfl (fun H locs hP hD hS => ?_)
          have hP : va_P G.1 classes [(h0, O_R (0 : Int32) a_all a_text a_saved a_undone f_undos f_reached f_length f_begin f_sort f_sign f_value f_word f_wrongAt f_badAt f_bad a_told f_read f_side a_pile f_piled a_open f_opened f_joins f_had a_size a_capped a_connected a_bestCost a_bestCrosses a_bestPart a_part a_trees t5.1 a_nodes f_nodeMany f_moveNode f_movePart f_moveFirst f_moveThen f_moveOther a_out f_outMany a_kept), (a_all, aI G 1276 g_all), (a_bestCost, aJ G 512 t3.1), (a_bestCrosses, aI G 512 t3.2.1), (a_bestPart, aI G 512 t3.2.2.1), (a_capped, aZ G 256 t3.2.2.2.1), (a_connected, aZ G 256 t3.2.2.2.2.1), (a_part, aI G 256 t5.2.1), (a_size, aJ G 256 t3.2.2.2.2.2), (a_trees, aI G 8 t5.2.2)] H := hP
          have hD : va_D A [(h0, O_R (0 : Int32) a_all a_text a_saved a_undone f_undos f_reached f_length f_begin f_sort f_sign f_value f_word f_wrongAt f_badAt f_bad a_told f_read f_side a_pile f_piled a_open f_opened f_joins f_had a_size a_capped a_connected a_bestCost a_bestCrosses a_bestPart a_part a_trees t5.1 a_nodes f_nodeMany f_moveNode f_movePart f_moveFirst f_moveThen f_moveOther a_out f_outMany a_kept), (a_all, aI G 1276 g_all), (a_bestCost, aJ G 512 t3.1), (a_bestCrosses, aI G 512 t3.2.1), (a_bestPart, aI G 512 t3.2.2.1), (a_capped, aZ G 256 t3.2.2.2.1), (a_connected, aZ G 256 t3.2.2.2.2.1), (a_part, aI G 256 t5.2.1), (a_size, aJ G 256 t3.2.2.2.2.2), (a_trees, aI G 8 t5.2.2)] := hD
          refine lv_i2l hx hb d_R_greedy_62 rfl ?_
          refine lv_goto (tgt := 76) hx hb d_R_greedy_63 (by decide) ?_
          cases hf
          exact hret 76 ls H locs hP hS d_R_greedy_76
      · have hf := di_t c7 hf
        refine lv_aload_n hx hb d_R_greedy_42 rfl (lv_at hl 0 rfl) ?_
        refine lv_aload_n hx hb d_R_greedy_43 rfl (lv_at hl 0 rfl) ?_
        refine call_i (isC := [0, 1]) (run_V (As := []) (rest := [.ref h0]) (ci := 12) (q0 := 0) hx hb hml hown htl (c_R_everything l G Y  h0 a_all a_text a_saved a_undone a_told a_pile a_open a_size a_capped a_connected a_bestCost a_bestCrosses a_bestPart a_part a_trees a_nodes a_out a_kept (0 : Int32) f_undos f_reached f_length f_begin f_sort f_sign f_value f_word f_wrongAt f_badAt f_bad f_read f_side f_piled f_opened f_joins f_had t5.1 f_nodeMany f_moveNode f_movePart f_moveFirst f_moveThen f_moveOther f_outMany g_all _ rfl) mv_R_everything k_1466 (hRk (by decide) (by decide)) hK hsk hS hP hD (isC := [0, 1]) rfl (by decide) rfl rfl rfl hl.1 rfl (lv_room (Nat.le_of_ble_eq_true rfl)) d_R_greedy_44) hP hD hS rfl rfl (fun H locs hP hD hS => ?_)
        have hP : va_P G.1 classes [(h0, O_R (0 : Int32) a_all a_text a_saved a_undone f_undos f_reached f_length f_begin f_sort f_sign f_value f_word f_wrongAt f_badAt f_bad a_told f_read f_side a_pile f_piled a_open f_opened f_joins f_had a_size a_capped a_connected a_bestCost a_bestCrosses a_bestPart a_part a_trees t5.1 a_nodes f_nodeMany f_moveNode f_movePart f_moveFirst f_moveThen f_moveOther a_out f_outMany a_kept), (a_all, aI G 1276 g_all), (a_bestCost, aJ G 512 t3.1), (a_bestCrosses, aI G 512 t3.2.1), (a_bestPart, aI G 512 t3.2.2.1), (a_capped, aZ G 256 t3.2.2.2.1), (a_connected, aZ G 256 t3.2.2.2.2.1), (a_part, aI G 256 t5.2.1), (a_size, aJ G 256 t3.2.2.2.2.2), (a_trees, aI G 8 t5.2.2)] H := hP
        have hD : va_D A [(h0, O_R (0 : Int32) a_all a_text a_saved a_undone f_undos f_reached f_length f_begin f_sort f_sign f_value f_word f_wrongAt f_badAt f_bad a_told f_read f_side a_pile f_piled a_open f_opened f_joins f_had a_size a_capped a_connected a_bestCost a_bestCrosses a_bestPart a_part a_trees t5.1 a_nodes f_nodeMany f_moveNode f_movePart f_moveFirst f_moveThen f_moveOther a_out f_outMany a_kept), (a_all, aI G 1276 g_all), (a_bestCost, aJ G 512 t3.1), (a_bestCrosses, aI G 512 t3.2.1), (a_bestPart, aI G 512 t3.2.2.1), (a_capped, aZ G 256 t3.2.2.2.1), (a_connected, aZ G 256 t3.2.2.2.2.1), (a_part, aI G 256 t5.2.1), (a_size, aJ G 256 t3.2.2.2.2.2), (a_trees, aI G 8 t5.2.2)] := hD
        obtain ⟨t12, hv13, hf⟩ := db_e hf
        refine call_l (isC := [0, 7, 8]) (run_V (As := [.int (R_everything g_all)]) (rest := []) (ci := 12) (q0 := 0) hx hb hml hown htl (c_R_costOfParts l G Y  h0 a_all a_text a_saved a_undone a_told a_pile a_open a_size a_capped a_connected a_bestCost a_bestCrosses a_bestPart a_part a_trees a_nodes a_out a_kept (0 : Int32) f_undos f_reached f_length f_begin f_sort f_sign f_value f_word f_wrongAt f_badAt f_bad f_read f_side f_piled f_opened f_joins f_had t5.1 f_nodeMany f_moveNode f_movePart f_moveFirst f_moveThen f_moveOther f_outMany t5.2.1 t3.2.2.2.2.2 (R_everything g_all) N t12 hv13) mv_R_costOfParts k_1590 (hRk (by decide) (by decide)) hK hsk hS hP hD (isC := [0, 7, 8]) rfl (by decide) rfl rfl rfl hl.1 rfl (lv_room (Nat.le_of_ble_eq_true rfl)) d_R_greedy_47) hP hD hS rfl rfl (fun H locs hP hD hS => ?_)
        have hP : va_P G.1 classes [(h0, O_R (0 : Int32) a_all a_text a_saved a_undone f_undos f_reached f_length f_begin f_sort f_sign f_value f_word f_wrongAt f_badAt f_bad a_told f_read f_side a_pile f_piled a_open f_opened f_joins f_had a_size a_capped a_connected a_bestCost a_bestCrosses a_bestPart a_part a_trees t5.1 a_nodes f_nodeMany f_moveNode f_movePart f_moveFirst f_moveThen f_moveOther a_out f_outMany a_kept), (a_all, aI G 1276 g_all), (a_bestCost, aJ G 512 t3.1), (a_bestCrosses, aI G 512 t3.2.1), (a_bestPart, aI G 512 t3.2.2.1), (a_capped, aZ G 256 t3.2.2.2.1), (a_connected, aZ G 256 t3.2.2.2.2.1), (a_part, aI G 256 t5.2.1), (a_size, aJ G 256 t3.2.2.2.2.2), (a_trees, aI G 8 t5.2.2)] H := hP
        have hD : va_D A [(h0, O_R (0 : Int32) a_all a_text a_saved a_undone f_undos f_reached f_length f_begin f_sort f_sign f_value f_word f_wrongAt f_badAt f_bad a_told f_read f_side a_pile f_piled a_open f_opened f_joins f_had a_size a_capped a_connected a_bestCost a_bestCrosses a_bestPart a_part a_trees t5.1 a_nodes f_nodeMany f_moveNode f_movePart f_moveFirst f_moveThen f_moveOther a_out f_outMany a_kept), (a_all, aI G 1276 g_all), (a_bestCost, aJ G 512 t3.1), (a_bestCrosses, aI G 512 t3.2.1), (a_bestPart, aI G 512 t3.2.2.1), (a_capped, aZ G 256 t3.2.2.2.1), (a_connected, aZ G 256 t3.2.2.2.2.1), (a_part, aI G 256 t5.2.1), (a_size, aJ G 256 t3.2.2.2.2.2), (a_trees, aI G 8 t5.2.2)] := hD
        refine lv_goto (tgt := 76) hx hb d_R_greedy_50 (by decide) ?_
        cases hf
        exact hret 76 ls H locs hP hS d_R_greedy_76
    · have hf := di_t c2 hf
      exact hJ26 (0 : Int32) f_treeMany g_bestCost g_bestCrosses g_bestPart g_capped g_connected g_part g_size g_trees H locs ls ⟨hP, hD, hS⟩ (lv_sub hl [] rfl) hf
set_option maxHeartbeats 4000000 in
set_option maxRecDepth 100000 in
theorem c_R_node (l : Launch) (G : va_G × (Nat → ClassId)) (Y : (Nat → Nat) × (Nat → Nat)) (h0 : Nat) (a_all : Nat) (a_text : Nat) (a_saved : Nat) (a_undone : Nat) (a_told : Nat) (a_pile : Nat) (a_open : Nat) (a_size : Nat) (a_capped : Nat) (a_connected : Nat) (a_bestCost : Nat) (a_bestCrosses : Nat) (a_bestPart : Nat) (a_part : Nat) (a_trees : Nat) (a_nodes : Nat) (a_out : Nat) (a_kept : Nat) (f_raised : Int32) (f_undos : Int32) (f_reached : Int32) (f_length : Int32) (f_begin : Int32) (f_sort : Int32) (f_sign : Int32) (f_value : Int32) (f_word : Int64) (f_wrongAt : Int32) (f_badAt : Int32) (f_bad : Int32) (f_read : Int32) (f_side : Int32) (f_piled : Int32) (f_opened : Int32) (f_joins : Int32) (f_had : Int32) (f_treeMany : Int32) (f_nodeMany : Int32) (f_moveNode : Int32) (f_movePart : Int32) (f_moveFirst : Int32) (f_moveThen : Int32) (f_moveOther : Int32) (f_outMany : Int32) (g_all : Nat → Int32) (g_bestCost : Nat → Int64) (g_bestCrosses : Nat → Int32) (g_bestPart : Nat → Int32) (g_capped : Nat → Int32) (g_connected : Nat → Int32) (g_nodes : Nat → Int32) (g_open : Nat → Int32) (g_part : Nat → Int32) (g_size : Nat → Int64) (x1 : Int32) (x2 : Int32) (N : Nat) (res : Int64 × Int32 × Int32 × Int32 × (Nat → Int64) × (Nat → Int32) × (Nat → Int32) × (Nat → Int32) × (Nat → Int32) × (Nat → Int32) × (Nat → Int32) × (Nat → Int32) × (Nat → Int64)) (hf : R_node N f_raised f_opened f_nodeMany g_all g_bestCost g_bestCrosses g_bestPart g_capped g_connected g_nodes g_open g_part g_size x1 x2 = some res) : Cl l classes y_R_node b_R_node 4 (some .long) (rmk 5) G.1 (tyL G) Y [.ref h0, .int x1, .int x2] [(h0, O_R f_raised a_all a_text a_saved a_undone f_undos f_reached f_length f_begin f_sort f_sign f_value f_word f_wrongAt f_badAt f_bad a_told f_read f_side a_pile f_piled a_open f_opened f_joins f_had a_size a_capped a_connected a_bestCost a_bestCrosses a_bestPart a_part a_trees f_treeMany a_nodes f_nodeMany f_moveNode f_movePart f_moveFirst f_moveThen f_moveOther a_out f_outMany a_kept), (a_all, aI G 1276 g_all), (a_bestCost, aJ G 512 g_bestCost), (a_bestCrosses, aI G 512 g_bestCrosses), (a_bestPart, aI G 512 g_bestPart), (a_capped, aZ G 256 g_capped), (a_connected, aZ G 256 g_connected), (a_nodes, aI G 8 g_nodes), (a_open, aI G 502 g_open), (a_part, aI G 256 g_part), (a_size, aJ G 256 g_size)] [(h0, O_R res.2.1 a_all a_text a_saved a_undone f_undos f_reached f_length f_begin f_sort f_sign f_value f_word f_wrongAt f_badAt f_bad a_told f_read f_side a_pile f_piled a_open res.2.2.1 f_joins f_had a_size a_capped a_connected a_bestCost a_bestCrosses a_bestPart a_part a_trees f_treeMany a_nodes res.2.2.2.1 f_moveNode f_movePart f_moveFirst f_moveThen f_moveOther a_out f_outMany a_kept), (a_all, aI G 1276 g_all), (a_bestCost, aJ G 512 res.2.2.2.2.1), (a_bestCrosses, aI G 512 res.2.2.2.2.2.1), (a_bestPart, aI G 512 res.2.2.2.2.2.2.1), (a_capped, aZ G 256 res.2.2.2.2.2.2.2.1), (a_connected, aZ G 256 res.2.2.2.2.2.2.2.2.1), (a_nodes, aI G 8 res.2.2.2.2.2.2.2.2.2.1), (a_open, aI G 502 res.2.2.2.2.2.2.2.2.2.2.1), (a_part, aI G 256 res.2.2.2.2.2.2.2.2.2.2.2.1), (a_size, aJ G 256 res.2.2.2.2.2.2.2.2.2.2.2.2)] res.1 := by
  refine entL (by decide) (Nat.le_of_ble_eq_true rfl) ?_
  intro p e s m args below meth c ls A Q hx hb hml hown htl hK hsk wq hl hret
  obtain ⟨hP, hD, hS⟩ := wq
  have hl : lv_has ls 4 [(0, .ref h0), (1, .int x1), (2, .int x2)] := hl
  have hS : va_S A s.heap s.heap [] := hS
  obtain ⟨H, hH⟩ : ∃ H : Heap, H = s.heap := ⟨_, rfl⟩
  obtain ⟨locs, hlocs⟩ : ∃ z : List Loc, z = [] := ⟨_, rfl⟩
  rw [← hH] at hP
  replace hS : va_S A s.heap H locs := by rw [hH, hlocs]; exact hS
  suffices hgo : W p l e (rmk 5) s m args below meth c H locs 0 0 Q (F0 m 0 ls []) by rw [hH, hlocs] at hgo; exact hgo
  have hJ53 : ∀ (f_raised : Int32) (f_opened : Int32) (f_nodeMany : Int32) (g_bestCost : Nat → Int64) (g_bestCrosses : Nat → Int32) (g_bestPart : Nat → Int32) (g_capped : Nat → Int32) (g_connected : Nat → Int32) (g_nodes : Nat → Int32) (g_open : Nat → Int32) (g_part : Nat → Int32) (g_size : Nat → Int64) (z1 : Int32) (H : Heap) (locs : List Loc) (ls : Array Slot), PDS G.1 classes A s [(h0, O_R f_raised a_all a_text a_saved a_undone f_undos f_reached f_length f_begin f_sort f_sign f_value f_word f_wrongAt f_badAt f_bad a_told f_read f_side a_pile f_piled a_open f_opened f_joins f_had a_size a_capped a_connected a_bestCost a_bestCrosses a_bestPart a_part a_trees f_treeMany a_nodes f_nodeMany f_moveNode f_movePart f_moveFirst f_moveThen f_moveOther a_out f_outMany a_kept), (a_all, aI G 1276 g_all), (a_bestCost, aJ G 512 g_bestCost), (a_bestCrosses, aI G 512 g_bestCrosses), (a_bestPart, aI G 512 g_bestPart), (a_capped, aZ G 256 g_capped), (a_connected, aZ G 256 g_connected), (a_nodes, aI G 8 g_nodes), (a_open, aI G 502 g_open), (a_part, aI G 256 g_part), (a_size, aJ G 256 g_size)] H locs → lv_has ls 4 [(0, .ref h0), (1, .int x1), (2, .int x2)] → R_node_53 N f_raised f_opened f_nodeMany g_all g_bestCost g_bestCrosses g_bestPart g_capped g_connected g_nodes g_open g_part g_size x1 x2 z1 = some res → W p l e (rmk 5) s m args below meth c H locs 0 0 Q (F0 m 53 ls [.int z1, .ref h0]) := by
    intro f_raised f_opened f_nodeMany g_bestCost g_bestCrosses g_bestPart g_capped g_connected g_nodes g_open g_part g_size z1 H locs ls wq hl hf
    obtain ⟨hP, hD, hS⟩ := wq
    refine va_put (D := G.1) (ci := 12) (v := .int z1) (ty := .int) (C := n_R) (T := T_R) (N := 44) hx hb htl iw_R ty_R ty_R_ok nm_R hown hK hP hD hS 0 rfl rfl 0 (by decide) (htl _ k_1196) (fun _ h9 => h9) rfl (by decide +kernel) rfl rfl (Nat.le_of_ble_eq_true rfl) d_R_node_53 (fun H locs hP hD hS => ?_)
    have hP : va_P G.1 classes [(h0, O_R z1 a_all a_text a_saved a_undone f_undos f_reached f_length f_begin f_sort f_sign f_value f_word f_wrongAt f_badAt f_bad a_told f_read f_side a_pile f_piled a_open f_opened f_joins f_had a_size a_capped a_connected a_bestCost a_bestCrosses a_bestPart a_part a_trees f_treeMany a_nodes f_nodeMany f_moveNode f_movePart f_moveFirst f_moveThen f_moveOther a_out f_outMany a_kept), (a_all, aI G 1276 g_all), (a_bestCost, aJ G 512 g_bestCost), (a_bestCrosses, aI G 512 g_bestCrosses), (a_bestPart, aI G 512 g_bestPart), (a_capped, aZ G 256 g_capped), (a_connected, aZ G 256 g_connected), (a_nodes, aI G 8 g_nodes), (a_open, aI G 502 g_open), (a_part, aI G 256 g_part), (a_size, aJ G 256 g_size)] H := hP
    have hD : va_D A [(h0, O_R z1 a_all a_text a_saved a_undone f_undos f_reached f_length f_begin f_sort f_sign f_value f_word f_wrongAt f_badAt f_bad a_told f_read f_side a_pile f_piled a_open f_opened f_joins f_had a_size a_capped a_connected a_bestCost a_bestCrosses a_bestPart a_part a_trees f_treeMany a_nodes f_nodeMany f_moveNode f_movePart f_moveFirst f_moveThen f_moveOther a_out f_outMany a_kept), (a_all, aI G 1276 g_all), (a_bestCost, aJ G 512 g_bestCost), (a_bestCrosses, aI G 512 g_bestCrosses), (a_bestPart, aI G 512 g_bestPart), (a_capped, aZ G 256 g_capped), (a_connected, aZ G 256 g_connected), (a_nodes, aI G 8 g_nodes), (a_open, aI G 502 g_open), (a_part, aI G 256 g_part), (a_size, aJ G 256 g_size)] := hD
    refine lv_aload_n hx hb d_R_node_56 rfl (lv_at hl 0 rfl) ?_
    refine va_get (D := G.1) (ci := 12) (v := .int z1) (C := n_R) (T := T_R) (N := 44) hx hb htl iw_R hown hK hP 0 rfl rfl 0 (by decide) (htl _ k_1196) (fun _ h9 => h9) rfl d_R_node_57 ?_
    refine lv_if_le (tgt := 65) hx hb d_R_node_60 (by decide) (fun c9 => ?_) (fun c9 => ?_)
    · have hf := di_t c9 hf
      refine lv_aload_n hx hb d_R_node_65 rfl (lv_at hl 0 rfl) ?_
      refine va_get (D := G.1) (ci := 12) (v := .ref a_nodes) (C := n_R) (T := T_R) (N := 44) hx hb htl iw_R hown hK hP 0 rfl rfl 34 (by decide) (htl _ k_1230) (fun _ h9 => h9) rfl d_R_node_66 ?_
      refine lv_iload_n hx hb d_R_node_69 rfl (lv_at hl 1 rfl) ?_
      obtain ⟨c10, hf⟩ := dk_e hf
      refine va_iald hx hb hK hP 7 1 rfl rfl c10 d_R_node_70 ?_
      refine lv_topi (fun v11 ev11 => ?_)
      have hf := dn_e ev11 hf
      refine lv_istore_n (lv' := [(3, .int v11), (0, .ref h0), (1, .int x1), (2, .int x2)]) hx hb d_R_node_71 rfl hl (by decide) rfl (fun ls hl => ?_)
      refine lv_iload_n hx hb d_R_node_72 rfl (lv_at hl 3 rfl) ?_
      by_cases c12 : x2 = (0 : Int32)
      · have hf := di_t c12 hf
        refine lv_tableIn (tgt := 104) hx hb d_R_node_73 (by rw [c12]; decide) (by rw [c12]; decide) (by rw [c12]; rfl) (by decide) ?_
        refine lv_iload_n hx hb d_R_node_104 rfl (lv_at hl 0 rfl) ?_
        refine lv_i2l hx hb d_R_node_105 rfl ?_
        cases hf
        exact hret 106 ls H locs hP hS d_R_node_106
      have hf := di_f c12 hf
      by_cases c13 : x2 = (1 : Int32)
      · have hf := di_t c13 hf
        refine lv_tableIn (tgt := 107) hx hb d_R_node_73 (by rw [c13]; decide) (by rw [c13]; decide) (by rw [c13]; rfl) (by decide) ?_
        refine lv_aload_n hx hb d_R_node_107 rfl (lv_at hl 1 rfl) ?_
        refine va_get (D := G.1) (ci := 12) (v := .ref a_part) (C := n_R) (T := T_R) (N := 44) hx hb htl iw_R hown hK hP 0 rfl rfl 31 (by decide) (htl _ k_1227) (fun _ h9 => h9) rfl d_R_node_108 ?_
        refine lv_iload_n hx hb d_R_node_111 rfl (lv_at hl 0 rfl) ?_
        obtain ⟨c14, hf⟩ := dk_e hf
        refine va_iald hx hb hK hP 9 1 rfl rfl c14 d_R_node_112 ?_
        refine lv_i2l hx hb d_R_node_113 rfl ?_
        cases hf
        exact hret 114 ls H locs hP hS d_R_node_114
      have hf := di_f c13 hf
      by_cases c15 : x2 = (2 : Int32)
      · have hf := di_t c15 hf
        refine lv_tableIn (tgt := 115) hx hb d_R_node_73 (by rw [c15]; decide) (by rw [c15]; decide) (by rw [c15]; rfl) (by decide) ?_
        refine lv_aload_n hx hb d_R_node_115 rfl (lv_at hl 1 rfl) ?_
        refine va_get (D := G.1) (ci := 12) (v := .ref a_size) (C := n_R) (T := T_R) (N := 44) hx hb htl iw_R hown hK hP 0 rfl rfl 25 (by decide) (htl _ k_1221) (fun _ h9 => h9) rfl d_R_node_116 ?_
        refine lv_iload_n hx hb d_R_node_119 rfl (lv_at hl 0 rfl) ?_
        obtain ⟨c16, hf⟩ := dk_e hf
        refine va_lald hx hb hK hP 10 2 rfl rfl c16 d_R_node_120 ?_
        cases hf
        exact hret 121 ls H locs hP hS d_R_node_121
      have hf := di_f c15 hf
      by_cases c17 : x2 = (3 : Int32)
      · have hf := di_t c17 hf
        refine lv_tableIn (tgt := 122) hx hb d_R_node_73 (by rw [c17]; decide) (by rw [c17]; decide) (by rw [c17]; rfl) (by decide) ?_
        refine lv_aload_n hx hb d_R_node_122 rfl (lv_at hl 1 rfl) ?_
        refine lv_iload_n hx hb d_R_node_123 rfl (lv_at hl 0 rfl) ?_
        obtain ⟨t18, hv19, hf⟩ := db_e hf
        refine call_l (isC := [0, 9, 10]) (run_V (As := [.int v11]) (rest := []) (ci := 12) (q0 := 0) hx hb hml hown htl (c_R_costOfParts l G Y  h0 a_all a_text a_saved a_undone a_told a_pile a_open a_size a_capped a_connected a_bestCost a_bestCrosses a_bestPart a_part a_trees a_nodes a_out a_kept z1 f_undos f_reached f_length f_begin f_sort f_sign f_value f_word f_wrongAt f_badAt f_bad f_read f_side f_piled f_opened f_joins f_had f_treeMany f_nodeMany f_moveNode f_movePart f_moveFirst f_moveThen f_moveOther f_outMany g_part g_size v11 N t18 hv19) mv_R_costOfParts k_1590 (hRk (by decide) (by decide)) hK hsk hS hP hD (isC := [0, 9, 10]) rfl (by decide) rfl rfl rfl hl.1 rfl (lv_room (Nat.le_of_ble_eq_true rfl)) d_R_node_124) hP hD hS rfl rfl (fun H locs hP hD hS => ?_)
        have hP : va_P G.1 classes [(h0, O_R z1 a_all a_text a_saved a_undone f_undos f_reached f_length f_begin f_sort f_sign f_value f_word f_wrongAt f_badAt f_bad a_told f_read f_side a_pile f_piled a_open f_opened f_joins f_had a_size a_capped a_connected a_bestCost a_bestCrosses a_bestPart a_part a_trees f_treeMany a_nodes f_nodeMany f_moveNode f_movePart f_moveFirst f_moveThen f_moveOther a_out f_outMany a_kept), (a_all, aI G 1276 g_all), (a_bestCost, aJ G 512 g_bestCost), (a_bestCrosses, aI G 512 g_bestCrosses), (a_bestPart, aI G 512 g_bestPart), (a_capped, aZ G 256 g_capped), (a_connected, aZ G 256 g_connected), (a_nodes, aI G 8 g_nodes), (a_open, aI G 502 g_open), (a_part, aI G 256 g_part), (a_size, aJ G 256 g_size)] H := hP
        have hD : va_D A [(h0, O_R z1 a_all a_text a_saved a_undone f_undos f_reached f_length f_begin f_sort f_sign f_value f_word f_wrongAt f_badAt f_bad a_told f_read f_side a_pile f_piled a_open f_opened f_joins f_had a_size a_capped a_connected a_bestCost a_bestCrosses a_bestPart a_part a_trees f_treeMany a_nodes f_nodeMany f_moveNode f_movePart f_moveFirst f_moveThen f_moveOther a_out f_outMany a_kept), (a_all, aI G 1276 g_all), (a_bestCost, aJ G 512 g_bestCost), (a_bestCrosses, aI G 512 g_bestCrosses), (a_bestPart, aI G 512 g_bestPart), (a_capped, aZ G 256 g_capped), (a_connected, aZ G 256 g_connected), (a_nodes, aI G 8 g_nodes), (a_open, aI G 502 g_open), (a_part, aI G 256 g_part), (a_size, aJ G 256 g_size)] := hD
        cases hf
        exact hret 127 ls H locs hP hS d_R_node_127
      have hf := di_f c17 hf
      refine lv_tableOut (tgt := 128) hx hb d_R_node_73 (sw_out_0_3 c12 c13 c15 c17) (by decide) ?_
      refine lv_aload_n hx hb d_R_node_128 rfl (lv_at hl 1 rfl) ?_
      refine lv_aload_n hx hb d_R_node_129 rfl (lv_at hl 1 rfl) ?_
      refine va_get (D := G.1) (ci := 12) (v := .ref a_part) (C := n_R) (T := T_R) (N := 44) hx hb htl iw_R hown hK hP 0 rfl rfl 31 (by decide) (htl _ k_1227) (fun _ h9 => h9) rfl d_R_node_130 ?_
      refine lv_iload_n hx hb d_R_node_133 rfl (lv_at hl 0 rfl) ?_
      obtain ⟨c20, hf⟩ := dk_e hf
      refine va_iald hx hb hK hP 9 1 rfl rfl c20 d_R_node_134 ?_
      refine lv_iload_n hx hb d_R_node_135 rfl (lv_at hl 0 rfl) ?_
      refine lv_aload_n hx hb d_R_node_136 rfl (lv_at hl 1 rfl) ?_
      refine va_get (D := G.1) (ci := 12) (v := .ref a_part) (C := n_R) (T := T_R) (N := 44) hx hb htl iw_R hown hK hP 0 rfl rfl 31 (by decide) (htl _ k_1227) (fun _ h9 => h9) rfl d_R_node_137 ?_
      refine lv_iload_n hx hb d_R_node_140 rfl (lv_at hl 0 rfl) ?_
      refine va_iald hx hb hK hP 9 1 rfl rfl c20 d_R_node_141 ?_
      refine lv_iconst (v := (-1 : Int32)) hx hb d_R_node_142 (by decide) ?_
      refine lv_ixor hx hb d_R_node_143 ?_
      refine lv_iand hx hb d_R_node_144 ?_
      obtain ⟨t21, hv22, hf⟩ := db_e hf
      refine call_i (isC := [0, 1]) (run_V (As := [.int (g_part v11.toNatClampNeg), .int (v11 &&& ((g_part v11.toNatClampNeg) ^^^ (-1 : Int32)))]) (rest := []) (ci := 12) (q0 := 0) hx hb hml hown htl (c_R_isJoined l G Y  h0 a_all a_text a_saved a_undone a_told a_pile a_open a_size a_capped a_connected a_bestCost a_bestCrosses a_bestPart a_part a_trees a_nodes a_out a_kept z1 f_undos f_reached f_length f_begin f_sort f_sign f_value f_word f_wrongAt f_badAt f_bad f_read f_side f_piled f_opened f_joins f_had f_treeMany f_nodeMany f_moveNode f_movePart f_moveFirst f_moveThen f_moveOther f_outMany g_all (g_part v11.toNatClampNeg) (v11 &&& ((g_part v11.toNatClampNeg) ^^^ (-1 : Int32))) N t21 hv22) mv_R_isJoined k_1531 (hRk (by decide) (by decide)) hK hsk hS hP hD (isC := [0, 1]) rfl (by decide) rfl rfl rfl hl.1 rfl (lv_room (Nat.le_of_ble_eq_true rfl)) d_R_node_145) hP hD hS rfl rfl (fun H locs hP hD hS => ?_)
      have hP : va_P G.1 classes [(h0, O_R z1 a_all a_text a_saved a_undone f_undos f_reached f_length f_begin f_sort f_sign f_value f_word f_wrongAt f_badAt f_bad a_told f_read f_side a_pile f_piled a_open f_opened f_joins f_had a_size a_capped a_connected a_bestCost a_bestCrosses a_bestPart a_part a_trees f_treeMany a_nodes f_nodeMany f_moveNode f_movePart f_moveFirst f_moveThen f_moveOther a_out f_outMany a_kept), (a_all, aI G 1276 g_all), (a_bestCost, aJ G 512 g_bestCost), (a_bestCrosses, aI G 512 g_bestCrosses), (a_bestPart, aI G 512 g_bestPart), (a_capped, aZ G 256 g_capped), (a_connected, aZ G 256 g_connected), (a_nodes, aI G 8 g_nodes), (a_open, aI G 502 g_open), (a_part, aI G 256 g_part), (a_size, aJ G 256 g_size)] H := hP
      have hD : va_D A [(h0, O_R z1 a_all a_text a_saved a_undone f_undos f_reached f_length f_begin f_sort f_sign f_value f_word f_wrongAt f_badAt f_bad a_told f_read f_side a_pile f_piled a_open f_opened f_joins f_had a_size a_capped a_connected a_bestCost a_bestCrosses a_bestPart a_part a_trees f_treeMany a_nodes f_nodeMany f_moveNode f_movePart f_moveFirst f_moveThen f_moveOther a_out f_outMany a_kept), (a_all, aI G 1276 g_all), (a_bestCost, aJ G 512 g_bestCost), (a_bestCrosses, aI G 512 g_bestCrosses), (a_bestPart, aI G 512 g_bestPart), (a_capped, aZ G 256 g_capped), (a_connected, aZ G 256 g_connected), (a_nodes, aI G 8 g_nodes), (a_open, aI G 502 g_open), (a_part, aI G 256 g_part), (a_size, aJ G 256 g_size)] := hD
      refine lv_if_eq (tgt := 155) hx hb d_R_node_148 (by decide) (fun c23 => ?_) (fun c23 => ?_)
      · have hf := di_t c23 hf
        refine lv_lconst (v := (1 : Int64)) hx hb d_R_node_155 (by decide) ?_
        cases hf
        exact hret 156 ls H locs hP hS d_R_node_156
      · have hf := di_f c23 hf
        refine lv_lconst (v := (0 : Int64)) hx hb d_R_node_151 (by decide) ?_
        refine lv_goto (tgt := 156) hx hb d_R_node_152 (by decide) ?_
        cases hf
        exact hret 156 ls H locs hP hS d_R_node_156
    · have hf := di_f c9 hf
      refine lv_lconst (v := (0 : Int64)) hx hb d_R_node_63 (by decide) ?_
      cases hf
      exact hret 64 ls H locs hP hS d_R_node_64
  have hJ52 : ∀ (f_raised : Int32) (f_opened : Int32) (f_nodeMany : Int32) (g_bestCost : Nat → Int64) (g_bestCrosses : Nat → Int32) (g_bestPart : Nat → Int32) (g_capped : Nat → Int32) (g_connected : Nat → Int32) (g_nodes : Nat → Int32) (g_open : Nat → Int32) (g_part : Nat → Int32) (g_size : Nat → Int64) (H : Heap) (locs : List Loc) (ls : Array Slot), PDS G.1 classes A s [(h0, O_R f_raised a_all a_text a_saved a_undone f_undos f_reached f_length f_begin f_sort f_sign f_value f_word f_wrongAt f_badAt f_bad a_told f_read f_side a_pile f_piled a_open f_opened f_joins f_had a_size a_capped a_connected a_bestCost a_bestCrosses a_bestPart a_part a_trees f_treeMany a_nodes f_nodeMany f_moveNode f_movePart f_moveFirst f_moveThen f_moveOther a_out f_outMany a_kept), (a_all, aI G 1276 g_all), (a_bestCost, aJ G 512 g_bestCost), (a_bestCrosses, aI G 512 g_bestCrosses), (a_bestPart, aI G 512 g_bestPart), (a_capped, aZ G 256 g_capped), (a_connected, aZ G 256 g_connected), (a_nodes, aI G 8 g_nodes), (a_open, aI G 502 g_open), (a_part, aI G 256 g_part), (a_size, aJ G 256 g_size)] H locs → lv_has ls 4 [(0, .ref h0), (1, .int x1), (2, .int x2)] → R_node_52 N f_raised f_opened f_nodeMany g_all g_bestCost g_bestCrosses g_bestPart g_capped g_connected g_nodes g_open g_part g_size x1 x2 = some res → W p l e (rmk 5) s m args below meth c H locs 0 0 Q (F0 m 52 ls [.ref h0]) := by
    intro f_raised f_opened f_nodeMany g_bestCost g_bestCrosses g_bestPart g_capped g_connected g_nodes g_open g_part g_size H locs ls wq hl hf
    obtain ⟨hP, hD, hS⟩ := wq
    refine lv_iconst (v := (1 : Int32)) hx hb d_R_node_52 (by decide) ?_
    exact hJ53 f_raised f_opened f_nodeMany g_bestCost g_bestCrosses g_bestPart g_capped g_connected g_nodes g_open g_part g_size (1 : Int32) H locs ls ⟨hP, hD, hS⟩ (lv_sub hl [0, 1, 2] rfl) hf
  refine lv_aload_n hx hb d_R_node_0 rfl (lv_at hl 0 rfl) ?_
  obtain ⟨t1, hv2, hf⟩ := db_e hf
  refine call_v (isC := [0, 1, 2, 3, 4, 5, 6, 10]) (run_V (As := []) (rest := []) (ci := 12) (q0 := 0) hx hb hml hown htl (c_R_lays l G Y  h0 a_all a_text a_saved a_undone a_told a_pile a_open a_size a_capped a_connected a_bestCost a_bestCrosses a_bestPart a_part a_trees a_nodes a_out a_kept f_raised f_undos f_reached f_length f_begin f_sort f_sign f_value f_word f_wrongAt f_badAt f_bad f_read f_side f_piled f_opened f_joins f_had f_treeMany f_nodeMany f_moveNode f_movePart f_moveFirst f_moveThen f_moveOther f_outMany g_all g_bestCost g_bestCrosses g_bestPart g_capped g_connected g_size N t1 hv2) mv_R_lays k_1503 (hRk (by decide) (by decide)) hK hsk hS hP hD (isC := [0, 1, 2, 3, 4, 5, 6, 10]) rfl (by decide) rfl rfl rfl hl.1 rfl (lv_room (Nat.le_of_ble_eq_true rfl)) d_R_node_1) hP hD hS rfl rfl (fun H locs hP hD hS => ?_)
  have hP : va_P G.1 classes [(h0, O_R f_raised a_all a_text a_saved a_undone f_undos f_reached f_length f_begin f_sort f_sign f_value f_word f_wrongAt f_badAt f_bad a_told f_read f_side a_pile f_piled a_open f_opened f_joins f_had a_size a_capped a_connected a_bestCost a_bestCrosses a_bestPart a_part a_trees f_treeMany a_nodes f_nodeMany f_moveNode f_movePart f_moveFirst f_moveThen f_moveOther a_out f_outMany a_kept), (a_all, aI G 1276 g_all), (a_bestCost, aJ G 512 t1.1), (a_bestCrosses, aI G 512 t1.2.1), (a_bestPart, aI G 512 t1.2.2.1), (a_capped, aZ G 256 t1.2.2.2.1), (a_connected, aZ G 256 t1.2.2.2.2.1), (a_nodes, aI G 8 g_nodes), (a_open, aI G 502 g_open), (a_part, aI G 256 g_part), (a_size, aJ G 256 t1.2.2.2.2.2)] H := hP
  have hD : va_D A [(h0, O_R f_raised a_all a_text a_saved a_undone f_undos f_reached f_length f_begin f_sort f_sign f_value f_word f_wrongAt f_badAt f_bad a_told f_read f_side a_pile f_piled a_open f_opened f_joins f_had a_size a_capped a_connected a_bestCost a_bestCrosses a_bestPart a_part a_trees f_treeMany a_nodes f_nodeMany f_moveNode f_movePart f_moveFirst f_moveThen f_moveOther a_out f_outMany a_kept), (a_all, aI G 1276 g_all), (a_bestCost, aJ G 512 t1.1), (a_bestCrosses, aI G 512 t1.2.1), (a_bestPart, aI G 512 t1.2.2.1), (a_capped, aZ G 256 t1.2.2.2.1), (a_connected, aZ G 256 t1.2.2.2.2.1), (a_nodes, aI G 8 g_nodes), (a_open, aI G 502 g_open), (a_part, aI G 256 g_part), (a_size, aJ G 256 t1.2.2.2.2.2)] := hD
  refine lv_aload_n hx hb d_R_node_4 rfl (lv_at hl 0 rfl) ?_
  obtain ⟨t3, hv4, hf⟩ := db_e hf
  refine call_v (isC := [0, 1, 9]) (run_V (As := []) (rest := []) (ci := 12) (q0 := 0) hx hb hml hown htl (c_R_takesPlan l G Y  h0 a_all a_text a_saved a_undone a_told a_pile a_open a_size a_capped a_connected a_bestCost a_bestCrosses a_bestPart a_part a_trees a_nodes a_out a_kept f_raised f_undos f_reached f_length f_begin f_sort f_sign f_value f_word f_wrongAt f_badAt f_bad f_read f_side f_piled f_opened f_joins f_had f_treeMany f_nodeMany f_moveNode f_movePart f_moveFirst f_moveThen f_moveOther f_outMany g_all g_part N t3 hv4) mv_R_takesPlan k_1574 (hRk (by decide) (by decide)) hK hsk hS hP hD (isC := [0, 1, 9]) rfl (by decide) rfl rfl rfl hl.1 rfl (lv_room (Nat.le_of_ble_eq_true rfl)) d_R_node_5) hP hD hS rfl rfl (fun H locs hP hD hS => ?_)
  have hP : va_P G.1 classes [(h0, O_R f_raised a_all a_text a_saved a_undone f_undos f_reached f_length f_begin f_sort f_sign f_value f_word f_wrongAt f_badAt f_bad a_told f_read f_side a_pile f_piled a_open f_opened f_joins f_had a_size a_capped a_connected a_bestCost a_bestCrosses a_bestPart a_part a_trees f_treeMany a_nodes f_nodeMany f_moveNode f_movePart f_moveFirst f_moveThen f_moveOther a_out f_outMany a_kept), (a_all, aI G 1276 g_all), (a_bestCost, aJ G 512 t1.1), (a_bestCrosses, aI G 512 t1.2.1), (a_bestPart, aI G 512 t1.2.2.1), (a_capped, aZ G 256 t1.2.2.2.1), (a_connected, aZ G 256 t1.2.2.2.2.1), (a_nodes, aI G 8 g_nodes), (a_open, aI G 502 g_open), (a_part, aI G 256 t3), (a_size, aJ G 256 t1.2.2.2.2.2)] H := hP
  have hD : va_D A [(h0, O_R f_raised a_all a_text a_saved a_undone f_undos f_reached f_length f_begin f_sort f_sign f_value f_word f_wrongAt f_badAt f_bad a_told f_read f_side a_pile f_piled a_open f_opened f_joins f_had a_size a_capped a_connected a_bestCost a_bestCrosses a_bestPart a_part a_trees f_treeMany a_nodes f_nodeMany f_moveNode f_movePart f_moveFirst f_moveThen f_moveOther a_out f_outMany a_kept), (a_all, aI G 1276 g_all), (a_bestCost, aJ G 512 t1.1), (a_bestCrosses, aI G 512 t1.2.1), (a_bestPart, aI G 512 t1.2.2.1), (a_capped, aZ G 256 t1.2.2.2.1), (a_connected, aZ G 256 t1.2.2.2.2.1), (a_nodes, aI G 8 g_nodes), (a_open, aI G 502 g_open), (a_part, aI G 256 t3), (a_size, aJ G 256 t1.2.2.2.2.2)] := hD
  refine lv_aload_n hx hb d_R_node_8 rfl (lv_at hl 0 rfl) ?_
  refine lv_aload_n hx hb d_R_node_9 rfl (lv_at hl 0 rfl) ?_
  refine va_get (D := G.1) (ci := 12) (v := .ref a_all) (C := n_R) (T := T_R) (N := 44) hx hb htl iw_R hown hK hP 0 rfl rfl 1 (by decide) (htl _ k_1197) (fun _ h9 => h9) rfl d_R_node_10 ?_
  refine lv_bipush (v := (59 : Int32)) hx hb d_R_node_13 (by decide) ?_
  refine va_iald hx hb hK hP 1 1 rfl rfl (vp_lit (by decide)) d_R_node_15 ?_
  obtain ⟨t5, hv6, hf⟩ := db_e hf
  refine call_v (isC := [0, 7, 8, 9]) (run_V (As := [.int (g_all (59 : Int32).toNatClampNeg)]) (rest := []) (ci := 12) (q0 := 0) hx hb hml hown htl (c_R_laysNodes l G Y  h0 a_all a_text a_saved a_undone a_told a_pile a_open a_size a_capped a_connected a_bestCost a_bestCrosses a_bestPart a_part a_trees a_nodes a_out a_kept f_raised f_undos f_reached f_length f_begin f_sort f_sign f_value f_word f_wrongAt f_badAt f_bad f_read f_side f_piled f_opened f_joins f_had f_treeMany f_nodeMany f_moveNode f_movePart f_moveFirst f_moveThen f_moveOther f_outMany g_nodes g_open t3 (g_all (59 : Int32).toNatClampNeg) N t5 hv6) mv_R_laysNodes k_1582 (hRk (by decide) (by decide)) hK hsk hS hP hD (isC := [0, 7, 8, 9]) rfl (by decide) rfl rfl rfl hl.1 rfl (lv_room (Nat.le_of_ble_eq_true rfl)) d_R_node_16) hP hD hS rfl rfl (fun H locs hP hD hS => ?_)
  have hP : va_P G.1 classes [(h0, O_R f_raised a_all a_text a_saved a_undone f_undos f_reached f_length f_begin f_sort f_sign f_value f_word f_wrongAt f_badAt f_bad a_told f_read f_side a_pile f_piled a_open t5.1 f_joins f_had a_size a_capped a_connected a_bestCost a_bestCrosses a_bestPart a_part a_trees f_treeMany a_nodes t5.2.1 f_moveNode f_movePart f_moveFirst f_moveThen f_moveOther a_out f_outMany a_kept), (a_all, aI G 1276 g_all), (a_bestCost, aJ G 512 t1.1), (a_bestCrosses, aI G 512 t1.2.1), (a_bestPart, aI G 512 t1.2.2.1), (a_capped, aZ G 256 t1.2.2.2.1), (a_connected, aZ G 256 t1.2.2.2.2.1), (a_nodes, aI G 8 t5.2.2.1), (a_open, aI G 502 t5.2.2.2), (a_part, aI G 256 t3), (a_size, aJ G 256 t1.2.2.2.2.2)] H := hP
  have hD : va_D A [(h0, O_R f_raised a_all a_text a_saved a_undone f_undos f_reached f_length f_begin f_sort f_sign f_value f_word f_wrongAt f_badAt f_bad a_told f_read f_side a_pile f_piled a_open t5.1 f_joins f_had a_size a_capped a_connected a_bestCost a_bestCrosses a_bestPart a_part a_trees f_treeMany a_nodes t5.2.1 f_moveNode f_movePart f_moveFirst f_moveThen f_moveOther a_out f_outMany a_kept), (a_all, aI G 1276 g_all), (a_bestCost, aJ G 512 t1.1), (a_bestCrosses, aI G 512 t1.2.1), (a_bestPart, aI G 512 t1.2.2.1), (a_capped, aZ G 256 t1.2.2.2.1), (a_connected, aZ G 256 t1.2.2.2.2.1), (a_nodes, aI G 8 t5.2.2.1), (a_open, aI G 502 t5.2.2.2), (a_part, aI G 256 t3), (a_size, aJ G 256 t1.2.2.2.2.2)] := hD
  refine lv_aload_n hx hb d_R_node_19 rfl (lv_at hl 0 rfl) ?_
  refine lv_iload_n hx hb d_R_node_20 rfl (lv_at hl 1 rfl) ?_
  refine lv_i2l hx hb d_R_node_21 rfl ?_
  refine lv_lconst (v := (0 : Int64)) hx hb d_R_node_22 (by decide) ?_
  refine lv_aload_n hx hb d_R_node_23 rfl (lv_at hl 0 rfl) ?_
  refine va_get (D := G.1) (ci := 12) (v := .int t5.2.1) (C := n_R) (T := T_R) (N := 44) hx hb htl iw_R hown hK hP 0 rfl rfl 35 (by decide) (htl _ k_1231) (fun _ h9 => h9) rfl d_R_node_24 ?_
  refine lv_iconst (v := (1 : Int32)) hx hb d_R_node_27 (by decide) ?_
  refine lv_isub hx hb d_R_node_28 ?_
  refine lv_i2l hx hb d_R_node_29 rfl ?_
  refine call_i (isC := []) (run_S (As := [.long x1.toInt64, .long (0 : Int64), .long ((t5.2.1 - (1 : Int32)).toInt64)]) (rest := [.ref h0]) hx hb hml hown htl (c_R_in l G Y  x1.toInt64 (0 : Int64) ((t5.2.1 - (1 : Int32)).toInt64) _ rfl) ms_R_in k_1356 (hRk (by decide) (by decide)) hK hsk hS hP hD (isC := []) rfl (by decide) rfl hl.1 rfl (lv_room (Nat.le_of_ble_eq_true rfl)) d_R_node_30) hP hD hS rfl rfl (fun H locs hP hD hS => ?_)
  have hP : va_P G.1 classes [(h0, O_R f_raised a_all a_text a_saved a_undone f_undos f_reached f_length f_begin f_sort f_sign f_value f_word f_wrongAt f_badAt f_bad a_told f_read f_side a_pile f_piled a_open t5.1 f_joins f_had a_size a_capped a_connected a_bestCost a_bestCrosses a_bestPart a_part a_trees f_treeMany a_nodes t5.2.1 f_moveNode f_movePart f_moveFirst f_moveThen f_moveOther a_out f_outMany a_kept), (a_all, aI G 1276 g_all), (a_bestCost, aJ G 512 t1.1), (a_bestCrosses, aI G 512 t1.2.1), (a_bestPart, aI G 512 t1.2.2.1), (a_capped, aZ G 256 t1.2.2.2.1), (a_connected, aZ G 256 t1.2.2.2.2.1), (a_nodes, aI G 8 t5.2.2.1), (a_open, aI G 502 t5.2.2.2), (a_part, aI G 256 t3), (a_size, aJ G 256 t1.2.2.2.2.2)] H := hP
  have hD : va_D A [(h0, O_R f_raised a_all a_text a_saved a_undone f_undos f_reached f_length f_begin f_sort f_sign f_value f_word f_wrongAt f_badAt f_bad a_told f_read f_side a_pile f_piled a_open t5.1 f_joins f_had a_size a_capped a_connected a_bestCost a_bestCrosses a_bestPart a_part a_trees f_treeMany a_nodes t5.2.1 f_moveNode f_movePart f_moveFirst f_moveThen f_moveOther a_out f_outMany a_kept), (a_all, aI G 1276 g_all), (a_bestCost, aJ G 512 t1.1), (a_bestCrosses, aI G 512 t1.2.1), (a_bestPart, aI G 512 t1.2.2.1), (a_capped, aZ G 256 t1.2.2.2.1), (a_connected, aZ G 256 t1.2.2.2.2.1), (a_nodes, aI G 8 t5.2.2.1), (a_open, aI G 502 t5.2.2.2), (a_part, aI G 256 t3), (a_size, aJ G 256 t1.2.2.2.2.2)] := hD
  refine lv_if_eq (tgt := 52) hx hb d_R_node_33 (by decide) (fun c7 => ?_) (fun c7 => ?_)
  · have hf := di_t c7 hf
    exact hJ52 f_raised t5.1 t5.2.1 t1.1 t1.2.1 t1.2.2.1 t1.2.2.2.1 t1.2.2.2.2.1 t5.2.2.1 t5.2.2.2 t3 t1.2.2.2.2.2 H locs ls ⟨hP, hD, hS⟩ (lv_sub hl [0, 1, 2] rfl) hf
  · have hf := di_f c7 hf
    refine lv_iload_n hx hb d_R_node_36 rfl (lv_at hl 2 rfl) ?_
    refine lv_i2l hx hb d_R_node_37 rfl ?_
    refine lv_lconst (v := (0 : Int64)) hx hb d_R_node_38 (by decide) ?_
    refine lv_ldc2 (v := (4 : Int64)) hx hb hown (htl _ k_1664) d_R_node_39 ?_
    refine call_i (isC := []) (run_S (As := [.long x2.toInt64, .long (0 : Int64), .long (4 : Int64)]) (rest := [.ref h0]) hx hb hml hown htl (c_R_in l G Y  x2.toInt64 (0 : Int64) (4 : Int64) _ rfl) ms_R_in k_1356 (hRk (by decide) (by decide)) hK hsk hS hP hD (isC := []) rfl (by decide) rfl hl.1 rfl (lv_room (Nat.le_of_ble_eq_true rfl)) d_R_node_42) hP hD hS rfl rfl (fun H locs hP hD hS => ?_)
    have hP : va_P G.1 classes [(h0, O_R f_raised a_all a_text a_saved a_undone f_undos f_reached f_length f_begin f_sort f_sign f_value f_word f_wrongAt f_badAt f_bad a_told f_read f_side a_pile f_piled a_open t5.1 f_joins f_had a_size a_capped a_connected a_bestCost a_bestCrosses a_bestPart a_part a_trees f_treeMany a_nodes t5.2.1 f_moveNode f_movePart f_moveFirst f_moveThen f_moveOther a_out f_outMany a_kept), (a_all, aI G 1276 g_all), (a_bestCost, aJ G 512 t1.1), (a_bestCrosses, aI G 512 t1.2.1), (a_bestPart, aI G 512 t1.2.2.1), (a_capped, aZ G 256 t1.2.2.2.1), (a_connected, aZ G 256 t1.2.2.2.2.1), (a_nodes, aI G 8 t5.2.2.1), (a_open, aI G 502 t5.2.2.2), (a_part, aI G 256 t3), (a_size, aJ G 256 t1.2.2.2.2.2)] H := hP
    have hD : va_D A [(h0, O_R f_raised a_all a_text a_saved a_undone f_undos f_reached f_length f_begin f_sort f_sign f_value f_word f_wrongAt f_badAt f_bad a_told f_read f_side a_pile f_piled a_open t5.1 f_joins f_had a_size a_capped a_connected a_bestCost a_bestCrosses a_bestPart a_part a_trees f_treeMany a_nodes t5.2.1 f_moveNode f_movePart f_moveFirst f_moveThen f_moveOther a_out f_outMany a_kept), (a_all, aI G 1276 g_all), (a_bestCost, aJ G 512 t1.1), (a_bestCrosses, aI G 512 t1.2.1), (a_bestPart, aI G 512 t1.2.2.1), (a_capped, aZ G 256 t1.2.2.2.1), (a_connected, aZ G 256 t1.2.2.2.2.1), (a_nodes, aI G 8 t5.2.2.1), (a_open, aI G 502 t5.2.2.2), (a_part, aI G 256 t3), (a_size, aJ G 256 t1.2.2.2.2.2)] := hD
    refine lv_if_eq (tgt := 52) hx hb d_R_node_45 (by decide) (fun c8 => ?_) (fun c8 => ?_)
    · have hf := di_t c8 hf
      exact hJ52 f_raised t5.1 t5.2.1 t1.1 t1.2.1 t1.2.2.1 t1.2.2.2.1 t1.2.2.2.2.1 t5.2.2.1 t5.2.2.2 t3 t1.2.2.2.2.2 H locs ls ⟨hP, hD, hS⟩ (lv_sub hl [0, 1, 2] rfl) hf
    · have hf := di_f c8 hf
      refine lv_iconst (v := (0 : Int32)) hx hb d_R_node_48 (by decide) ?_
      refine lv_goto (tgt := 53) hx hb d_R_node_49 (by decide) ?_
      exact hJ53 f_raised t5.1 t5.2.1 t1.1 t1.2.1 t1.2.2.1 t1.2.2.2.1 t1.2.2.2.2.1 t5.2.2.1 t5.2.2.2 t3 t1.2.2.2.2.2 (0 : Int32) H locs ls ⟨hP, hD, hS⟩ (lv_sub hl [0, 1, 2] rfl) hf
set_option maxHeartbeats 4000000 in
set_option maxRecDepth 100000 in
theorem c_R_cost (l : Launch) (G : va_G × (Nat → ClassId)) (Y : (Nat → Nat) × (Nat → Nat)) (h0 : Nat) (a_all : Nat) (a_text : Nat) (a_saved : Nat) (a_undone : Nat) (a_told : Nat) (a_pile : Nat) (a_open : Nat) (a_size : Nat) (a_capped : Nat) (a_connected : Nat) (a_bestCost : Nat) (a_bestCrosses : Nat) (a_bestPart : Nat) (a_part : Nat) (a_trees : Nat) (a_nodes : Nat) (a_out : Nat) (a_kept : Nat) (f_raised : Int32) (f_undos : Int32) (f_reached : Int32) (f_length : Int32) (f_begin : Int32) (f_sort : Int32) (f_sign : Int32) (f_value : Int32) (f_word : Int64) (f_wrongAt : Int32) (f_badAt : Int32) (f_bad : Int32) (f_read : Int32) (f_side : Int32) (f_piled : Int32) (f_opened : Int32) (f_joins : Int32) (f_had : Int32) (f_treeMany : Int32) (f_nodeMany : Int32) (f_moveNode : Int32) (f_movePart : Int32) (f_moveFirst : Int32) (f_moveThen : Int32) (f_moveOther : Int32) (f_outMany : Int32) (g_all : Nat → Int32) (g_bestCost : Nat → Int64) (g_bestCrosses : Nat → Int32) (g_bestPart : Nat → Int32) (g_capped : Nat → Int32) (g_connected : Nat → Int32) (g_part : Nat → Int32) (g_size : Nat → Int64) (N : Nat) (res : Int64 × Int32 × (Nat → Int64) × (Nat → Int32) × (Nat → Int32) × (Nat → Int32) × (Nat → Int32) × (Nat → Int32) × (Nat → Int64)) (hf : R_cost N f_raised g_all g_bestCost g_bestCrosses g_bestPart g_capped g_connected g_part g_size = some res) : Cl l classes y_R_cost b_R_cost 1 (some .long) (rmk 5) G.1 (tyL G) Y [.ref h0] [(h0, O_R f_raised a_all a_text a_saved a_undone f_undos f_reached f_length f_begin f_sort f_sign f_value f_word f_wrongAt f_badAt f_bad a_told f_read f_side a_pile f_piled a_open f_opened f_joins f_had a_size a_capped a_connected a_bestCost a_bestCrosses a_bestPart a_part a_trees f_treeMany a_nodes f_nodeMany f_moveNode f_movePart f_moveFirst f_moveThen f_moveOther a_out f_outMany a_kept), (a_all, aI G 1276 g_all), (a_bestCost, aJ G 512 g_bestCost), (a_bestCrosses, aI G 512 g_bestCrosses), (a_bestPart, aI G 512 g_bestPart), (a_capped, aZ G 256 g_capped), (a_connected, aZ G 256 g_connected), (a_part, aI G 256 g_part), (a_size, aJ G 256 g_size)] [(h0, O_R res.2.1 a_all a_text a_saved a_undone f_undos f_reached f_length f_begin f_sort f_sign f_value f_word f_wrongAt f_badAt f_bad a_told f_read f_side a_pile f_piled a_open f_opened f_joins f_had a_size a_capped a_connected a_bestCost a_bestCrosses a_bestPart a_part a_trees f_treeMany a_nodes f_nodeMany f_moveNode f_movePart f_moveFirst f_moveThen f_moveOther a_out f_outMany a_kept), (a_all, aI G 1276 g_all), (a_bestCost, aJ G 512 res.2.2.1), (a_bestCrosses, aI G 512 res.2.2.2.1), (a_bestPart, aI G 512 res.2.2.2.2.1), (a_capped, aZ G 256 res.2.2.2.2.2.1), (a_connected, aZ G 256 res.2.2.2.2.2.2.1), (a_part, aI G 256 res.2.2.2.2.2.2.2.1), (a_size, aJ G 256 res.2.2.2.2.2.2.2.2)] res.1 := by
  refine entL (by decide) (Nat.le_of_ble_eq_true rfl) ?_
  intro p e s m args below meth c ls A Q hx hb hml hown htl hK hsk wq hl hret
  obtain ⟨hP, hD, hS⟩ := wq
  have hl : lv_has ls 1 [(0, .ref h0)] := hl
  have hS : va_S A s.heap s.heap [] := hS
  obtain ⟨H, hH⟩ : ∃ H : Heap, H = s.heap := ⟨_, rfl⟩
  obtain ⟨locs, hlocs⟩ : ∃ z : List Loc, z = [] := ⟨_, rfl⟩
  rw [← hH] at hP
  replace hS : va_S A s.heap H locs := by rw [hH, hlocs]; exact hS
  suffices hgo : W p l e (rmk 5) s m args below meth c H locs 0 0 Q (F0 m 0 ls []) by rw [hH, hlocs] at hgo; exact hgo
  refine lv_aload_n hx hb d_R_cost_0 rfl (lv_at hl 0 rfl) ?_
  refine lv_iconst (v := (0 : Int32)) hx hb d_R_cost_1 (by decide) ?_
  refine va_put (D := G.1) (ci := 12) (v := .int (0 : Int32)) (ty := .int) (C := n_R) (T := T_R) (N := 44) hx hb htl iw_R ty_R ty_R_ok nm_R hown hK hP hD hS 0 rfl rfl 0 (by decide) (htl _ k_1196) (fun _ h9 => h9) rfl (by decide +kernel) rfl rfl (Nat.le_of_ble_eq_true rfl) d_R_cost_2 (fun H locs hP hD hS => ?_)
  have hP : va_P G.1 classes [(h0, O_R (0 : Int32) a_all a_text a_saved a_undone f_undos f_reached f_length f_begin f_sort f_sign f_value f_word f_wrongAt f_badAt f_bad a_told f_read f_side a_pile f_piled a_open f_opened f_joins f_had a_size a_capped a_connected a_bestCost a_bestCrosses a_bestPart a_part a_trees f_treeMany a_nodes f_nodeMany f_moveNode f_movePart f_moveFirst f_moveThen f_moveOther a_out f_outMany a_kept), (a_all, aI G 1276 g_all), (a_bestCost, aJ G 512 g_bestCost), (a_bestCrosses, aI G 512 g_bestCrosses), (a_bestPart, aI G 512 g_bestPart), (a_capped, aZ G 256 g_capped), (a_connected, aZ G 256 g_connected), (a_part, aI G 256 g_part), (a_size, aJ G 256 g_size)] H := hP
  have hD : va_D A [(h0, O_R (0 : Int32) a_all a_text a_saved a_undone f_undos f_reached f_length f_begin f_sort f_sign f_value f_word f_wrongAt f_badAt f_bad a_told f_read f_side a_pile f_piled a_open f_opened f_joins f_had a_size a_capped a_connected a_bestCost a_bestCrosses a_bestPart a_part a_trees f_treeMany a_nodes f_nodeMany f_moveNode f_movePart f_moveFirst f_moveThen f_moveOther a_out f_outMany a_kept), (a_all, aI G 1276 g_all), (a_bestCost, aJ G 512 g_bestCost), (a_bestCrosses, aI G 512 g_bestCrosses), (a_bestPart, aI G 512 g_bestPart), (a_capped, aZ G 256 g_capped), (a_connected, aZ G 256 g_connected), (a_part, aI G 256 g_part), (a_size, aJ G 256 g_size)] := hD
  refine lv_aload_n hx hb d_R_cost_5 rfl (lv_at hl 0 rfl) ?_
  refine va_get (D := G.1) (ci := 12) (v := .ref a_all) (C := n_R) (T := T_R) (N := 44) hx hb htl iw_R hown hK hP 0 rfl rfl 1 (by decide) (htl _ k_1197) (fun _ h9 => h9) rfl d_R_cost_6 ?_
  refine lv_bipush (v := (59 : Int32)) hx hb d_R_cost_9 (by decide) ?_
  refine va_iald hx hb hK hP 1 1 rfl rfl (vp_lit (by decide)) d_R_cost_11 ?_
  refine lv_if_ne (tgt := 19) hx hb d_R_cost_12 (by decide) (fun c1 => ?_) (fun c1 => ?_)
  · have hf := di_f c1 hf
    refine lv_aload_n hx hb d_R_cost_19 rfl (lv_at hl 0 rfl) ?_
    obtain ⟨t2, hv3, hf⟩ := db_e hf
    refine call_v (isC := [0, 1, 2, 3, 4, 5, 6, 8]) (run_V (As := []) (rest := []) (ci := 12) (q0 := 0) hx hb hml hown htl (c_R_lays l G Y  h0 a_all a_text a_saved a_undone a_told a_pile a_open a_size a_capped a_connected a_bestCost a_bestCrosses a_bestPart a_part a_trees a_nodes a_out a_kept (0 : Int32) f_undos f_reached f_length f_begin f_sort f_sign f_value f_word f_wrongAt f_badAt f_bad f_read f_side f_piled f_opened f_joins f_had f_treeMany f_nodeMany f_moveNode f_movePart f_moveFirst f_moveThen f_moveOther f_outMany g_all g_bestCost g_bestCrosses g_bestPart g_capped g_connected g_size N t2 hv3) mv_R_lays k_1503 (hRk (by decide) (by decide)) hK hsk hS hP hD (isC := [0, 1, 2, 3, 4, 5, 6, 8]) rfl (by decide) rfl rfl rfl hl.1 rfl (lv_room (Nat.le_of_ble_eq_true rfl)) d_R_cost_20) hP hD hS rfl rfl (fun H locs hP hD hS => ?_)
    have hP : va_P G.1 classes [(h0, O_R (0 : Int32) a_all a_text a_saved a_undone f_undos f_reached f_length f_begin f_sort f_sign f_value f_word f_wrongAt f_badAt f_bad a_told f_read f_side a_pile f_piled a_open f_opened f_joins f_had a_size a_capped a_connected a_bestCost a_bestCrosses a_bestPart a_part a_trees f_treeMany a_nodes f_nodeMany f_moveNode f_movePart f_moveFirst f_moveThen f_moveOther a_out f_outMany a_kept), (a_all, aI G 1276 g_all), (a_bestCost, aJ G 512 t2.1), (a_bestCrosses, aI G 512 t2.2.1), (a_bestPart, aI G 512 t2.2.2.1), (a_capped, aZ G 256 t2.2.2.2.1), (a_connected, aZ G 256 t2.2.2.2.2.1), (a_part, aI G 256 g_part), (a_size, aJ G 256 t2.2.2.2.2.2)] H := hP
    have hD : va_D A [(h0, O_R (0 : Int32) a_all a_text a_saved a_undone f_undos f_reached f_length f_begin f_sort f_sign f_value f_word f_wrongAt f_badAt f_bad a_told f_read f_side a_pile f_piled a_open f_opened f_joins f_had a_size a_capped a_connected a_bestCost a_bestCrosses a_bestPart a_part a_trees f_treeMany a_nodes f_nodeMany f_moveNode f_movePart f_moveFirst f_moveThen f_moveOther a_out f_outMany a_kept), (a_all, aI G 1276 g_all), (a_bestCost, aJ G 512 t2.1), (a_bestCrosses, aI G 512 t2.2.1), (a_bestPart, aI G 512 t2.2.2.1), (a_capped, aZ G 256 t2.2.2.2.1), (a_connected, aZ G 256 t2.2.2.2.2.1), (a_part, aI G 256 g_part), (a_size, aJ G 256 t2.2.2.2.2.2)] := hD
    refine lv_aload_n hx hb d_R_cost_23 rfl (lv_at hl 0 rfl) ?_
    obtain ⟨t4, hv5, hf⟩ := db_e hf
    refine call_v (isC := [0, 1, 7]) (run_V (As := []) (rest := []) (ci := 12) (q0 := 0) hx hb hml hown htl (c_R_takesPlan l G Y  h0 a_all a_text a_saved a_undone a_told a_pile a_open a_size a_capped a_connected a_bestCost a_bestCrosses a_bestPart a_part a_trees a_nodes a_out a_kept (0 : Int32) f_undos f_reached f_length f_begin f_sort f_sign f_value f_word f_wrongAt f_badAt f_bad f_read f_side f_piled f_opened f_joins f_had f_treeMany f_nodeMany f_moveNode f_movePart f_moveFirst f_moveThen f_moveOther f_outMany g_all g_part N t4 hv5) mv_R_takesPlan k_1574 (hRk (by decide) (by decide)) hK hsk hS hP hD (isC := [0, 1, 7]) rfl (by decide) rfl rfl rfl hl.1 rfl (lv_room (Nat.le_of_ble_eq_true rfl)) d_R_cost_24) hP hD hS rfl rfl (fun H locs hP hD hS => ?_)
    have hP : va_P G.1 classes [(h0, O_R (0 : Int32) a_all a_text a_saved a_undone f_undos f_reached f_length f_begin f_sort f_sign f_value f_word f_wrongAt f_badAt f_bad a_told f_read f_side a_pile f_piled a_open f_opened f_joins f_had a_size a_capped a_connected a_bestCost a_bestCrosses a_bestPart a_part a_trees f_treeMany a_nodes f_nodeMany f_moveNode f_movePart f_moveFirst f_moveThen f_moveOther a_out f_outMany a_kept), (a_all, aI G 1276 g_all), (a_bestCost, aJ G 512 t2.1), (a_bestCrosses, aI G 512 t2.2.1), (a_bestPart, aI G 512 t2.2.2.1), (a_capped, aZ G 256 t2.2.2.2.1), (a_connected, aZ G 256 t2.2.2.2.2.1), (a_part, aI G 256 t4), (a_size, aJ G 256 t2.2.2.2.2.2)] H := hP
    have hD : va_D A [(h0, O_R (0 : Int32) a_all a_text a_saved a_undone f_undos f_reached f_length f_begin f_sort f_sign f_value f_word f_wrongAt f_badAt f_bad a_told f_read f_side a_pile f_piled a_open f_opened f_joins f_had a_size a_capped a_connected a_bestCost a_bestCrosses a_bestPart a_part a_trees f_treeMany a_nodes f_nodeMany f_moveNode f_movePart f_moveFirst f_moveThen f_moveOther a_out f_outMany a_kept), (a_all, aI G 1276 g_all), (a_bestCost, aJ G 512 t2.1), (a_bestCrosses, aI G 512 t2.2.1), (a_bestPart, aI G 512 t2.2.2.1), (a_capped, aZ G 256 t2.2.2.2.1), (a_connected, aZ G 256 t2.2.2.2.2.1), (a_part, aI G 256 t4), (a_size, aJ G 256 t2.2.2.2.2.2)] := hD
    refine lv_aload_n hx hb d_R_cost_27 rfl (lv_at hl 0 rfl) ?_
    refine lv_aload_n hx hb d_R_cost_28 rfl (lv_at hl 0 rfl) ?_
    refine va_get (D := G.1) (ci := 12) (v := .ref a_all) (C := n_R) (T := T_R) (N := 44) hx hb htl iw_R hown hK hP 0 rfl rfl 1 (by decide) (htl _ k_1197) (fun _ h9 => h9) rfl d_R_cost_29 ?_
    refine lv_bipush (v := (59 : Int32)) hx hb d_R_cost_32 (by decide) ?_
    refine va_iald hx hb hK hP 1 1 rfl rfl (vp_lit (by decide)) d_R_cost_34 ?_
    obtain ⟨t6, hv7, hf⟩ := db_e hf
    refine call_l (isC := [0, 7, 8]) (run_V (As := [.int (g_all (59 : Int32).toNatClampNeg)]) (rest := []) (ci := 12) (q0 := 0) hx hb hml hown htl (c_R_costOfParts l G Y  h0 a_all a_text a_saved a_undone a_told a_pile a_open a_size a_capped a_connected a_bestCost a_bestCrosses a_bestPart a_part a_trees a_nodes a_out a_kept (0 : Int32) f_undos f_reached f_length f_begin f_sort f_sign f_value f_word f_wrongAt f_badAt f_bad f_read f_side f_piled f_opened f_joins f_had f_treeMany f_nodeMany f_moveNode f_movePart f_moveFirst f_moveThen f_moveOther f_outMany t4 t2.2.2.2.2.2 (g_all (59 : Int32).toNatClampNeg) N t6 hv7) mv_R_costOfParts k_1590 (hRk (by decide) (by decide)) hK hsk hS hP hD (isC := [0, 7, 8]) rfl (by decide) rfl rfl rfl hl.1 rfl (lv_room (Nat.le_of_ble_eq_true rfl)) d_R_cost_35) hP hD hS rfl rfl (fun H locs hP hD hS => ?_)
    have hP : va_P G.1 classes [(h0, O_R (0 : Int32) a_all a_text a_saved a_undone f_undos f_reached f_length f_begin f_sort f_sign f_value f_word f_wrongAt f_badAt f_bad a_told f_read f_side a_pile f_piled a_open f_opened f_joins f_had a_size a_capped a_connected a_bestCost a_bestCrosses a_bestPart a_part a_trees f_treeMany a_nodes f_nodeMany f_moveNode f_movePart f_moveFirst f_moveThen f_moveOther a_out f_outMany a_kept), (a_all, aI G 1276 g_all), (a_bestCost, aJ G 512 t2.1), (a_bestCrosses, aI G 512 t2.2.1), (a_bestPart, aI G 512 t2.2.2.1), (a_capped, aZ G 256 t2.2.2.2.1), (a_connected, aZ G 256 t2.2.2.2.2.1), (a_part, aI G 256 t4), (a_size, aJ G 256 t2.2.2.2.2.2)] H := hP
    have hD : va_D A [(h0, O_R (0 : Int32) a_all a_text a_saved a_undone f_undos f_reached f_length f_begin f_sort f_sign f_value f_word f_wrongAt f_badAt f_bad a_told f_read f_side a_pile f_piled a_open f_opened f_joins f_had a_size a_capped a_connected a_bestCost a_bestCrosses a_bestPart a_part a_trees f_treeMany a_nodes f_nodeMany f_moveNode f_movePart f_moveFirst f_moveThen f_moveOther a_out f_outMany a_kept), (a_all, aI G 1276 g_all), (a_bestCost, aJ G 512 t2.1), (a_bestCrosses, aI G 512 t2.2.1), (a_bestPart, aI G 512 t2.2.2.1), (a_capped, aZ G 256 t2.2.2.2.1), (a_connected, aZ G 256 t2.2.2.2.2.1), (a_part, aI G 256 t4), (a_size, aJ G 256 t2.2.2.2.2.2)] := hD
    cases hf
    exact hret 38 ls H locs hP hS d_R_cost_38
  · have hf := di_t c1 hf
    refine lv_ldc2 (v := (-1 : Int64)) hx hb hown (htl _ k_1639) d_R_cost_15 ?_
    cases hf
    exact hret 18 ls H locs hP hS d_R_cost_18
set_option maxHeartbeats 4000000 in
set_option maxRecDepth 100000 in
theorem c_R_says (l : Launch) (G : va_G × (Nat → ClassId)) (Y : (Nat → Nat) × (Nat → Nat)) (h0 : Nat) (a_all : Nat) (a_text : Nat) (a_saved : Nat) (a_undone : Nat) (a_told : Nat) (a_pile : Nat) (a_open : Nat) (a_size : Nat) (a_capped : Nat) (a_connected : Nat) (a_bestCost : Nat) (a_bestCrosses : Nat) (a_bestPart : Nat) (a_part : Nat) (a_trees : Nat) (a_nodes : Nat) (a_out : Nat) (a_kept : Nat) (f_raised : Int32) (f_undos : Int32) (f_reached : Int32) (f_length : Int32) (f_begin : Int32) (f_sort : Int32) (f_sign : Int32) (f_value : Int32) (f_word : Int64) (f_wrongAt : Int32) (f_badAt : Int32) (f_bad : Int32) (f_read : Int32) (f_side : Int32) (f_piled : Int32) (f_opened : Int32) (f_joins : Int32) (f_had : Int32) (f_treeMany : Int32) (f_nodeMany : Int32) (f_moveNode : Int32) (f_movePart : Int32) (f_moveFirst : Int32) (f_moveThen : Int32) (f_moveOther : Int32) (f_outMany : Int32) (g_out : Nat → Int32) (x1 : Int32) (res : Int32 × (Nat → Int32)) (hf : R_says f_outMany g_out x1 = some res) : Cv l classes y_R_says b_R_says 2 none (rmk 0) G.1 (tyL G) Y [.ref h0, .int x1] [(h0, O_R f_raised a_all a_text a_saved a_undone f_undos f_reached f_length f_begin f_sort f_sign f_value f_word f_wrongAt f_badAt f_bad a_told f_read f_side a_pile f_piled a_open f_opened f_joins f_had a_size a_capped a_connected a_bestCost a_bestCrosses a_bestPart a_part a_trees f_treeMany a_nodes f_nodeMany f_moveNode f_movePart f_moveFirst f_moveThen f_moveOther a_out f_outMany a_kept), (a_out, aB G 80 g_out)] [(h0, O_R f_raised a_all a_text a_saved a_undone f_undos f_reached f_length f_begin f_sort f_sign f_value f_word f_wrongAt f_badAt f_bad a_told f_read f_side a_pile f_piled a_open f_opened f_joins f_had a_size a_capped a_connected a_bestCost a_bestCrosses a_bestPart a_part a_trees f_treeMany a_nodes f_nodeMany f_moveNode f_movePart f_moveFirst f_moveThen f_moveOther a_out res.1 a_kept), (a_out, aB G 80 res.2)] := by
  refine entV (by decide) (Nat.le_of_ble_eq_true rfl) ?_
  intro p e s m args below meth c ls A Q hx hb hml hown htl hK hsk wq hl hret
  obtain ⟨hP, hD, hS⟩ := wq
  have hl : lv_has ls 2 [(0, .ref h0), (1, .int x1)] := hl
  have hS : va_S A s.heap s.heap [] := hS
  obtain ⟨H, hH⟩ : ∃ H : Heap, H = s.heap := ⟨_, rfl⟩
  obtain ⟨locs, hlocs⟩ : ∃ z : List Loc, z = [] := ⟨_, rfl⟩
  rw [← hH] at hP
  replace hS : va_S A s.heap H locs := by rw [hH, hlocs]; exact hS
  suffices hgo : W p l e (rmk 0) s m args below meth c H locs 0 0 Q (F0 m 0 ls []) by rw [hH, hlocs] at hgo; exact hgo
  refine lv_aload_n hx hb d_R_says_0 rfl (lv_at hl 0 rfl) ?_
  refine va_get (D := G.1) (ci := 12) (v := .ref a_out) (C := n_R) (T := T_R) (N := 44) hx hb htl iw_R hown hK hP 0 rfl rfl 41 (by decide) (htl _ k_1237) (fun _ h9 => h9) rfl d_R_says_1 ?_
  refine lv_aload_n hx hb d_R_says_4 rfl (lv_at hl 0 rfl) ?_
  refine va_get (D := G.1) (ci := 12) (v := .int f_outMany) (C := n_R) (T := T_R) (N := 44) hx hb htl iw_R hown hK hP 0 rfl rfl 42 (by decide) (htl _ k_1238) (fun _ h9 => h9) rfl d_R_says_5 ?_
  refine lv_iload_n hx hb d_R_says_8 rfl (lv_at hl 1 rfl) ?_
  refine lv_i2b hx hb d_R_says_9 rfl ?_
  obtain ⟨c1, hf⟩ := dk_e hf
  refine nx_bast hx hb hK hP hD hS 1 0 rfl rfl c1 d_R_says_10 (fun v2 ev2 H locs hP hD hS => ?_)
  have hf := dn_e ev2 hf
  have hP : va_P G.1 classes [(h0, O_R f_raised a_all a_text a_saved a_undone f_undos f_reached f_length f_begin f_sort f_sign f_value f_word f_wrongAt f_badAt f_bad a_told f_read f_side a_pile f_piled a_open f_opened f_joins f_had a_size a_capped a_connected a_bestCost a_bestCrosses a_bestPart a_part a_trees f_treeMany a_nodes f_nodeMany f_moveNode f_movePart f_moveFirst f_moveThen f_moveOther a_out f_outMany a_kept), (a_out, aB G 80 v2)] H := hP
  have hD : va_D A [(h0, O_R f_raised a_all a_text a_saved a_undone f_undos f_reached f_length f_begin f_sort f_sign f_value f_word f_wrongAt f_badAt f_bad a_told f_read f_side a_pile f_piled a_open f_opened f_joins f_had a_size a_capped a_connected a_bestCost a_bestCrosses a_bestPart a_part a_trees f_treeMany a_nodes f_nodeMany f_moveNode f_movePart f_moveFirst f_moveThen f_moveOther a_out f_outMany a_kept), (a_out, aB G 80 v2)] := hD
  refine lv_aload_n hx hb d_R_says_11 rfl (lv_at hl 0 rfl) ?_
  refine lv_dup hx hb d_R_says_12 rfl ?_
  refine va_get (D := G.1) (ci := 12) (v := .int f_outMany) (C := n_R) (T := T_R) (N := 44) hx hb htl iw_R hown hK hP 0 rfl rfl 42 (by decide) (htl _ k_1238) (fun _ h9 => h9) rfl d_R_says_13 ?_
  refine lv_iconst (v := (1 : Int32)) hx hb d_R_says_16 (by decide) ?_
  refine lv_iadd hx hb d_R_says_17 ?_
  refine lv_topi (fun v3 ev3 => ?_)
  have hf := dn_e ev3 hf
  refine va_put (D := G.1) (ci := 12) (v := .int v3) (ty := .int) (C := n_R) (T := T_R) (N := 44) hx hb htl iw_R ty_R ty_R_ok nm_R hown hK hP hD hS 0 rfl rfl 42 (by decide) (htl _ k_1238) (fun _ h9 => h9) rfl (by decide +kernel) rfl rfl (Nat.le_of_ble_eq_true rfl) d_R_says_18 (fun H locs hP hD hS => ?_)
  have hP : va_P G.1 classes [(h0, O_R f_raised a_all a_text a_saved a_undone f_undos f_reached f_length f_begin f_sort f_sign f_value f_word f_wrongAt f_badAt f_bad a_told f_read f_side a_pile f_piled a_open f_opened f_joins f_had a_size a_capped a_connected a_bestCost a_bestCrosses a_bestPart a_part a_trees f_treeMany a_nodes f_nodeMany f_moveNode f_movePart f_moveFirst f_moveThen f_moveOther a_out v3 a_kept), (a_out, aB G 80 v2)] H := hP
  have hD : va_D A [(h0, O_R f_raised a_all a_text a_saved a_undone f_undos f_reached f_length f_begin f_sort f_sign f_value f_word f_wrongAt f_badAt f_bad a_told f_read f_side a_pile f_piled a_open f_opened f_joins f_had a_size a_capped a_connected a_bestCost a_bestCrosses a_bestPart a_part a_trees f_treeMany a_nodes f_nodeMany f_moveNode f_movePart f_moveFirst f_moveThen f_moveOther a_out v3 a_kept), (a_out, aB G 80 v2)] := hD
  cases hf
  exact hret 21 ls H locs hP hS d_R_says_21
set_option maxHeartbeats 4000000 in
set_option maxRecDepth 100000 in
theorem c_R_numberOf (l : Launch) (G : va_G × (Nat → ClassId)) (Y : (Nat → Nat) × (Nat → Nat)) (x0 : Int32) (N : Nat) (res : Int32) (hf : R_numberOf N x0 = some res) : Ci l classes y_R_numberOf b_R_numberOf 2 (some .int) (rmk 0) G.1 (tyL G) Y [.int x0] [] [] res := by
  refine entI (by decide) (Nat.le_of_ble_eq_true rfl) ?_
  intro p e s m args below meth c ls A Q hx hb hml hown htl hK hsk wq hl hret
  obtain ⟨hP, hD, hS⟩ := wq
  have hl : lv_has ls 2 [(0, .int x0)] := hl
  have hS : va_S A s.heap s.heap [] := hS
  obtain ⟨H, hH⟩ : ∃ H : Heap, H = s.heap := ⟨_, rfl⟩
  obtain ⟨locs, hlocs⟩ : ∃ z : List Loc, z = [] := ⟨_, rfl⟩
  rw [← hH] at hP
  replace hS : va_S A s.heap H locs := by rw [hH, hlocs]; exact hS
  suffices hgo : W p l e (rmk 0) s m args below meth c H locs 0 0 Q (F0 m 0 ls []) by rw [hH, hlocs] at hgo; exact hgo
  have hJ15 : ∀ (x1 : Int32) (H : Heap) (locs : List Loc) (ls : Array Slot), PDS G.1 classes A s [] H locs → lv_has ls 2 [(1, .int x1)] → R_numberOf_15 N x1 = some res → W p l e (rmk 0) s m args below meth c H locs 0 0 Q (F0 m 15 ls []) := by
    intro x1 H locs ls wq hl hf
    obtain ⟨hP, hD, hS⟩ := wq
    refine lv_iload_n hx hb d_R_numberOf_15 rfl (lv_at hl 0 rfl) ?_
    cases hf
    exact hret 16 ls H locs hP hS d_R_numberOf_16
  have hJ2 : ∀ (x1 : Int32) (H : Heap) (locs : List Loc) (ls : Array Slot), PDS G.1 classes A s [] H locs → lv_has ls 2 [(0, .int x0), (1, .int x1)] → R_numberOf_2 N x0 x1 = some res → W p l e (rmk 0) s m args below meth c H locs 0 0 Q (F0 m 2 ls []) := by
    intro x1 H locs ls wq hl hf
    obtain ⟨hP, hD, hS⟩ := wq
    obtain ⟨y2, hy2, hfo2⟩ := db_e hf
    have hL2 : ∀ (n : Nat) (x1 : Int32) (H : Heap) (locs : List Loc) (ls : Array Slot), lp (fun x => R_numberOf_b2 N x0 x) n x1 = some y2 → PDS G.1 classes A s [] H locs → lv_has ls 2 [(0, .int x0), (1, .int x1)] → W p l e (rmk 0) s m args below meth c H locs 0 0 Q (F0 m 2 ls []) := by
      intro n
      induction n with
      | zero =>
        intro x1 H locs ls hf
        exact lp_0 hf
      | succ n ih2 =>
        intro x1 H locs ls hf wq hl
        obtain ⟨hP, hD, hS⟩ := wq
        obtain ⟨r2, hf, hk2⟩ := lp_s hf
        have hf : R_numberOf_b2 N x0 x1 = some r2 := hf
        refine lv_iload_n hx hb d_R_numberOf_2 rfl (lv_at hl 0 rfl) ?_
        refine lv_iload_n hx hb d_R_numberOf_3 rfl (lv_at hl 1 rfl) ?_
        refine lv_ishr hx hb d_R_numberOf_4 ?_
        refine lv_iconst (v := (1 : Int32)) hx hb d_R_numberOf_5 (by decide) ?_
        refine lv_icmp_le (tgt := 15) hx hb d_R_numberOf_6 (by decide) (fun c1 => ?_) (fun c1 => ?_)
        · have hf := di_t c1 hf
          have hq2 := lpk_x hf hk2
          have hf := ex_y (f := fun y => R_numberOf_a2 N x0 y) hq2 hfo2
          have hf : R_numberOf_15 N x1 = some res := hf
          exact hJ15 x1 H locs ls ⟨hP, hD, hS⟩ (lv_sub hl [1] rfl) hf
        · have hf := di_f c1 hf
          obtain ⟨v2, ev2⟩ : ∃ z : Int32, z = x1 + (1 : Int32) := ⟨_, rfl⟩
          have hf := dn_e ev2 hf
          refine lv_iinc (v := v2) (lv' := [(1, .int v2), (0, .int x0)]) hx hb d_R_numberOf_9 hl (k := 1) rfl (by rw [ev2]; rfl) (by decide) rfl (fun ls hl => ?_)
          refine lv_goto (tgt := 2) hx hb d_R_numberOf_12 (by decide) ?_
          exact ih2 v2 H locs ls (lpk_i hf hk2) ⟨hP, hD, hS⟩ (lv_sub hl [1, 0] rfl)
    exact hL2 N x1 H locs ls hy2 ⟨hP, hD, hS⟩ hl
  refine lv_iconst (v := (0 : Int32)) hx hb d_R_numberOf_0 (by decide) ?_
  refine lv_istore_n (lv' := [(1, .int (0 : Int32)), (0, .int x0)]) hx hb d_R_numberOf_1 rfl hl (by decide) rfl (fun ls hl => ?_)
  exact hJ2 (0 : Int32) H locs ls ⟨hP, hD, hS⟩ (lv_sub hl [1, 0] rfl) hf
set_option maxHeartbeats 4000000 in
set_option maxRecDepth 100000 in
theorem c_R_tells (l : Launch) (G : va_G × (Nat → ClassId)) (Y : (Nat → Nat) × (Nat → Nat)) (h0 : Nat) (a_all : Nat) (a_text : Nat) (a_saved : Nat) (a_undone : Nat) (a_told : Nat) (a_pile : Nat) (a_open : Nat) (a_size : Nat) (a_capped : Nat) (a_connected : Nat) (a_bestCost : Nat) (a_bestCrosses : Nat) (a_bestPart : Nat) (a_part : Nat) (a_trees : Nat) (a_nodes : Nat) (a_out : Nat) (a_kept : Nat) (f_raised : Int32) (f_undos : Int32) (f_reached : Int32) (f_length : Int32) (f_begin : Int32) (f_sort : Int32) (f_sign : Int32) (f_value : Int32) (f_word : Int64) (f_wrongAt : Int32) (f_badAt : Int32) (f_bad : Int32) (f_read : Int32) (f_side : Int32) (f_piled : Int32) (f_opened : Int32) (f_joins : Int32) (f_had : Int32) (f_treeMany : Int32) (f_nodeMany : Int32) (f_moveNode : Int32) (f_movePart : Int32) (f_moveFirst : Int32) (f_moveThen : Int32) (f_moveOther : Int32) (f_outMany : Int32) (g_open : Nat → Int32) (g_out : Nat → Int32) (g_part : Nat → Int32) (x1 : Int32) (N : Nat) (res : Int32 × Int32 × (Nat → Int32) × (Nat → Int32)) (hf : R_tells N f_opened f_outMany g_open g_out g_part x1 = some res) : Cv l classes y_R_tells b_R_tells 3 none (rmk 1) G.1 (tyL G) Y [.ref h0, .int x1] [(h0, O_R f_raised a_all a_text a_saved a_undone f_undos f_reached f_length f_begin f_sort f_sign f_value f_word f_wrongAt f_badAt f_bad a_told f_read f_side a_pile f_piled a_open f_opened f_joins f_had a_size a_capped a_connected a_bestCost a_bestCrosses a_bestPart a_part a_trees f_treeMany a_nodes f_nodeMany f_moveNode f_movePart f_moveFirst f_moveThen f_moveOther a_out f_outMany a_kept), (a_open, aI G 502 g_open), (a_out, aB G 80 g_out), (a_part, aI G 256 g_part)] [(h0, O_R f_raised a_all a_text a_saved a_undone f_undos f_reached f_length f_begin f_sort f_sign f_value f_word f_wrongAt f_badAt f_bad a_told f_read f_side a_pile f_piled a_open res.1 f_joins f_had a_size a_capped a_connected a_bestCost a_bestCrosses a_bestPart a_part a_trees f_treeMany a_nodes f_nodeMany f_moveNode f_movePart f_moveFirst f_moveThen f_moveOther a_out res.2.1 a_kept), (a_open, aI G 502 res.2.2.1), (a_out, aB G 80 res.2.2.2), (a_part, aI G 256 g_part)] := by
  refine entV (by decide) (Nat.le_of_ble_eq_true rfl) ?_
  intro p e s m args below meth c ls A Q hx hb hml hown htl hK hsk wq hl hret
  obtain ⟨hP, hD, hS⟩ := wq
  have hl : lv_has ls 3 [(0, .ref h0), (1, .int x1)] := hl
  have hS : va_S A s.heap s.heap [] := hS
  obtain ⟨H, hH⟩ : ∃ H : Heap, H = s.heap := ⟨_, rfl⟩
  obtain ⟨locs, hlocs⟩ : ∃ z : List Loc, z = [] := ⟨_, rfl⟩
  rw [← hH] at hP
  replace hS : va_S A s.heap H locs := by rw [hH, hlocs]; exact hS
  suffices hgo : W p l e (rmk 1) s m args below meth c H locs 0 0 Q (F0 m 0 ls []) by rw [hH, hlocs] at hgo; exact hgo
  have hJ161 : ∀ (f_opened : Int32) (f_outMany : Int32) (g_open : Nat → Int32) (g_out : Nat → Int32) (H : Heap) (locs : List Loc) (ls : Array Slot), PDS G.1 classes A s [(h0, O_R f_raised a_all a_text a_saved a_undone f_undos f_reached f_length f_begin f_sort f_sign f_value f_word f_wrongAt f_badAt f_bad a_told f_read f_side a_pile f_piled a_open f_opened f_joins f_had a_size a_capped a_connected a_bestCost a_bestCrosses a_bestPart a_part a_trees f_treeMany a_nodes f_nodeMany f_moveNode f_movePart f_moveFirst f_moveThen f_moveOther a_out f_outMany a_kept), (a_open, aI G 502 g_open), (a_out, aB G 80 g_out), (a_part, aI G 256 g_part)] H locs → lv_has ls 3 [] → R_tells_161 N f_opened f_outMany g_open g_out g_part = some res → W p l e (rmk 1) s m args below meth c H locs 0 0 Q (F0 m 161 ls []) := by
    intro f_opened f_outMany g_open g_out H locs ls wq hl hf
    obtain ⟨hP, hD, hS⟩ := wq
    cases hf
    exact hret 161 ls H locs hP hS d_R_tells_161
  have hJ17 : ∀ (f_opened : Int32) (f_outMany : Int32) (g_open : Nat → Int32) (g_out : Nat → Int32) (H : Heap) (locs : List Loc) (ls : Array Slot), PDS G.1 classes A s [(h0, O_R f_raised a_all a_text a_saved a_undone f_undos f_reached f_length f_begin f_sort f_sign f_value f_word f_wrongAt f_badAt f_bad a_told f_read f_side a_pile f_piled a_open f_opened f_joins f_had a_size a_capped a_connected a_bestCost a_bestCrosses a_bestPart a_part a_trees f_treeMany a_nodes f_nodeMany f_moveNode f_movePart f_moveFirst f_moveThen f_moveOther a_out f_outMany a_kept), (a_open, aI G 502 g_open), (a_out, aB G 80 g_out), (a_part, aI G 256 g_part)] H locs → lv_has ls 3 [(0, .ref h0)] → R_tells_17 N f_opened f_outMany g_open g_out g_part = some res → W p l e (rmk 1) s m args below meth c H locs 0 0 Q (F0 m 17 ls []) := by
    intro f_opened f_outMany g_open g_out H locs ls wq hl hf
    obtain ⟨hP, hD, hS⟩ := wq
    obtain ⟨y17, hy17, hfo17⟩ := db_e hf
    have hL17 : ∀ (n : Nat) (f_opened : Int32) (f_outMany : Int32) (g_open : Nat → Int32) (g_out : Nat → Int32) (H : Heap) (locs : List Loc) (ls : Array Slot), lp (fun x => R_tells_b17 N x.1 x.2.1 x.2.2.1 x.2.2.2 g_part) n (f_opened, f_outMany, g_open, g_out) = some y17 → PDS G.1 classes A s [(h0, O_R f_raised a_all a_text a_saved a_undone f_undos f_reached f_length f_begin f_sort f_sign f_value f_word f_wrongAt f_badAt f_bad a_told f_read f_side a_pile f_piled a_open f_opened f_joins f_had a_size a_capped a_connected a_bestCost a_bestCrosses a_bestPart a_part a_trees f_treeMany a_nodes f_nodeMany f_moveNode f_movePart f_moveFirst f_moveThen f_moveOther a_out f_outMany a_kept), (a_open, aI G 502 g_open), (a_out, aB G 80 g_out), (a_part, aI G 256 g_part)] H locs → lv_has ls 3 [(0, .ref h0)] → W p l e (rmk 1) s m args below meth c H locs 0 0 Q (F0 m 17 ls []) := by
      intro n
      induction n with
      | zero =>
        intro f_opened f_outMany g_open g_out H locs ls hf
        exact lp_0 hf
      | succ n ih17 =>
        intro f_opened f_outMany g_open g_out H locs ls hf wq hl
        obtain ⟨hP, hD, hS⟩ := wq
        obtain ⟨r17, hf, hk17⟩ := lp_s hf
        have hf : R_tells_b17 N f_opened f_outMany g_open g_out g_part = some r17 := hf
        refine lv_aload_n hx hb d_R_tells_17 rfl (lv_at hl 0 rfl) ?_
        refine va_get (D := G.1) (ci := 12) (v := .int f_opened) (C := n_R) (T := T_R) (N := 44) hx hb htl iw_R hown hK hP 0 rfl rfl 22 (by decide) (htl _ k_1218) (fun _ h9 => h9) rfl d_R_tells_18 ?_
        refine lv_if_le (tgt := 161) hx hb d_R_tells_21 (by decide) (fun c2 => ?_) (fun c2 => ?_)
        · have hf := di_t c2 hf
          have hq17 := lpk_x hf hk17
          have hf := ex_y (f := fun y => R_tells_a17 N g_part y) hq17 hfo17
          have hf : R_tells_161 N f_opened f_outMany g_open g_out g_part = some res := hf
          exact hJ161 f_opened f_outMany g_open g_out H locs ls ⟨hP, hD, hS⟩ (lv_sub hl [] rfl) hf
        · have hf := di_f c2 hf
          refine lv_aload_n hx hb d_R_tells_24 rfl (lv_at hl 0 rfl) ?_
          refine lv_dup hx hb d_R_tells_25 rfl ?_
          refine va_get (D := G.1) (ci := 12) (v := .int f_opened) (C := n_R) (T := T_R) (N := 44) hx hb htl iw_R hown hK hP 0 rfl rfl 22 (by decide) (htl _ k_1218) (fun _ h9 => h9) rfl d_R_tells_26 ?_
          refine lv_iconst (v := (1 : Int32)) hx hb d_R_tells_29 (by decide) ?_
          refine lv_isub hx hb d_R_tells_30 ?_
          refine lv_topi (fun v3 ev3 => ?_)
          have hf := dn_e ev3 hf
          refine va_put (D := G.1) (ci := 12) (v := .int v3) (ty := .int) (C := n_R) (T := T_R) (N := 44) hx hb htl iw_R ty_R ty_R_ok nm_R hown hK hP hD hS 0 rfl rfl 22 (by decide) (htl _ k_1218) (fun _ h9 => h9) rfl (by decide +kernel) rfl rfl (Nat.le_of_ble_eq_true rfl) d_R_tells_31 (fun H locs hP hD hS => ?_)
          have hP : va_P G.1 classes [(h0, O_R f_raised a_all a_text a_saved a_undone f_undos f_reached f_length f_begin f_sort f_sign f_value f_word f_wrongAt f_badAt f_bad a_told f_read f_side a_pile f_piled a_open v3 f_joins f_had a_size a_capped a_connected a_bestCost a_bestCrosses a_bestPart a_part a_trees f_treeMany a_nodes f_nodeMany f_moveNode f_movePart f_moveFirst f_moveThen f_moveOther a_out f_outMany a_kept), (a_open, aI G 502 g_open), (a_out, aB G 80 g_out), (a_part, aI G 256 g_part)] H := hP
          have hD : va_D A [(h0, O_R f_raised a_all a_text a_saved a_undone f_undos f_reached f_length f_begin f_sort f_sign f_value f_word f_wrongAt f_badAt f_bad a_told f_read f_side a_pile f_piled a_open v3 f_joins f_had a_size a_capped a_connected a_bestCost a_bestCrosses a_bestPart a_part a_trees f_treeMany a_nodes f_nodeMany f_moveNode f_movePart f_moveFirst f_moveThen f_moveOther a_out f_outMany a_kept), (a_open, aI G 502 g_open), (a_out, aB G 80 g_out), (a_part, aI G 256 g_part)] := hD
          refine lv_aload_n hx hb d_R_tells_34 rfl (lv_at hl 0 rfl) ?_
          refine va_get (D := G.1) (ci := 12) (v := .ref a_open) (C := n_R) (T := T_R) (N := 44) hx hb htl iw_R hown hK hP 0 rfl rfl 21 (by decide) (htl _ k_1217) (fun _ h9 => h9) rfl d_R_tells_35 ?_
          refine lv_aload_n hx hb d_R_tells_38 rfl (lv_at hl 0 rfl) ?_
          refine va_get (D := G.1) (ci := 12) (v := .int v3) (C := n_R) (T := T_R) (N := 44) hx hb htl iw_R hown hK hP 0 rfl rfl 22 (by decide) (htl _ k_1218) (fun _ h9 => h9) rfl d_R_tells_39 ?_
          obtain ⟨c4, hf⟩ := dk_e hf
          refine va_iald hx hb hK hP 1 1 rfl rfl c4 d_R_tells_42 ?_
          refine lv_topi (fun v5 ev5 => ?_)
          have hf := dn_e ev5 hf
          refine lv_istore_n (lv' := [(2, .int v5), (0, .ref h0)]) hx hb d_R_tells_43 rfl hl (by decide) rfl (fun ls hl => ?_)
          refine lv_iload_n hx hb d_R_tells_44 rfl (lv_at hl 0 rfl) ?_
          refine lv_if_ge (tgt := 57) hx hb d_R_tells_45 (by decide) (fun c6 => ?_) (fun c6 => ?_)
          · have hf := di_t c6 hf
            refine lv_aload_n hx hb d_R_tells_57 rfl (lv_at hl 1 rfl) ?_
            refine va_get (D := G.1) (ci := 12) (v := .ref a_part) (C := n_R) (T := T_R) (N := 44) hx hb htl iw_R hown hK hP 0 rfl rfl 31 (by decide) (htl _ k_1227) (fun _ h9 => h9) rfl d_R_tells_58 ?_
            refine lv_iload_n hx hb d_R_tells_61 rfl (lv_at hl 0 rfl) ?_
            obtain ⟨c7, hf⟩ := dk_e hf
            refine va_iald hx hb hK hP 3 1 rfl rfl c7 d_R_tells_62 ?_
            refine lv_if_ne (tgt := 80) hx hb d_R_tells_63 (by decide) (fun c8 => ?_) (fun c8 => ?_)
            · have hf := di_f c8 hf
              refine lv_aload_n hx hb d_R_tells_80 rfl (lv_at hl 1 rfl) ?_
              refine lv_bipush (v := (40 : Int32)) hx hb d_R_tells_81 (by decide) ?_
              obtain ⟨t9, hv10, hf⟩ := db_e hf
              refine call_v (isC := [0, 2]) (run_V (As := [.int (40 : Int32)]) (rest := []) (ci := 12) (q0 := 0) hx hb hml hown htl (c_R_says l G Y  h0 a_all a_text a_saved a_undone a_told a_pile a_open a_size a_capped a_connected a_bestCost a_bestCrosses a_bestPart a_part a_trees a_nodes a_out a_kept f_raised f_undos f_reached f_length f_begin f_sort f_sign f_value f_word f_wrongAt f_badAt f_bad f_read f_side f_piled v3 f_joins f_had f_treeMany f_nodeMany f_moveNode f_movePart f_moveFirst f_moveThen f_moveOther f_outMany g_out (40 : Int32) t9 hv10) mv_R_says k_1677 (hRk (by decide) (by decide)) hK hsk hS hP hD (isC := [0, 2]) rfl (by decide) rfl rfl rfl hl.1 rfl (lv_room (Nat.le_of_ble_eq_true rfl)) d_R_tells_83) hP hD hS rfl rfl (fun H locs hP hD hS => ?_)
              have hP : va_P G.1 classes [(h0, O_R f_raised a_all a_text a_saved a_undone f_undos f_reached f_length f_begin f_sort f_sign f_value f_word f_wrongAt f_badAt f_bad a_told f_read f_side a_pile f_piled a_open v3 f_joins f_had a_size a_capped a_connected a_bestCost a_bestCrosses a_bestPart a_part a_trees f_treeMany a_nodes f_nodeMany f_moveNode f_movePart f_moveFirst f_moveThen f_moveOther a_out t9.1 a_kept), (a_open, aI G 502 g_open), (a_out, aB G 80 t9.2), (a_part, aI G 256 g_part)] H := hP
              have hD : va_D A [(h0, O_R f_raised a_all a_text a_saved a_undone f_undos f_reached f_length f_begin f_sort f_sign f_value f_word f_wrongAt f_badAt f_bad a_told f_read f_side a_pile f_piled a_open v3 f_joins f_had a_size a_capped a_connected a_bestCost a_bestCrosses a_bestPart a_part a_trees f_treeMany a_nodes f_nodeMany f_moveNode f_movePart f_moveFirst f_moveThen f_moveOther a_out t9.1 a_kept), (a_open, aI G 502 g_open), (a_out, aB G 80 t9.2), (a_part, aI G 256 g_part)] := hD
              refine lv_aload_n hx hb d_R_tells_86 rfl (lv_at hl 1 rfl) ?_
              refine va_get (D := G.1) (ci := 12) (v := .ref a_open) (C := n_R) (T := T_R) (N := 44) hx hb htl iw_R hown hK hP 0 rfl rfl 21 (by decide) (htl _ k_1217) (fun _ h9 => h9) rfl d_R_tells_87 ?_
              refine lv_aload_n hx hb d_R_tells_90 rfl (lv_at hl 1 rfl) ?_
              refine va_get (D := G.1) (ci := 12) (v := .int v3) (C := n_R) (T := T_R) (N := 44) hx hb htl iw_R hown hK hP 0 rfl rfl 22 (by decide) (htl _ k_1218) (fun _ h9 => h9) rfl d_R_tells_91 ?_
              refine lv_bipush (v := (-41 : Int32)) hx hb d_R_tells_94 (by decide) ?_
              refine nx_iast hx hb hK hP hD hS 1 1 rfl rfl c4 d_R_tells_96 (fun v11 ev11 H locs hP hD hS => ?_)
              have hf := dn_e ev11 hf
              have hP : va_P G.1 classes [(h0, O_R f_raised a_all a_text a_saved a_undone f_undos f_reached f_length f_begin f_sort f_sign f_value f_word f_wrongAt f_badAt f_bad a_told f_read f_side a_pile f_piled a_open v3 f_joins f_had a_size a_capped a_connected a_bestCost a_bestCrosses a_bestPart a_part a_trees f_treeMany a_nodes f_nodeMany f_moveNode f_movePart f_moveFirst f_moveThen f_moveOther a_out t9.1 a_kept), (a_open, aI G 502 v11), (a_out, aB G 80 t9.2), (a_part, aI G 256 g_part)] H := hP
              have hD : va_D A [(h0, O_R f_raised a_all a_text a_saved a_undone f_undos f_reached f_length f_begin f_sort f_sign f_value f_word f_wrongAt f_badAt f_bad a_told f_read f_side a_pile f_piled a_open v3 f_joins f_had a_size a_capped a_connected a_bestCost a_bestCrosses a_bestPart a_part a_trees f_treeMany a_nodes f_nodeMany f_moveNode f_movePart f_moveFirst f_moveThen f_moveOther a_out t9.1 a_kept), (a_open, aI G 502 v11), (a_out, aB G 80 t9.2), (a_part, aI G 256 g_part)] := hD
              refine lv_aload_n hx hb d_R_tells_97 rfl (lv_at hl 1 rfl) ?_
              refine va_get (D := G.1) (ci := 12) (v := .ref a_open) (C := n_R) (T := T_R) (N := 44) hx hb htl iw_R hown hK hP 0 rfl rfl 21 (by decide) (htl _ k_1217) (fun _ h9 => h9) rfl d_R_tells_98 ?_
              refine lv_aload_n hx hb d_R_tells_101 rfl (lv_at hl 1 rfl) ?_
              refine va_get (D := G.1) (ci := 12) (v := .int v3) (C := n_R) (T := T_R) (N := 44) hx hb htl iw_R hown hK hP 0 rfl rfl 22 (by decide) (htl _ k_1218) (fun _ h9 => h9) rfl d_R_tells_102 ?_
              refine lv_iconst (v := (1 : Int32)) hx hb d_R_tells_105 (by decide) ?_
              refine lv_iadd hx hb d_R_tells_106 ?_
              refine lv_iload_n hx hb d_R_tells_107 rfl (lv_at hl 0 rfl) ?_
              refine lv_aload_n hx hb d_R_tells_108 rfl (lv_at hl 1 rfl) ?_
              refine va_get (D := G.1) (ci := 12) (v := .ref a_part) (C := n_R) (T := T_R) (N := 44) hx hb htl iw_R hown hK hP 0 rfl rfl 31 (by decide) (htl _ k_1227) (fun _ h9 => h9) rfl d_R_tells_109 ?_
              refine lv_iload_n hx hb d_R_tells_112 rfl (lv_at hl 0 rfl) ?_
              refine va_iald hx hb hK hP 3 1 rfl rfl c7 d_R_tells_113 ?_
              refine lv_iconst (v := (-1 : Int32)) hx hb d_R_tells_114 (by decide) ?_
              refine lv_ixor hx hb d_R_tells_115 ?_
              refine lv_iand hx hb d_R_tells_116 ?_
              obtain ⟨c12, hf⟩ := dk_e hf
              refine nx_iast hx hb hK hP hD hS 1 1 rfl rfl c12 d_R_tells_117 (fun v13 ev13 H locs hP hD hS => ?_)
              have hf := dn_e ev13 hf
              have hP : va_P G.1 classes [(h0, O_R f_raised a_all a_text a_saved a_undone f_undos f_reached f_length f_begin f_sort f_sign f_value f_word f_wrongAt f_badAt f_bad a_told f_read f_side a_pile f_piled a_open v3 f_joins f_had a_size a_capped a_connected a_bestCost a_bestCrosses a_bestPart a_part a_trees f_treeMany a_nodes f_nodeMany f_moveNode f_movePart f_moveFirst f_moveThen f_moveOther a_out t9.1 a_kept), (a_open, aI G 502 v13), (a_out, aB G 80 t9.2), (a_part, aI G 256 g_part)] H := hP
              have hD : va_D A [(h0, O_R f_raised a_all a_text a_saved a_undone f_undos f_reached f_length f_begin f_sort f_sign f_value f_word f_wrongAt f_badAt f_bad a_told f_read f_side a_pile f_piled a_open v3 f_joins f_had a_size a_capped a_connected a_bestCost a_bestCrosses a_bestPart a_part a_trees f_treeMany a_nodes f_nodeMany f_moveNode f_movePart f_moveFirst f_moveThen f_moveOther a_out t9.1 a_kept), (a_open, aI G 502 v13), (a_out, aB G 80 t9.2), (a_part, aI G 256 g_part)] := hD
              refine lv_aload_n hx hb d_R_tells_118 rfl (lv_at hl 1 rfl) ?_
              refine va_get (D := G.1) (ci := 12) (v := .ref a_open) (C := n_R) (T := T_R) (N := 44) hx hb htl iw_R hown hK hP 0 rfl rfl 21 (by decide) (htl _ k_1217) (fun _ h9 => h9) rfl d_R_tells_119 ?_
              refine lv_aload_n hx hb d_R_tells_122 rfl (lv_at hl 1 rfl) ?_
              refine va_get (D := G.1) (ci := 12) (v := .int v3) (C := n_R) (T := T_R) (N := 44) hx hb htl iw_R hown hK hP 0 rfl rfl 22 (by decide) (htl _ k_1218) (fun _ h9 => h9) rfl d_R_tells_123 ?_
              refine lv_iconst (v := (2 : Int32)) hx hb d_R_tells_126 (by decide) ?_
              refine lv_iadd hx hb d_R_tells_127 ?_
              refine lv_bipush (v := (-32 : Int32)) hx hb d_R_tells_128 (by decide) ?_
              obtain ⟨c14, hf⟩ := dk_e hf
              refine nx_iast hx hb hK hP hD hS 1 1 rfl rfl c14 d_R_tells_130 (fun v15 ev15 H locs hP hD hS => ?_)
              have hf := dn_e ev15 hf
              have hP : va_P G.1 classes [(h0, O_R f_raised a_all a_text a_saved a_undone f_undos f_reached f_length f_begin f_sort f_sign f_value f_word f_wrongAt f_badAt f_bad a_told f_read f_side a_pile f_piled a_open v3 f_joins f_had a_size a_capped a_connected a_bestCost a_bestCrosses a_bestPart a_part a_trees f_treeMany a_nodes f_nodeMany f_moveNode f_movePart f_moveFirst f_moveThen f_moveOther a_out t9.1 a_kept), (a_open, aI G 502 v15), (a_out, aB G 80 t9.2), (a_part, aI G 256 g_part)] H := hP
              have hD : va_D A [(h0, O_R f_raised a_all a_text a_saved a_undone f_undos f_reached f_length f_begin f_sort f_sign f_value f_word f_wrongAt f_badAt f_bad a_told f_read f_side a_pile f_piled a_open v3 f_joins f_had a_size a_capped a_connected a_bestCost a_bestCrosses a_bestPart a_part a_trees f_treeMany a_nodes f_nodeMany f_moveNode f_movePart f_moveFirst f_moveThen f_moveOther a_out t9.1 a_kept), (a_open, aI G 502 v15), (a_out, aB G 80 t9.2), (a_part, aI G 256 g_part)] := hD
              refine lv_aload_n hx hb d_R_tells_131 rfl (lv_at hl 1 rfl) ?_
              refine va_get (D := G.1) (ci := 12) (v := .ref a_open) (C := n_R) (T := T_R) (N := 44) hx hb htl iw_R hown hK hP 0 rfl rfl 21 (by decide) (htl _ k_1217) (fun _ h9 => h9) rfl d_R_tells_132 ?_
              refine lv_aload_n hx hb d_R_tells_135 rfl (lv_at hl 1 rfl) ?_
              refine va_get (D := G.1) (ci := 12) (v := .int v3) (C := n_R) (T := T_R) (N := 44) hx hb htl iw_R hown hK hP 0 rfl rfl 22 (by decide) (htl _ k_1218) (fun _ h9 => h9) rfl d_R_tells_136 ?_
              refine lv_iconst (v := (3 : Int32)) hx hb d_R_tells_139 (by decide) ?_
              refine lv_iadd hx hb d_R_tells_140 ?_
              refine lv_aload_n hx hb d_R_tells_141 rfl (lv_at hl 1 rfl) ?_
              refine va_get (D := G.1) (ci := 12) (v := .ref a_part) (C := n_R) (T := T_R) (N := 44) hx hb htl iw_R hown hK hP 0 rfl rfl 31 (by decide) (htl _ k_1227) (fun _ h9 => h9) rfl d_R_tells_142 ?_
              refine lv_iload_n hx hb d_R_tells_145 rfl (lv_at hl 0 rfl) ?_
              refine va_iald hx hb hK hP 3 1 rfl rfl c7 d_R_tells_146 ?_
              obtain ⟨c16, hf⟩ := dk_e hf
              refine nx_iast hx hb hK hP hD hS 1 1 rfl rfl c16 d_R_tells_147 (fun v17 ev17 H locs hP hD hS => ?_)
              have hf := dn_e ev17 hf
              have hP : va_P G.1 classes [(h0, O_R f_raised a_all a_text a_saved a_undone f_undos f_reached f_length f_begin f_sort f_sign f_value f_word f_wrongAt f_badAt f_bad a_told f_read f_side a_pile f_piled a_open v3 f_joins f_had a_size a_capped a_connected a_bestCost a_bestCrosses a_bestPart a_part a_trees f_treeMany a_nodes f_nodeMany f_moveNode f_movePart f_moveFirst f_moveThen f_moveOther a_out t9.1 a_kept), (a_open, aI G 502 v17), (a_out, aB G 80 t9.2), (a_part, aI G 256 g_part)] H := hP
              have hD : va_D A [(h0, O_R f_raised a_all a_text a_saved a_undone f_undos f_reached f_length f_begin f_sort f_sign f_value f_word f_wrongAt f_badAt f_bad a_told f_read f_side a_pile f_piled a_open v3 f_joins f_had a_size a_capped a_connected a_bestCost a_bestCrosses a_bestPart a_part a_trees f_treeMany a_nodes f_nodeMany f_moveNode f_movePart f_moveFirst f_moveThen f_moveOther a_out t9.1 a_kept), (a_open, aI G 502 v17), (a_out, aB G 80 t9.2), (a_part, aI G 256 g_part)] := hD
              refine lv_aload_n hx hb d_R_tells_148 rfl (lv_at hl 1 rfl) ?_
              refine lv_dup hx hb d_R_tells_149 rfl ?_
              refine va_get (D := G.1) (ci := 12) (v := .int v3) (C := n_R) (T := T_R) (N := 44) hx hb htl iw_R hown hK hP 0 rfl rfl 22 (by decide) (htl _ k_1218) (fun _ h9 => h9) rfl d_R_tells_150 ?_
              refine lv_iconst (v := (4 : Int32)) hx hb d_R_tells_153 (by decide) ?_
              refine lv_iadd hx hb d_R_tells_154 ?_
              refine lv_topi (fun v18 ev18 => ?_)
              have hf := dn_e ev18 hf
              refine va_put (D := G.1) (ci := 12) (v := .int v18) (ty := .int) (C := n_R) (T := T_R) (N := 44) hx hb htl iw_R ty_R ty_R_ok nm_R hown hK hP hD hS 0 rfl rfl 22 (by decide) (htl _ k_1218) (fun _ h9 => h9) rfl (by decide +kernel) rfl rfl (Nat.le_of_ble_eq_true rfl) d_R_tells_155 (fun H locs hP hD hS => ?_)
              have hP : va_P G.1 classes [(h0, O_R f_raised a_all a_text a_saved a_undone f_undos f_reached f_length f_begin f_sort f_sign f_value f_word f_wrongAt f_badAt f_bad a_told f_read f_side a_pile f_piled a_open v18 f_joins f_had a_size a_capped a_connected a_bestCost a_bestCrosses a_bestPart a_part a_trees f_treeMany a_nodes f_nodeMany f_moveNode f_movePart f_moveFirst f_moveThen f_moveOther a_out t9.1 a_kept), (a_open, aI G 502 v17), (a_out, aB G 80 t9.2), (a_part, aI G 256 g_part)] H := hP
              have hD : va_D A [(h0, O_R f_raised a_all a_text a_saved a_undone f_undos f_reached f_length f_begin f_sort f_sign f_value f_word f_wrongAt f_badAt f_bad a_told f_read f_side a_pile f_piled a_open v18 f_joins f_had a_size a_capped a_connected a_bestCost a_bestCrosses a_bestPart a_part a_trees f_treeMany a_nodes f_nodeMany f_moveNode f_movePart f_moveFirst f_moveThen f_moveOther a_out t9.1 a_kept), (a_open, aI G 502 v17), (a_out, aB G 80 t9.2), (a_part, aI G 256 g_part)] := hD
              refine lv_goto (tgt := 17) hx hb d_R_tells_158 (by decide) ?_
              exact ih17 v18 t9.1 v17 t9.2 H locs ls (lpk_i hf hk17) ⟨hP, hD, hS⟩ (lv_sub hl [1] rfl)
            · have hf := di_t c8 hf
              refine lv_aload_n hx hb d_R_tells_66 rfl (lv_at hl 1 rfl) ?_
              refine lv_bipush (v := (48 : Int32)) hx hb d_R_tells_67 (by decide) ?_
              refine lv_iload_n hx hb d_R_tells_69 rfl (lv_at hl 0 rfl) ?_
              obtain ⟨t19, hv20, hf⟩ := db_e hf
              refine call_i (isC := []) (run_S (As := [.int v5]) (rest := [.int (48 : Int32), .ref h0]) hx hb hml hown htl (c_R_numberOf l G Y  v5 N t19 hv20) ms_R_numberOf k_1681 (hRk (by decide) (by decide)) hK hsk hS hP hD (isC := []) rfl (by decide) rfl hl.1 rfl (lv_room (Nat.le_of_ble_eq_true rfl)) d_R_tells_70) hP hD hS rfl rfl (fun H locs hP hD hS => ?_)
              have hP : va_P G.1 classes [(h0, O_R f_raised a_all a_text a_saved a_undone f_undos f_reached f_length f_begin f_sort f_sign f_value f_word f_wrongAt f_badAt f_bad a_told f_read f_side a_pile f_piled a_open v3 f_joins f_had a_size a_capped a_connected a_bestCost a_bestCrosses a_bestPart a_part a_trees f_treeMany a_nodes f_nodeMany f_moveNode f_movePart f_moveFirst f_moveThen f_moveOther a_out f_outMany a_kept), (a_open, aI G 502 g_open), (a_out, aB G 80 g_out), (a_part, aI G 256 g_part)] H := hP
              have hD : va_D A [(h0, O_R f_raised a_all a_text a_saved a_undone f_undos f_reached f_length f_begin f_sort f_sign f_value f_word f_wrongAt f_badAt f_bad a_told f_read f_side a_pile f_piled a_open v3 f_joins f_had a_size a_capped a_connected a_bestCost a_bestCrosses a_bestPart a_part a_trees f_treeMany a_nodes f_nodeMany f_moveNode f_movePart f_moveFirst f_moveThen f_moveOther a_out f_outMany a_kept), (a_open, aI G 502 g_open), (a_out, aB G 80 g_out), (a_part, aI G 256 g_part)] := hD
              refine lv_iadd hx hb d_R_tells_73 ?_
              obtain ⟨t21, hv22, hf⟩ := db_e hf
              refine call_v (isC := [0, 2]) (run_V (As := [.int ((48 : Int32) + t19)]) (rest := []) (ci := 12) (q0 := 0) hx hb hml hown htl (c_R_says l G Y  h0 a_all a_text a_saved a_undone a_told a_pile a_open a_size a_capped a_connected a_bestCost a_bestCrosses a_bestPart a_part a_trees a_nodes a_out a_kept f_raised f_undos f_reached f_length f_begin f_sort f_sign f_value f_word f_wrongAt f_badAt f_bad f_read f_side f_piled v3 f_joins f_had f_treeMany f_nodeMany f_moveNode f_movePart f_moveFirst f_moveThen f_moveOther f_outMany g_out ((48 : Int32) + t19) t21 hv22) mv_R_says k_1677 (hRk (by decide) (by decide)) hK hsk hS hP hD (isC := [0, 2]) rfl (by decide) rfl rfl rfl hl.1 rfl (lv_room (Nat.le_of_ble_eq_true rfl)) d_R_tells_74) hP hD hS rfl rfl (fun H locs hP hD hS => ?_)
              have hP : va_P G.1 classes [(h0, O_R f_raised a_all a_text a_saved a_undone f_undos f_reached f_length f_begin f_sort f_sign f_value f_word f_wrongAt f_badAt f_bad a_told f_read f_side a_pile f_piled a_open v3 f_joins f_had a_size a_capped a_connected a_bestCost a_bestCrosses a_bestPart a_part a_trees f_treeMany a_nodes f_nodeMany f_moveNode f_movePart f_moveFirst f_moveThen f_moveOther a_out t21.1 a_kept), (a_open, aI G 502 g_open), (a_out, aB G 80 t21.2), (a_part, aI G 256 g_part)] H := hP
              have hD : va_D A [(h0, O_R f_raised a_all a_text a_saved a_undone f_undos f_reached f_length f_begin f_sort f_sign f_value f_word f_wrongAt f_badAt f_bad a_told f_read f_side a_pile f_piled a_open v3 f_joins f_had a_size a_capped a_connected a_bestCost a_bestCrosses a_bestPart a_part a_trees f_treeMany a_nodes f_nodeMany f_moveNode f_movePart f_moveFirst f_moveThen f_moveOther a_out t21.1 a_kept), (a_open, aI G 502 g_open), (a_out, aB G 80 t21.2), (a_part, aI G 256 g_part)] := hD
              refine lv_goto (tgt := 158) hx hb d_R_tells_77 (by decide) ?_
              refine lv_goto (tgt := 17) hx hb d_R_tells_158 (by decide) ?_
              exact ih17 v3 t21.1 g_open t21.2 H locs ls (lpk_i hf hk17) ⟨hP, hD, hS⟩ (lv_sub hl [1] rfl)
          · have hf := di_f c6 hf
            refine lv_aload_n hx hb d_R_tells_48 rfl (lv_at hl 1 rfl) ?_
            refine lv_iload_n hx hb d_R_tells_49 rfl (lv_at hl 0 rfl) ?_
            refine lv_ineg hx hb d_R_tells_50 ?_
            obtain ⟨t23, hv24, hf⟩ := db_e hf
            refine call_v (isC := [0, 2]) (run_V (As := [.int (-v5)]) (rest := []) (ci := 12) (q0 := 0) hx hb hml hown htl (c_R_says l G Y  h0 a_all a_text a_saved a_undone a_told a_pile a_open a_size a_capped a_connected a_bestCost a_bestCrosses a_bestPart a_part a_trees a_nodes a_out a_kept f_raised f_undos f_reached f_length f_begin f_sort f_sign f_value f_word f_wrongAt f_badAt f_bad f_read f_side f_piled v3 f_joins f_had f_treeMany f_nodeMany f_moveNode f_movePart f_moveFirst f_moveThen f_moveOther f_outMany g_out (-v5) t23 hv24) mv_R_says k_1677 (hRk (by decide) (by decide)) hK hsk hS hP hD (isC := [0, 2]) rfl (by decide) rfl rfl rfl hl.1 rfl (lv_room (Nat.le_of_ble_eq_true rfl)) d_R_tells_51) hP hD hS rfl rfl (fun H locs hP hD hS => ?_)
            have hP : va_P G.1 classes [(h0, O_R f_raised a_all a_text a_saved a_undone f_undos f_reached f_length f_begin f_sort f_sign f_value f_word f_wrongAt f_badAt f_bad a_told f_read f_side a_pile f_piled a_open v3 f_joins f_had a_size a_capped a_connected a_bestCost a_bestCrosses a_bestPart a_part a_trees f_treeMany a_nodes f_nodeMany f_moveNode f_movePart f_moveFirst f_moveThen f_moveOther a_out t23.1 a_kept), (a_open, aI G 502 g_open), (a_out, aB G 80 t23.2), (a_part, aI G 256 g_part)] H := hP
            have hD : va_D A [(h0, O_R f_raised a_all a_text a_saved a_undone f_undos f_reached f_length f_begin f_sort f_sign f_value f_word f_wrongAt f_badAt f_bad a_told f_read f_side a_pile f_piled a_open v3 f_joins f_had a_size a_capped a_connected a_bestCost a_bestCrosses a_bestPart a_part a_trees f_treeMany a_nodes f_nodeMany f_moveNode f_movePart f_moveFirst f_moveThen f_moveOther a_out t23.1 a_kept), (a_open, aI G 502 g_open), (a_out, aB G 80 t23.2), (a_part, aI G 256 g_part)] := hD
            refine lv_goto (tgt := 158) hx hb d_R_tells_54 (by decide) ?_
            refine lv_goto (tgt := 17) hx hb d_R_tells_158 (by decide) ?_
            exact ih17 v3 t23.1 g_open t23.2 H locs ls (lpk_i hf hk17) ⟨hP, hD, hS⟩ (lv_sub hl [1] rfl)
    exact hL17 N f_opened f_outMany g_open g_out H locs ls hy17 ⟨hP, hD, hS⟩ hl
  refine lv_aload_n hx hb d_R_tells_0 rfl (lv_at hl 0 rfl) ?_
  refine lv_iconst (v := (0 : Int32)) hx hb d_R_tells_1 (by decide) ?_
  refine va_put (D := G.1) (ci := 12) (v := .int (0 : Int32)) (ty := .int) (C := n_R) (T := T_R) (N := 44) hx hb htl iw_R ty_R ty_R_ok nm_R hown hK hP hD hS 0 rfl rfl 42 (by decide) (htl _ k_1238) (fun _ h9 => h9) rfl (by decide +kernel) rfl rfl (Nat.le_of_ble_eq_true rfl) d_R_tells_2 (fun H locs hP hD hS => ?_)
  have hP : va_P G.1 classes [(h0, O_R f_raised a_all a_text a_saved a_undone f_undos f_reached f_length f_begin f_sort f_sign f_value f_word f_wrongAt f_badAt f_bad a_told f_read f_side a_pile f_piled a_open f_opened f_joins f_had a_size a_capped a_connected a_bestCost a_bestCrosses a_bestPart a_part a_trees f_treeMany a_nodes f_nodeMany f_moveNode f_movePart f_moveFirst f_moveThen f_moveOther a_out (0 : Int32) a_kept), (a_open, aI G 502 g_open), (a_out, aB G 80 g_out), (a_part, aI G 256 g_part)] H := hP
  have hD : va_D A [(h0, O_R f_raised a_all a_text a_saved a_undone f_undos f_reached f_length f_begin f_sort f_sign f_value f_word f_wrongAt f_badAt f_bad a_told f_read f_side a_pile f_piled a_open f_opened f_joins f_had a_size a_capped a_connected a_bestCost a_bestCrosses a_bestPart a_part a_trees f_treeMany a_nodes f_nodeMany f_moveNode f_movePart f_moveFirst f_moveThen f_moveOther a_out (0 : Int32) a_kept), (a_open, aI G 502 g_open), (a_out, aB G 80 g_out), (a_part, aI G 256 g_part)] := hD
  refine lv_aload_n hx hb d_R_tells_5 rfl (lv_at hl 0 rfl) ?_
  refine lv_iconst (v := (1 : Int32)) hx hb d_R_tells_6 (by decide) ?_
  refine va_put (D := G.1) (ci := 12) (v := .int (1 : Int32)) (ty := .int) (C := n_R) (T := T_R) (N := 44) hx hb htl iw_R ty_R ty_R_ok nm_R hown hK hP hD hS 0 rfl rfl 22 (by decide) (htl _ k_1218) (fun _ h9 => h9) rfl (by decide +kernel) rfl rfl (Nat.le_of_ble_eq_true rfl) d_R_tells_7 (fun H locs hP hD hS => ?_)
  have hP : va_P G.1 classes [(h0, O_R f_raised a_all a_text a_saved a_undone f_undos f_reached f_length f_begin f_sort f_sign f_value f_word f_wrongAt f_badAt f_bad a_told f_read f_side a_pile f_piled a_open (1 : Int32) f_joins f_had a_size a_capped a_connected a_bestCost a_bestCrosses a_bestPart a_part a_trees f_treeMany a_nodes f_nodeMany f_moveNode f_movePart f_moveFirst f_moveThen f_moveOther a_out (0 : Int32) a_kept), (a_open, aI G 502 g_open), (a_out, aB G 80 g_out), (a_part, aI G 256 g_part)] H := hP
  have hD : va_D A [(h0, O_R f_raised a_all a_text a_saved a_undone f_undos f_reached f_length f_begin f_sort f_sign f_value f_word f_wrongAt f_badAt f_bad a_told f_read f_side a_pile f_piled a_open (1 : Int32) f_joins f_had a_size a_capped a_connected a_bestCost a_bestCrosses a_bestPart a_part a_trees f_treeMany a_nodes f_nodeMany f_moveNode f_movePart f_moveFirst f_moveThen f_moveOther a_out (0 : Int32) a_kept), (a_open, aI G 502 g_open), (a_out, aB G 80 g_out), (a_part, aI G 256 g_part)] := hD
  refine lv_aload_n hx hb d_R_tells_10 rfl (lv_at hl 0 rfl) ?_
  refine va_get (D := G.1) (ci := 12) (v := .ref a_open) (C := n_R) (T := T_R) (N := 44) hx hb htl iw_R hown hK hP 0 rfl rfl 21 (by decide) (htl _ k_1217) (fun _ h9 => h9) rfl d_R_tells_11 ?_
  refine lv_iconst (v := (0 : Int32)) hx hb d_R_tells_14 (by decide) ?_
  refine lv_iload_n hx hb d_R_tells_15 rfl (lv_at hl 1 rfl) ?_
  refine nx_iast hx hb hK hP hD hS 1 1 rfl rfl (vp_lit (by decide)) d_R_tells_16 (fun v1 ev1 H locs hP hD hS => ?_)
  have hf := dn_e ev1 hf
  have hP : va_P G.1 classes [(h0, O_R f_raised a_all a_text a_saved a_undone f_undos f_reached f_length f_begin f_sort f_sign f_value f_word f_wrongAt f_badAt f_bad a_told f_read f_side a_pile f_piled a_open (1 : Int32) f_joins f_had a_size a_capped a_connected a_bestCost a_bestCrosses a_bestPart a_part a_trees f_treeMany a_nodes f_nodeMany f_moveNode f_movePart f_moveFirst f_moveThen f_moveOther a_out (0 : Int32) a_kept), (a_open, aI G 502 v1), (a_out, aB G 80 g_out), (a_part, aI G 256 g_part)] H := hP
  have hD : va_D A [(h0, O_R f_raised a_all a_text a_saved a_undone f_undos f_reached f_length f_begin f_sort f_sign f_value f_word f_wrongAt f_badAt f_bad a_told f_read f_side a_pile f_piled a_open (1 : Int32) f_joins f_had a_size a_capped a_connected a_bestCost a_bestCrosses a_bestPart a_part a_trees f_treeMany a_nodes f_nodeMany f_moveNode f_movePart f_moveFirst f_moveThen f_moveOther a_out (0 : Int32) a_kept), (a_open, aI G 502 v1), (a_out, aB G 80 g_out), (a_part, aI G 256 g_part)] := hD
  exact hJ17 (1 : Int32) (0 : Int32) v1 g_out H locs ls ⟨hP, hD, hS⟩ (lv_sub hl [0] rfl) hf
set_option maxHeartbeats 4000000 in
set_option maxRecDepth 100000 in
theorem c_R_told (l : Launch) (G : va_G × (Nat → ClassId)) (Y : (Nat → Nat) × (Nat → Nat)) (h0 : Nat) (a_all : Nat) (a_text : Nat) (a_saved : Nat) (a_undone : Nat) (a_told : Nat) (a_pile : Nat) (a_open : Nat) (a_size : Nat) (a_capped : Nat) (a_connected : Nat) (a_bestCost : Nat) (a_bestCrosses : Nat) (a_bestPart : Nat) (a_part : Nat) (a_trees : Nat) (a_nodes : Nat) (a_out : Nat) (a_kept : Nat) (f_raised : Int32) (f_undos : Int32) (f_reached : Int32) (f_length : Int32) (f_begin : Int32) (f_sort : Int32) (f_sign : Int32) (f_value : Int32) (f_word : Int64) (f_wrongAt : Int32) (f_badAt : Int32) (f_bad : Int32) (f_read : Int32) (f_side : Int32) (f_piled : Int32) (f_opened : Int32) (f_joins : Int32) (f_had : Int32) (f_treeMany : Int32) (f_nodeMany : Int32) (f_moveNode : Int32) (f_movePart : Int32) (f_moveFirst : Int32) (f_moveThen : Int32) (f_moveOther : Int32) (f_outMany : Int32) (g_all : Nat → Int32) (g_open : Nat → Int32) (g_out : Nat → Int32) (g_part : Nat → Int32) (x1 : Int32) (N : Nat) (res : Int32 × Int32 × Int32 × Int32 × (Nat → Int32) × (Nat → Int32) × (Nat → Int32)) (hf : R_told N f_raised f_opened f_outMany g_all g_open g_out g_part x1 = some res) : Ci l classes y_R_told b_R_told 2 (some .int) (rmk 2) G.1 (tyL G) Y [.ref h0, .int x1] [(h0, O_R f_raised a_all a_text a_saved a_undone f_undos f_reached f_length f_begin f_sort f_sign f_value f_word f_wrongAt f_badAt f_bad a_told f_read f_side a_pile f_piled a_open f_opened f_joins f_had a_size a_capped a_connected a_bestCost a_bestCrosses a_bestPart a_part a_trees f_treeMany a_nodes f_nodeMany f_moveNode f_movePart f_moveFirst f_moveThen f_moveOther a_out f_outMany a_kept), (a_all, aI G 1276 g_all), (a_open, aI G 502 g_open), (a_out, aB G 80 g_out), (a_part, aI G 256 g_part)] [(h0, O_R res.2.1 a_all a_text a_saved a_undone f_undos f_reached f_length f_begin f_sort f_sign f_value f_word f_wrongAt f_badAt f_bad a_told f_read f_side a_pile f_piled a_open res.2.2.1 f_joins f_had a_size a_capped a_connected a_bestCost a_bestCrosses a_bestPart a_part a_trees f_treeMany a_nodes f_nodeMany f_moveNode f_movePart f_moveFirst f_moveThen f_moveOther a_out res.2.2.2.1 a_kept), (a_all, aI G 1276 g_all), (a_open, aI G 502 res.2.2.2.2.1), (a_out, aB G 80 res.2.2.2.2.2.1), (a_part, aI G 256 res.2.2.2.2.2.2)] res.1 := by
  refine entI (by decide) (Nat.le_of_ble_eq_true rfl) ?_
  intro p e s m args below meth c ls A Q hx hb hml hown htl hK hsk wq hl hret
  obtain ⟨hP, hD, hS⟩ := wq
  have hl : lv_has ls 2 [(0, .ref h0), (1, .int x1)] := hl
  have hS : va_S A s.heap s.heap [] := hS
  obtain ⟨H, hH⟩ : ∃ H : Heap, H = s.heap := ⟨_, rfl⟩
  obtain ⟨locs, hlocs⟩ : ∃ z : List Loc, z = [] := ⟨_, rfl⟩
  rw [← hH] at hP
  replace hS : va_S A s.heap H locs := by rw [hH, hlocs]; exact hS
  suffices hgo : W p l e (rmk 2) s m args below meth c H locs 0 0 Q (F0 m 0 ls []) by rw [hH, hlocs] at hgo; exact hgo
  refine lv_aload_n hx hb d_R_told_0 rfl (lv_at hl 0 rfl) ?_
  refine lv_iconst (v := (0 : Int32)) hx hb d_R_told_1 (by decide) ?_
  refine va_put (D := G.1) (ci := 12) (v := .int (0 : Int32)) (ty := .int) (C := n_R) (T := T_R) (N := 44) hx hb htl iw_R ty_R ty_R_ok nm_R hown hK hP hD hS 0 rfl rfl 0 (by decide) (htl _ k_1196) (fun _ h9 => h9) rfl (by decide +kernel) rfl rfl (Nat.le_of_ble_eq_true rfl) d_R_told_2 (fun H locs hP hD hS => ?_)
  have hP : va_P G.1 classes [(h0, O_R (0 : Int32) a_all a_text a_saved a_undone f_undos f_reached f_length f_begin f_sort f_sign f_value f_word f_wrongAt f_badAt f_bad a_told f_read f_side a_pile f_piled a_open f_opened f_joins f_had a_size a_capped a_connected a_bestCost a_bestCrosses a_bestPart a_part a_trees f_treeMany a_nodes f_nodeMany f_moveNode f_movePart f_moveFirst f_moveThen f_moveOther a_out f_outMany a_kept), (a_all, aI G 1276 g_all), (a_open, aI G 502 g_open), (a_out, aB G 80 g_out), (a_part, aI G 256 g_part)] H := hP
  have hD : va_D A [(h0, O_R (0 : Int32) a_all a_text a_saved a_undone f_undos f_reached f_length f_begin f_sort f_sign f_value f_word f_wrongAt f_badAt f_bad a_told f_read f_side a_pile f_piled a_open f_opened f_joins f_had a_size a_capped a_connected a_bestCost a_bestCrosses a_bestPart a_part a_trees f_treeMany a_nodes f_nodeMany f_moveNode f_movePart f_moveFirst f_moveThen f_moveOther a_out f_outMany a_kept), (a_all, aI G 1276 g_all), (a_open, aI G 502 g_open), (a_out, aB G 80 g_out), (a_part, aI G 256 g_part)] := hD
  refine lv_aload_n hx hb d_R_told_5 rfl (lv_at hl 0 rfl) ?_
  refine va_get (D := G.1) (ci := 12) (v := .ref a_all) (C := n_R) (T := T_R) (N := 44) hx hb htl iw_R hown hK hP 0 rfl rfl 1 (by decide) (htl _ k_1197) (fun _ h9 => h9) rfl d_R_told_6 ?_
  refine lv_bipush (v := (59 : Int32)) hx hb d_R_told_9 (by decide) ?_
  refine va_iald hx hb hK hP 1 1 rfl rfl (vp_lit (by decide)) d_R_told_11 ?_
  refine lv_if_ne (tgt := 17) hx hb d_R_told_12 (by decide) (fun c1 => ?_) (fun c1 => ?_)
  · have hf := di_f c1 hf
    refine lv_aload_n hx hb d_R_told_17 rfl (lv_at hl 0 rfl) ?_
    obtain ⟨t2, hv3, hf⟩ := db_e hf
    refine call_v (isC := [0, 1, 4]) (run_V (As := []) (rest := []) (ci := 12) (q0 := 0) hx hb hml hown htl (c_R_takesPlan l G Y  h0 a_all a_text a_saved a_undone a_told a_pile a_open a_size a_capped a_connected a_bestCost a_bestCrosses a_bestPart a_part a_trees a_nodes a_out a_kept (0 : Int32) f_undos f_reached f_length f_begin f_sort f_sign f_value f_word f_wrongAt f_badAt f_bad f_read f_side f_piled f_opened f_joins f_had f_treeMany f_nodeMany f_moveNode f_movePart f_moveFirst f_moveThen f_moveOther f_outMany g_all g_part N t2 hv3) mv_R_takesPlan k_1574 (hRk (by decide) (by decide)) hK hsk hS hP hD (isC := [0, 1, 4]) rfl (by decide) rfl rfl rfl hl.1 rfl (lv_room (Nat.le_of_ble_eq_true rfl)) d_R_told_18) hP hD hS rfl rfl (fun H locs hP hD hS => ?_)
    have hP : va_P G.1 classes [(h0, O_R (0 : Int32) a_all a_text a_saved a_undone f_undos f_reached f_length f_begin f_sort f_sign f_value f_word f_wrongAt f_badAt f_bad a_told f_read f_side a_pile f_piled a_open f_opened f_joins f_had a_size a_capped a_connected a_bestCost a_bestCrosses a_bestPart a_part a_trees f_treeMany a_nodes f_nodeMany f_moveNode f_movePart f_moveFirst f_moveThen f_moveOther a_out f_outMany a_kept), (a_all, aI G 1276 g_all), (a_open, aI G 502 g_open), (a_out, aB G 80 g_out), (a_part, aI G 256 t2)] H := hP
    have hD : va_D A [(h0, O_R (0 : Int32) a_all a_text a_saved a_undone f_undos f_reached f_length f_begin f_sort f_sign f_value f_word f_wrongAt f_badAt f_bad a_told f_read f_side a_pile f_piled a_open f_opened f_joins f_had a_size a_capped a_connected a_bestCost a_bestCrosses a_bestPart a_part a_trees f_treeMany a_nodes f_nodeMany f_moveNode f_movePart f_moveFirst f_moveThen f_moveOther a_out f_outMany a_kept), (a_all, aI G 1276 g_all), (a_open, aI G 502 g_open), (a_out, aB G 80 g_out), (a_part, aI G 256 t2)] := hD
    refine lv_aload_n hx hb d_R_told_21 rfl (lv_at hl 0 rfl) ?_
    refine lv_aload_n hx hb d_R_told_22 rfl (lv_at hl 0 rfl) ?_
    refine va_get (D := G.1) (ci := 12) (v := .ref a_all) (C := n_R) (T := T_R) (N := 44) hx hb htl iw_R hown hK hP 0 rfl rfl 1 (by decide) (htl _ k_1197) (fun _ h9 => h9) rfl d_R_told_23 ?_
    refine lv_bipush (v := (59 : Int32)) hx hb d_R_told_26 (by decide) ?_
    refine va_iald hx hb hK hP 1 1 rfl rfl (vp_lit (by decide)) d_R_told_28 ?_
    obtain ⟨t4, hv5, hf⟩ := db_e hf
    refine call_v (isC := [0, 2, 3, 4]) (run_V (As := [.int (g_all (59 : Int32).toNatClampNeg)]) (rest := []) (ci := 12) (q0 := 0) hx hb hml hown htl (c_R_tells l G Y  h0 a_all a_text a_saved a_undone a_told a_pile a_open a_size a_capped a_connected a_bestCost a_bestCrosses a_bestPart a_part a_trees a_nodes a_out a_kept (0 : Int32) f_undos f_reached f_length f_begin f_sort f_sign f_value f_word f_wrongAt f_badAt f_bad f_read f_side f_piled f_opened f_joins f_had f_treeMany f_nodeMany f_moveNode f_movePart f_moveFirst f_moveThen f_moveOther f_outMany g_open g_out t2 (g_all (59 : Int32).toNatClampNeg) N t4 hv5) mv_R_tells k_1673 (hRk (by decide) (by decide)) hK hsk hS hP hD (isC := [0, 2, 3, 4]) rfl (by decide) rfl rfl rfl hl.1 rfl (lv_room (Nat.le_of_ble_eq_true rfl)) d_R_told_29) hP hD hS rfl rfl (fun H locs hP hD hS => ?_)
    have hP : va_P G.1 classes [(h0, O_R (0 : Int32) a_all a_text a_saved a_undone f_undos f_reached f_length f_begin f_sort f_sign f_value f_word f_wrongAt f_badAt f_bad a_told f_read f_side a_pile f_piled a_open t4.1 f_joins f_had a_size a_capped a_connected a_bestCost a_bestCrosses a_bestPart a_part a_trees f_treeMany a_nodes f_nodeMany f_moveNode f_movePart f_moveFirst f_moveThen f_moveOther a_out t4.2.1 a_kept), (a_all, aI G 1276 g_all), (a_open, aI G 502 t4.2.2.1), (a_out, aB G 80 t4.2.2.2), (a_part, aI G 256 t2)] H := hP
    have hD : va_D A [(h0, O_R (0 : Int32) a_all a_text a_saved a_undone f_undos f_reached f_length f_begin f_sort f_sign f_value f_word f_wrongAt f_badAt f_bad a_told f_read f_side a_pile f_piled a_open t4.1 f_joins f_had a_size a_capped a_connected a_bestCost a_bestCrosses a_bestPart a_part a_trees f_treeMany a_nodes f_nodeMany f_moveNode f_movePart f_moveFirst f_moveThen f_moveOther a_out t4.2.1 a_kept), (a_all, aI G 1276 g_all), (a_open, aI G 502 t4.2.2.1), (a_out, aB G 80 t4.2.2.2), (a_part, aI G 256 t2)] := hD
    refine lv_iload_n hx hb d_R_told_32 rfl (lv_at hl 1 rfl) ?_
    refine lv_iconst (v := (-1 : Int32)) hx hb d_R_told_33 (by decide) ?_
    refine lv_icmp_ne (tgt := 44) hx hb d_R_told_34 (by decide) (fun c6 => ?_) (fun c6 => ?_)
    · have hf := di_f c6 hf
      refine lv_iload_n hx hb d_R_told_44 rfl (lv_at hl 1 rfl) ?_
      refine lv_i2l hx hb d_R_told_45 rfl ?_
      refine lv_lconst (v := (0 : Int64)) hx hb d_R_told_46 (by decide) ?_
      refine lv_aload_n hx hb d_R_told_47 rfl (lv_at hl 0 rfl) ?_
      refine va_get (D := G.1) (ci := 12) (v := .int t4.2.1) (C := n_R) (T := T_R) (N := 44) hx hb htl iw_R hown hK hP 0 rfl rfl 42 (by decide) (htl _ k_1238) (fun _ h9 => h9) rfl d_R_told_48 ?_
      refine lv_iconst (v := (1 : Int32)) hx hb d_R_told_51 (by decide) ?_
      refine lv_isub hx hb d_R_told_52 ?_
      refine lv_i2l hx hb d_R_told_53 rfl ?_
      refine call_i (isC := []) (run_S (As := [.long x1.toInt64, .long (0 : Int64), .long ((t4.2.1 - (1 : Int32)).toInt64)]) (rest := []) hx hb hml hown htl (c_R_in l G Y  x1.toInt64 (0 : Int64) ((t4.2.1 - (1 : Int32)).toInt64) _ rfl) ms_R_in k_1356 (hRk (by decide) (by decide)) hK hsk hS hP hD (isC := []) rfl (by decide) rfl hl.1 rfl (lv_room (Nat.le_of_ble_eq_true rfl)) d_R_told_54) hP hD hS rfl rfl (fun H locs hP hD hS => ?_)
      have hP : va_P G.1 classes [(h0, O_R (0 : Int32) a_all a_text a_saved a_undone f_undos f_reached f_length f_begin f_sort f_sign f_value f_word f_wrongAt f_badAt f_bad a_told f_read f_side a_pile f_piled a_open t4.1 f_joins f_had a_size a_capped a_connected a_bestCost a_bestCrosses a_bestPart a_part a_trees f_treeMany a_nodes f_nodeMany f_moveNode f_movePart f_moveFirst f_moveThen f_moveOther a_out t4.2.1 a_kept), (a_all, aI G 1276 g_all), (a_open, aI G 502 t4.2.2.1), (a_out, aB G 80 t4.2.2.2), (a_part, aI G 256 t2)] H := hP
      have hD : va_D A [(h0, O_R (0 : Int32) a_all a_text a_saved a_undone f_undos f_reached f_length f_begin f_sort f_sign f_value f_word f_wrongAt f_badAt f_bad a_told f_read f_side a_pile f_piled a_open t4.1 f_joins f_had a_size a_capped a_connected a_bestCost a_bestCrosses a_bestPart a_part a_trees f_treeMany a_nodes f_nodeMany f_moveNode f_movePart f_moveFirst f_moveThen f_moveOther a_out t4.2.1 a_kept), (a_all, aI G 1276 g_all), (a_open, aI G 502 t4.2.2.1), (a_out, aB G 80 t4.2.2.2), (a_part, aI G 256 t2)] := hD
      refine lv_if_eq (tgt := 69) hx hb d_R_told_57 (by decide) (fun c7 => ?_) (fun c7 => ?_)
      · have hf := di_t c7 hf
        refine lv_iconst (v := (-1 : Int32)) hx hb d_R_told_69 (by decide) ?_
        cases hf
        exact hret 70 ls H locs hP hS d_R_told_70
      · have hf := di_f c7 hf
        refine lv_aload_n hx hb d_R_told_60 rfl (lv_at hl 0 rfl) ?_
        refine va_get (D := G.1) (ci := 12) (v := .ref a_out) (C := n_R) (T := T_R) (N := 44) hx hb htl iw_R hown hK hP 0 rfl rfl 41 (by decide) (htl _ k_1237) (fun _ h9 => h9) rfl d_R_told_61 ?_
        refine lv_iload_n hx hb d_R_told_64 rfl (lv_at hl 1 rfl) ?_
        obtain ⟨c8, hf⟩ := dk_e hf
        refine va_bald hx hb hK hP 3 0 rfl rfl c8 d_R_told_65 ?_
        refine lv_goto (tgt := 70) hx hb d_R_told_66 (by decide) ?_
        cases hf
        exact hret 70 ls H locs hP hS d_R_told_70
    · have hf := di_t c6 hf
      refine lv_aload_n hx hb d_R_told_37 rfl (lv_at hl 0 rfl) ?_
      refine va_get (D := G.1) (ci := 12) (v := .int t4.2.1) (C := n_R) (T := T_R) (N := 44) hx hb htl iw_R hown hK hP 0 rfl rfl 42 (by decide) (htl _ k_1238) (fun _ h9 => h9) rfl d_R_told_38 ?_
      refine lv_goto (tgt := 70) hx hb d_R_told_41 (by decide) ?_
      cases hf
      exact hret 70 ls H locs hP hS d_R_told_70
  · have hf := di_t c1 hf
    refine lv_iconst (v := (-1 : Int32)) hx hb d_R_told_15 (by decide) ?_
    cases hf
    exact hret 16 ls H locs hP hS d_R_told_16
set_option maxHeartbeats 4000000 in
set_option maxRecDepth 100000 in
theorem c_R_move (l : Launch) (G : va_G × (Nat → ClassId)) (Y : (Nat → Nat) × (Nat → Nat)) (h0 : Nat) (a_all : Nat) (a_text : Nat) (a_saved : Nat) (a_undone : Nat) (a_told : Nat) (a_pile : Nat) (a_open : Nat) (a_size : Nat) (a_capped : Nat) (a_connected : Nat) (a_bestCost : Nat) (a_bestCrosses : Nat) (a_bestPart : Nat) (a_part : Nat) (a_trees : Nat) (a_nodes : Nat) (a_out : Nat) (a_kept : Nat) (f_raised : Int32) (f_undos : Int32) (f_reached : Int32) (f_length : Int32) (f_begin : Int32) (f_sort : Int32) (f_sign : Int32) (f_value : Int32) (f_word : Int64) (f_wrongAt : Int32) (f_badAt : Int32) (f_bad : Int32) (f_read : Int32) (f_side : Int32) (f_piled : Int32) (f_opened : Int32) (f_joins : Int32) (f_had : Int32) (f_treeMany : Int32) (f_nodeMany : Int32) (f_moveNode : Int32) (f_movePart : Int32) (f_moveFirst : Int32) (f_moveThen : Int32) (f_moveOther : Int32) (f_outMany : Int32) (g_all : Nat → Int32) (g_bestCost : Nat → Int64) (g_bestCrosses : Nat → Int32) (g_bestPart : Nat → Int32) (g_capped : Nat → Int32) (g_connected : Nat → Int32) (g_nodes : Nat → Int32) (g_open : Nat → Int32) (g_part : Nat → Int32) (g_size : Nat → Int64) (x1 : Int32) (N : Nat) (res : Int64 × Int32 × Int32 × Int32 × Int32 × Int32 × Int32 × Int32 × Int32 × (Nat → Int64) × (Nat → Int32) × (Nat → Int32) × (Nat → Int32) × (Nat → Int32) × (Nat → Int32) × (Nat → Int32) × (Nat → Int32) × (Nat → Int64)) (hf : R_move N f_raised f_opened f_nodeMany f_moveNode f_movePart f_moveFirst f_moveThen f_moveOther g_all g_bestCost g_bestCrosses g_bestPart g_capped g_connected g_nodes g_open g_part g_size x1 = some res) : Cl l classes y_R_move b_R_move 3 (some .long) (rmk 5) G.1 (tyL G) Y [.ref h0, .int x1] [(h0, O_R f_raised a_all a_text a_saved a_undone f_undos f_reached f_length f_begin f_sort f_sign f_value f_word f_wrongAt f_badAt f_bad a_told f_read f_side a_pile f_piled a_open f_opened f_joins f_had a_size a_capped a_connected a_bestCost a_bestCrosses a_bestPart a_part a_trees f_treeMany a_nodes f_nodeMany f_moveNode f_movePart f_moveFirst f_moveThen f_moveOther a_out f_outMany a_kept), (a_all, aI G 1276 g_all), (a_bestCost, aJ G 512 g_bestCost), (a_bestCrosses, aI G 512 g_bestCrosses), (a_bestPart, aI G 512 g_bestPart), (a_capped, aZ G 256 g_capped), (a_connected, aZ G 256 g_connected), (a_nodes, aI G 8 g_nodes), (a_open, aI G 502 g_open), (a_part, aI G 256 g_part), (a_size, aJ G 256 g_size)] [(h0, O_R res.2.1 a_all a_text a_saved a_undone f_undos f_reached f_length f_begin f_sort f_sign f_value f_word f_wrongAt f_badAt f_bad a_told f_read f_side a_pile f_piled a_open res.2.2.1 f_joins f_had a_size a_capped a_connected a_bestCost a_bestCrosses a_bestPart a_part a_trees f_treeMany a_nodes res.2.2.2.1 res.2.2.2.2.1 res.2.2.2.2.2.1 res.2.2.2.2.2.2.1 res.2.2.2.2.2.2.2.1 res.2.2.2.2.2.2.2.2.1 a_out f_outMany a_kept), (a_all, aI G 1276 g_all), (a_bestCost, aJ G 512 res.2.2.2.2.2.2.2.2.2.1), (a_bestCrosses, aI G 512 res.2.2.2.2.2.2.2.2.2.2.1), (a_bestPart, aI G 512 res.2.2.2.2.2.2.2.2.2.2.2.1), (a_capped, aZ G 256 res.2.2.2.2.2.2.2.2.2.2.2.2.1), (a_connected, aZ G 256 res.2.2.2.2.2.2.2.2.2.2.2.2.2.1), (a_nodes, aI G 8 res.2.2.2.2.2.2.2.2.2.2.2.2.2.2.1), (a_open, aI G 502 res.2.2.2.2.2.2.2.2.2.2.2.2.2.2.2.1), (a_part, aI G 256 res.2.2.2.2.2.2.2.2.2.2.2.2.2.2.2.2.1), (a_size, aJ G 256 res.2.2.2.2.2.2.2.2.2.2.2.2.2.2.2.2.2)] res.1 := by
  refine entL (by decide) (Nat.le_of_ble_eq_true rfl) ?_
  intro p e s m args below meth c ls A Q hx hb hml hown htl hK hsk wq hl hret
  obtain ⟨hP, hD, hS⟩ := wq
  have hl : lv_has ls 3 [(0, .ref h0), (1, .int x1)] := hl
  have hS : va_S A s.heap s.heap [] := hS
  obtain ⟨H, hH⟩ : ∃ H : Heap, H = s.heap := ⟨_, rfl⟩
  obtain ⟨locs, hlocs⟩ : ∃ z : List Loc, z = [] := ⟨_, rfl⟩
  rw [← hH] at hP
  replace hS : va_S A s.heap H locs := by rw [hH, hlocs]; exact hS
  suffices hgo : W p l e (rmk 5) s m args below meth c H locs 0 0 Q (F0 m 0 ls []) by rw [hH, hlocs] at hgo; exact hgo
  have hJ22 : ∀ (f_raised : Int32) (f_opened : Int32) (f_nodeMany : Int32) (f_moveNode : Int32) (f_movePart : Int32) (f_moveFirst : Int32) (f_moveThen : Int32) (f_moveOther : Int32) (g_bestCost : Nat → Int64) (g_bestCrosses : Nat → Int32) (g_bestPart : Nat → Int32) (g_capped : Nat → Int32) (g_connected : Nat → Int32) (g_nodes : Nat → Int32) (g_open : Nat → Int32) (g_part : Nat → Int32) (g_size : Nat → Int64) (H : Heap) (locs : List Loc) (ls : Array Slot), PDS G.1 classes A s [(h0, O_R f_raised a_all a_text a_saved a_undone f_undos f_reached f_length f_begin f_sort f_sign f_value f_word f_wrongAt f_badAt f_bad a_told f_read f_side a_pile f_piled a_open f_opened f_joins f_had a_size a_capped a_connected a_bestCost a_bestCrosses a_bestPart a_part a_trees f_treeMany a_nodes f_nodeMany f_moveNode f_movePart f_moveFirst f_moveThen f_moveOther a_out f_outMany a_kept), (a_all, aI G 1276 g_all), (a_bestCost, aJ G 512 g_bestCost), (a_bestCrosses, aI G 512 g_bestCrosses), (a_bestPart, aI G 512 g_bestPart), (a_capped, aZ G 256 g_capped), (a_connected, aZ G 256 g_connected), (a_nodes, aI G 8 g_nodes), (a_open, aI G 502 g_open), (a_part, aI G 256 g_part), (a_size, aJ G 256 g_size)] H locs → lv_has ls 3 [] → R_move_22 N f_raised f_opened f_nodeMany f_moveNode f_movePart f_moveFirst f_moveThen f_moveOther g_all g_bestCost g_bestCrosses g_bestPart g_capped g_connected g_nodes g_open g_part g_size = some res → W p l e (rmk 5) s m args below meth c H locs 0 0 Q (F0 m 22 ls []) := by
    intro f_raised f_opened f_nodeMany f_moveNode f_movePart f_moveFirst f_moveThen f_moveOther g_bestCost g_bestCrosses g_bestPart g_capped g_connected g_nodes g_open g_part g_size H locs ls wq hl hf
    obtain ⟨hP, hD, hS⟩ := wq
    refine lv_ldc2 (v := (-1 : Int64)) hx hb hown (htl _ k_1639) d_R_move_22 ?_
    cases hf
    exact hret 25 ls H locs hP hS d_R_move_25
  refine lv_aload_n hx hb d_R_move_0 rfl (lv_at hl 0 rfl) ?_
  refine lv_iconst (v := (0 : Int32)) hx hb d_R_move_1 (by decide) ?_
  refine va_put (D := G.1) (ci := 12) (v := .int (0 : Int32)) (ty := .int) (C := n_R) (T := T_R) (N := 44) hx hb htl iw_R ty_R ty_R_ok nm_R hown hK hP hD hS 0 rfl rfl 0 (by decide) (htl _ k_1196) (fun _ h9 => h9) rfl (by decide +kernel) rfl rfl (Nat.le_of_ble_eq_true rfl) d_R_move_2 (fun H locs hP hD hS => ?_)
  have hP : va_P G.1 classes [(h0, O_R (0 : Int32) a_all a_text a_saved a_undone f_undos f_reached f_length f_begin f_sort f_sign f_value f_word f_wrongAt f_badAt f_bad a_told f_read f_side a_pile f_piled a_open f_opened f_joins f_had a_size a_capped a_connected a_bestCost a_bestCrosses a_bestPart a_part a_trees f_treeMany a_nodes f_nodeMany f_moveNode f_movePart f_moveFirst f_moveThen f_moveOther a_out f_outMany a_kept), (a_all, aI G 1276 g_all), (a_bestCost, aJ G 512 g_bestCost), (a_bestCrosses, aI G 512 g_bestCrosses), (a_bestPart, aI G 512 g_bestPart), (a_capped, aZ G 256 g_capped), (a_connected, aZ G 256 g_connected), (a_nodes, aI G 8 g_nodes), (a_open, aI G 502 g_open), (a_part, aI G 256 g_part), (a_size, aJ G 256 g_size)] H := hP
  have hD : va_D A [(h0, O_R (0 : Int32) a_all a_text a_saved a_undone f_undos f_reached f_length f_begin f_sort f_sign f_value f_word f_wrongAt f_badAt f_bad a_told f_read f_side a_pile f_piled a_open f_opened f_joins f_had a_size a_capped a_connected a_bestCost a_bestCrosses a_bestPart a_part a_trees f_treeMany a_nodes f_nodeMany f_moveNode f_movePart f_moveFirst f_moveThen f_moveOther a_out f_outMany a_kept), (a_all, aI G 1276 g_all), (a_bestCost, aJ G 512 g_bestCost), (a_bestCrosses, aI G 512 g_bestCrosses), (a_bestPart, aI G 512 g_bestPart), (a_capped, aZ G 256 g_capped), (a_connected, aZ G 256 g_connected), (a_nodes, aI G 8 g_nodes), (a_open, aI G 502 g_open), (a_part, aI G 256 g_part), (a_size, aJ G 256 g_size)] := hD
  refine lv_aload_n hx hb d_R_move_5 rfl (lv_at hl 0 rfl) ?_
  refine va_get (D := G.1) (ci := 12) (v := .ref a_all) (C := n_R) (T := T_R) (N := 44) hx hb htl iw_R hown hK hP 0 rfl rfl 1 (by decide) (htl _ k_1197) (fun _ h9 => h9) rfl d_R_move_6 ?_
  refine lv_bipush (v := (59 : Int32)) hx hb d_R_move_9 (by decide) ?_
  refine va_iald hx hb hK hP 1 1 rfl rfl (vp_lit (by decide)) d_R_move_11 ?_
  refine lv_topi (fun v1 ev1 => ?_)
  have hf := dn_e ev1 hf
  refine lv_istore_n (lv' := [(2, .int v1), (0, .ref h0), (1, .int x1)]) hx hb d_R_move_12 rfl hl (by decide) rfl (fun ls hl => ?_)
  refine lv_iload_n hx hb d_R_move_13 rfl (lv_at hl 0 rfl) ?_
  refine lv_if_eq (tgt := 22) hx hb d_R_move_14 (by decide) (fun c2 => ?_) (fun c2 => ?_)
  · have hf := di_t c2 hf
    exact hJ22 (0 : Int32) f_opened f_nodeMany f_moveNode f_movePart f_moveFirst f_moveThen f_moveOther g_bestCost g_bestCrosses g_bestPart g_capped g_connected g_nodes g_open g_part g_size H locs ls ⟨hP, hD, hS⟩ (lv_sub hl [] rfl) hf
  · have hf := di_f c2 hf
    refine lv_iload_n hx hb d_R_move_17 rfl (lv_at hl 2 rfl) ?_
    refine lv_iconst (v := (-1 : Int32)) hx hb d_R_move_18 (by decide) ?_
    refine lv_icmp_ge (tgt := 26) hx hb d_R_move_19 (by decide) (fun c3 => ?_) (fun c3 => ?_)
    · have hf := di_t c3 hf
      refine lv_aload_n hx hb d_R_move_26 rfl (lv_at hl 1 rfl) ?_
      obtain ⟨t4, hv5, hf⟩ := db_e hf
      refine call_v (isC := [0, 1, 2, 3, 4, 5, 6, 10]) (run_V (As := []) (rest := []) (ci := 12) (q0 := 0) hx hb hml hown htl (c_R_lays l G Y  h0 a_all a_text a_saved a_undone a_told a_pile a_open a_size a_capped a_connected a_bestCost a_bestCrosses a_bestPart a_part a_trees a_nodes a_out a_kept (0 : Int32) f_undos f_reached f_length f_begin f_sort f_sign f_value f_word f_wrongAt f_badAt f_bad f_read f_side f_piled f_opened f_joins f_had f_treeMany f_nodeMany f_moveNode f_movePart f_moveFirst f_moveThen f_moveOther f_outMany g_all g_bestCost g_bestCrosses g_bestPart g_capped g_connected g_size N t4 hv5) mv_R_lays k_1503 (hRk (by decide) (by decide)) hK hsk hS hP hD (isC := [0, 1, 2, 3, 4, 5, 6, 10]) rfl (by decide) rfl rfl rfl hl.1 rfl (lv_room (Nat.le_of_ble_eq_true rfl)) d_R_move_27) hP hD hS rfl rfl (fun H locs hP hD hS => ?_)
      have hP : va_P G.1 classes [(h0, O_R (0 : Int32) a_all a_text a_saved a_undone f_undos f_reached f_length f_begin f_sort f_sign f_value f_word f_wrongAt f_badAt f_bad a_told f_read f_side a_pile f_piled a_open f_opened f_joins f_had a_size a_capped a_connected a_bestCost a_bestCrosses a_bestPart a_part a_trees f_treeMany a_nodes f_nodeMany f_moveNode f_movePart f_moveFirst f_moveThen f_moveOther a_out f_outMany a_kept), (a_all, aI G 1276 g_all), (a_bestCost, aJ G 512 t4.1), (a_bestCrosses, aI G 512 t4.2.1), (a_bestPart, aI G 512 t4.2.2.1), (a_capped, aZ G 256 t4.2.2.2.1), (a_connected, aZ G 256 t4.2.2.2.2.1), (a_nodes, aI G 8 g_nodes), (a_open, aI G 502 g_open), (a_part, aI G 256 g_part), (a_size, aJ G 256 t4.2.2.2.2.2)] H := hP
      have hD : va_D A [(h0, O_R (0 : Int32) a_all a_text a_saved a_undone f_undos f_reached f_length f_begin f_sort f_sign f_value f_word f_wrongAt f_badAt f_bad a_told f_read f_side a_pile f_piled a_open f_opened f_joins f_had a_size a_capped a_connected a_bestCost a_bestCrosses a_bestPart a_part a_trees f_treeMany a_nodes f_nodeMany f_moveNode f_movePart f_moveFirst f_moveThen f_moveOther a_out f_outMany a_kept), (a_all, aI G 1276 g_all), (a_bestCost, aJ G 512 t4.1), (a_bestCrosses, aI G 512 t4.2.1), (a_bestPart, aI G 512 t4.2.2.1), (a_capped, aZ G 256 t4.2.2.2.1), (a_connected, aZ G 256 t4.2.2.2.2.1), (a_nodes, aI G 8 g_nodes), (a_open, aI G 502 g_open), (a_part, aI G 256 g_part), (a_size, aJ G 256 t4.2.2.2.2.2)] := hD
      refine lv_aload_n hx hb d_R_move_30 rfl (lv_at hl 1 rfl) ?_
      obtain ⟨t6, hv7, hf⟩ := db_e hf
      refine call_v (isC := [0, 1, 9]) (run_V (As := []) (rest := []) (ci := 12) (q0 := 0) hx hb hml hown htl (c_R_takesPlan l G Y  h0 a_all a_text a_saved a_undone a_told a_pile a_open a_size a_capped a_connected a_bestCost a_bestCrosses a_bestPart a_part a_trees a_nodes a_out a_kept (0 : Int32) f_undos f_reached f_length f_begin f_sort f_sign f_value f_word f_wrongAt f_badAt f_bad f_read f_side f_piled f_opened f_joins f_had f_treeMany f_nodeMany f_moveNode f_movePart f_moveFirst f_moveThen f_moveOther f_outMany g_all g_part N t6 hv7) mv_R_takesPlan k_1574 (hRk (by decide) (by decide)) hK hsk hS hP hD (isC := [0, 1, 9]) rfl (by decide) rfl rfl rfl hl.1 rfl (lv_room (Nat.le_of_ble_eq_true rfl)) d_R_move_31) hP hD hS rfl rfl (fun H locs hP hD hS => ?_)
      have hP : va_P G.1 classes [(h0, O_R (0 : Int32) a_all a_text a_saved a_undone f_undos f_reached f_length f_begin f_sort f_sign f_value f_word f_wrongAt f_badAt f_bad a_told f_read f_side a_pile f_piled a_open f_opened f_joins f_had a_size a_capped a_connected a_bestCost a_bestCrosses a_bestPart a_part a_trees f_treeMany a_nodes f_nodeMany f_moveNode f_movePart f_moveFirst f_moveThen f_moveOther a_out f_outMany a_kept), (a_all, aI G 1276 g_all), (a_bestCost, aJ G 512 t4.1), (a_bestCrosses, aI G 512 t4.2.1), (a_bestPart, aI G 512 t4.2.2.1), (a_capped, aZ G 256 t4.2.2.2.1), (a_connected, aZ G 256 t4.2.2.2.2.1), (a_nodes, aI G 8 g_nodes), (a_open, aI G 502 g_open), (a_part, aI G 256 t6), (a_size, aJ G 256 t4.2.2.2.2.2)] H := hP
      have hD : va_D A [(h0, O_R (0 : Int32) a_all a_text a_saved a_undone f_undos f_reached f_length f_begin f_sort f_sign f_value f_word f_wrongAt f_badAt f_bad a_told f_read f_side a_pile f_piled a_open f_opened f_joins f_had a_size a_capped a_connected a_bestCost a_bestCrosses a_bestPart a_part a_trees f_treeMany a_nodes f_nodeMany f_moveNode f_movePart f_moveFirst f_moveThen f_moveOther a_out f_outMany a_kept), (a_all, aI G 1276 g_all), (a_bestCost, aJ G 512 t4.1), (a_bestCrosses, aI G 512 t4.2.1), (a_bestPart, aI G 512 t4.2.2.1), (a_capped, aZ G 256 t4.2.2.2.1), (a_connected, aZ G 256 t4.2.2.2.2.1), (a_nodes, aI G 8 g_nodes), (a_open, aI G 502 g_open), (a_part, aI G 256 t6), (a_size, aJ G 256 t4.2.2.2.2.2)] := hD
      refine lv_aload_n hx hb d_R_move_34 rfl (lv_at hl 1 rfl) ?_
      refine lv_iload_n hx hb d_R_move_35 rfl (lv_at hl 0 rfl) ?_
      obtain ⟨t8, hv9, hf⟩ := db_e hf
      refine call_v (isC := [0, 7, 8, 9]) (run_V (As := [.int v1]) (rest := []) (ci := 12) (q0 := 0) hx hb hml hown htl (c_R_laysNodes l G Y  h0 a_all a_text a_saved a_undone a_told a_pile a_open a_size a_capped a_connected a_bestCost a_bestCrosses a_bestPart a_part a_trees a_nodes a_out a_kept (0 : Int32) f_undos f_reached f_length f_begin f_sort f_sign f_value f_word f_wrongAt f_badAt f_bad f_read f_side f_piled f_opened f_joins f_had f_treeMany f_nodeMany f_moveNode f_movePart f_moveFirst f_moveThen f_moveOther f_outMany g_nodes g_open t6 v1 N t8 hv9) mv_R_laysNodes k_1582 (hRk (by decide) (by decide)) hK hsk hS hP hD (isC := [0, 7, 8, 9]) rfl (by decide) rfl rfl rfl hl.1 rfl (lv_room (Nat.le_of_ble_eq_true rfl)) d_R_move_36) hP hD hS rfl rfl (fun H locs hP hD hS => ?_)
      have hP : va_P G.1 classes [(h0, O_R (0 : Int32) a_all a_text a_saved a_undone f_undos f_reached f_length f_begin f_sort f_sign f_value f_word f_wrongAt f_badAt f_bad a_told f_read f_side a_pile f_piled a_open t8.1 f_joins f_had a_size a_capped a_connected a_bestCost a_bestCrosses a_bestPart a_part a_trees f_treeMany a_nodes t8.2.1 f_moveNode f_movePart f_moveFirst f_moveThen f_moveOther a_out f_outMany a_kept), (a_all, aI G 1276 g_all), (a_bestCost, aJ G 512 t4.1), (a_bestCrosses, aI G 512 t4.2.1), (a_bestPart, aI G 512 t4.2.2.1), (a_capped, aZ G 256 t4.2.2.2.1), (a_connected, aZ G 256 t4.2.2.2.2.1), (a_nodes, aI G 8 t8.2.2.1), (a_open, aI G 502 t8.2.2.2), (a_part, aI G 256 t6), (a_size, aJ G 256 t4.2.2.2.2.2)] H := hP
      have hD : va_D A [(h0, O_R (0 : Int32) a_all a_text a_saved a_undone f_undos f_reached f_length f_begin f_sort f_sign f_value f_word f_wrongAt f_badAt f_bad a_told f_read f_side a_pile f_piled a_open t8.1 f_joins f_had a_size a_capped a_connected a_bestCost a_bestCrosses a_bestPart a_part a_trees f_treeMany a_nodes t8.2.1 f_moveNode f_movePart f_moveFirst f_moveThen f_moveOther a_out f_outMany a_kept), (a_all, aI G 1276 g_all), (a_bestCost, aJ G 512 t4.1), (a_bestCrosses, aI G 512 t4.2.1), (a_bestPart, aI G 512 t4.2.2.1), (a_capped, aZ G 256 t4.2.2.2.1), (a_connected, aZ G 256 t4.2.2.2.2.1), (a_nodes, aI G 8 t8.2.2.1), (a_open, aI G 502 t8.2.2.2), (a_part, aI G 256 t6), (a_size, aJ G 256 t4.2.2.2.2.2)] := hD
      refine lv_iload_n hx hb d_R_move_39 rfl (lv_at hl 2 rfl) ?_
      refine lv_iconst (v := (-1 : Int32)) hx hb d_R_move_40 (by decide) ?_
      refine lv_icmp_ne (tgt := 50) hx hb d_R_move_41 (by decide) (fun c10 => ?_) (fun c10 => ?_)
      · have hf := di_f c10 hf
        refine lv_aload_n hx hb d_R_move_50 rfl (lv_at hl 1 rfl) ?_
        refine lv_iload_n hx hb d_R_move_51 rfl (lv_at hl 2 rfl) ?_
        obtain ⟨t11, hv12, hf⟩ := db_e hf
        refine call_i (isC := [0, 7, 9]) (run_V (As := [.int x1]) (rest := []) (ci := 12) (q0 := 0) hx hb hml hown htl (c_R_isMove l G Y  h0 a_all a_text a_saved a_undone a_told a_pile a_open a_size a_capped a_connected a_bestCost a_bestCrosses a_bestPart a_part a_trees a_nodes a_out a_kept (0 : Int32) f_undos f_reached f_length f_begin f_sort f_sign f_value f_word f_wrongAt f_badAt f_bad f_read f_side f_piled t8.1 f_joins f_had f_treeMany t8.2.1 f_moveNode f_movePart f_moveFirst f_moveThen f_moveOther f_outMany t8.2.2.1 t6 x1 N t11 hv12) mv_R_isMove k_1598 (hRk (by decide) (by decide)) hK hsk hS hP hD (isC := [0, 7, 9]) rfl (by decide) rfl rfl rfl hl.1 rfl (lv_room (Nat.le_of_ble_eq_true rfl)) d_R_move_52) hP hD hS rfl rfl (fun H locs hP hD hS => ?_)
        have hP : va_P G.1 classes [(h0, O_R (0 : Int32) a_all a_text a_saved a_undone f_undos f_reached f_length f_begin f_sort f_sign f_value f_word f_wrongAt f_badAt f_bad a_told f_read f_side a_pile f_piled a_open t8.1 f_joins f_had a_size a_capped a_connected a_bestCost a_bestCrosses a_bestPart a_part a_trees f_treeMany a_nodes t8.2.1 t11.2.1 t11.2.2.1 t11.2.2.2.1 t11.2.2.2.2.1 t11.2.2.2.2.2 a_out f_outMany a_kept), (a_all, aI G 1276 g_all), (a_bestCost, aJ G 512 t4.1), (a_bestCrosses, aI G 512 t4.2.1), (a_bestPart, aI G 512 t4.2.2.1), (a_capped, aZ G 256 t4.2.2.2.1), (a_connected, aZ G 256 t4.2.2.2.2.1), (a_nodes, aI G 8 t8.2.2.1), (a_open, aI G 502 t8.2.2.2), (a_part, aI G 256 t6), (a_size, aJ G 256 t4.2.2.2.2.2)] H := hP
        have hD : va_D A [(h0, O_R (0 : Int32) a_all a_text a_saved a_undone f_undos f_reached f_length f_begin f_sort f_sign f_value f_word f_wrongAt f_badAt f_bad a_told f_read f_side a_pile f_piled a_open t8.1 f_joins f_had a_size a_capped a_connected a_bestCost a_bestCrosses a_bestPart a_part a_trees f_treeMany a_nodes t8.2.1 t11.2.1 t11.2.2.1 t11.2.2.2.1 t11.2.2.2.2.1 t11.2.2.2.2.2 a_out f_outMany a_kept), (a_all, aI G 1276 g_all), (a_bestCost, aJ G 512 t4.1), (a_bestCrosses, aI G 512 t4.2.1), (a_bestPart, aI G 512 t4.2.2.1), (a_capped, aZ G 256 t4.2.2.2.1), (a_connected, aZ G 256 t4.2.2.2.2.1), (a_nodes, aI G 8 t8.2.2.1), (a_open, aI G 502 t8.2.2.2), (a_part, aI G 256 t6), (a_size, aJ G 256 t4.2.2.2.2.2)] := hD
        refine lv_if_ne (tgt := 62) hx hb d_R_move_55 (by decide) (fun c13 => ?_) (fun c13 => ?_)
        · have hf := di_f c13 hf
          refine lv_aload_n hx hb d_R_move_62 rfl (lv_at hl 1 rfl) ?_
          obtain ⟨t14, hv15, hf⟩ := db_e hf
          refine call_v (isC := [0, 9]) (run_V (As := []) (rest := []) (ci := 12) (q0 := 0) hx hb hml hown htl (c_R_goes l G Y  h0 a_all a_text a_saved a_undone a_told a_pile a_open a_size a_capped a_connected a_bestCost a_bestCrosses a_bestPart a_part a_trees a_nodes a_out a_kept (0 : Int32) f_undos f_reached f_length f_begin f_sort f_sign f_value f_word f_wrongAt f_badAt f_bad f_read f_side f_piled t8.1 f_joins f_had f_treeMany t8.2.1 t11.2.1 t11.2.2.1 t11.2.2.2.1 t11.2.2.2.2.1 t11.2.2.2.2.2 f_outMany t6 t14 hv15) mv_R_goes k_1602 (hRk (by decide) (by decide)) hK hsk hS hP hD (isC := [0, 9]) rfl (by decide) rfl rfl rfl hl.1 rfl (lv_room (Nat.le_of_ble_eq_true rfl)) d_R_move_63) hP hD hS rfl rfl (fun H locs hP hD hS => ?_)
          have hP : va_P G.1 classes [(h0, O_R (0 : Int32) a_all a_text a_saved a_undone f_undos f_reached f_length f_begin f_sort f_sign f_value f_word f_wrongAt f_badAt f_bad a_told f_read f_side a_pile f_piled a_open t8.1 f_joins f_had a_size a_capped a_connected a_bestCost a_bestCrosses a_bestPart a_part a_trees f_treeMany a_nodes t8.2.1 t11.2.1 t11.2.2.1 t11.2.2.2.1 t11.2.2.2.2.1 t11.2.2.2.2.2 a_out f_outMany a_kept), (a_all, aI G 1276 g_all), (a_bestCost, aJ G 512 t4.1), (a_bestCrosses, aI G 512 t4.2.1), (a_bestPart, aI G 512 t4.2.2.1), (a_capped, aZ G 256 t4.2.2.2.1), (a_connected, aZ G 256 t4.2.2.2.2.1), (a_nodes, aI G 8 t8.2.2.1), (a_open, aI G 502 t8.2.2.2), (a_part, aI G 256 t14), (a_size, aJ G 256 t4.2.2.2.2.2)] H := hP
          have hD : va_D A [(h0, O_R (0 : Int32) a_all a_text a_saved a_undone f_undos f_reached f_length f_begin f_sort f_sign f_value f_word f_wrongAt f_badAt f_bad a_told f_read f_side a_pile f_piled a_open t8.1 f_joins f_had a_size a_capped a_connected a_bestCost a_bestCrosses a_bestPart a_part a_trees f_treeMany a_nodes t8.2.1 t11.2.1 t11.2.2.1 t11.2.2.2.1 t11.2.2.2.2.1 t11.2.2.2.2.2 a_out f_outMany a_kept), (a_all, aI G 1276 g_all), (a_bestCost, aJ G 512 t4.1), (a_bestCrosses, aI G 512 t4.2.1), (a_bestPart, aI G 512 t4.2.2.1), (a_capped, aZ G 256 t4.2.2.2.1), (a_connected, aZ G 256 t4.2.2.2.2.1), (a_nodes, aI G 8 t8.2.2.1), (a_open, aI G 502 t8.2.2.2), (a_part, aI G 256 t14), (a_size, aJ G 256 t4.2.2.2.2.2)] := hD
          refine lv_aload_n hx hb d_R_move_66 rfl (lv_at hl 1 rfl) ?_
          refine lv_iload_n hx hb d_R_move_67 rfl (lv_at hl 0 rfl) ?_
          obtain ⟨t16, hv17, hf⟩ := db_e hf
          refine call_l (isC := [0, 9, 10]) (run_V (As := [.int v1]) (rest := []) (ci := 12) (q0 := 0) hx hb hml hown htl (c_R_costOfParts l G Y  h0 a_all a_text a_saved a_undone a_told a_pile a_open a_size a_capped a_connected a_bestCost a_bestCrosses a_bestPart a_part a_trees a_nodes a_out a_kept (0 : Int32) f_undos f_reached f_length f_begin f_sort f_sign f_value f_word f_wrongAt f_badAt f_bad f_read f_side f_piled t8.1 f_joins f_had f_treeMany t8.2.1 t11.2.1 t11.2.2.1 t11.2.2.2.1 t11.2.2.2.2.1 t11.2.2.2.2.2 f_outMany t14 t4.2.2.2.2.2 v1 N t16 hv17) mv_R_costOfParts k_1590 (hRk (by decide) (by decide)) hK hsk hS hP hD (isC := [0, 9, 10]) rfl (by decide) rfl rfl rfl hl.1 rfl (lv_room (Nat.le_of_ble_eq_true rfl)) d_R_move_68) hP hD hS rfl rfl (fun H locs hP hD hS => ?_)
          have hP : va_P G.1 classes [(h0, O_R (0 : Int32) a_all a_text a_saved a_undone f_undos f_reached f_length f_begin f_sort f_sign f_value f_word f_wrongAt f_badAt f_bad a_told f_read f_side a_pile f_piled a_open t8.1 f_joins f_had a_size a_capped a_connected a_bestCost a_bestCrosses a_bestPart a_part a_trees f_treeMany a_nodes t8.2.1 t11.2.1 t11.2.2.1 t11.2.2.2.1 t11.2.2.2.2.1 t11.2.2.2.2.2 a_out f_outMany a_kept), (a_all, aI G 1276 g_all), (a_bestCost, aJ G 512 t4.1), (a_bestCrosses, aI G 512 t4.2.1), (a_bestPart, aI G 512 t4.2.2.1), (a_capped, aZ G 256 t4.2.2.2.1), (a_connected, aZ G 256 t4.2.2.2.2.1), (a_nodes, aI G 8 t8.2.2.1), (a_open, aI G 502 t8.2.2.2), (a_part, aI G 256 t14), (a_size, aJ G 256 t4.2.2.2.2.2)] H := hP
          have hD : va_D A [(h0, O_R (0 : Int32) a_all a_text a_saved a_undone f_undos f_reached f_length f_begin f_sort f_sign f_value f_word f_wrongAt f_badAt f_bad a_told f_read f_side a_pile f_piled a_open t8.1 f_joins f_had a_size a_capped a_connected a_bestCost a_bestCrosses a_bestPart a_part a_trees f_treeMany a_nodes t8.2.1 t11.2.1 t11.2.2.1 t11.2.2.2.1 t11.2.2.2.2.1 t11.2.2.2.2.2 a_out f_outMany a_kept), (a_all, aI G 1276 g_all), (a_bestCost, aJ G 512 t4.1), (a_bestCrosses, aI G 512 t4.2.1), (a_bestPart, aI G 512 t4.2.2.1), (a_capped, aZ G 256 t4.2.2.2.1), (a_connected, aZ G 256 t4.2.2.2.2.1), (a_nodes, aI G 8 t8.2.2.1), (a_open, aI G 502 t8.2.2.2), (a_part, aI G 256 t14), (a_size, aJ G 256 t4.2.2.2.2.2)] := hD
          cases hf
          exact hret 71 ls H locs hP hS d_R_move_71
        · have hf := di_t c13 hf
          refine lv_ldc2 (v := (-1 : Int64)) hx hb hown (htl _ k_1639) d_R_move_58 ?_
          cases hf
          exact hret 61 ls H locs hP hS d_R_move_61
      · have hf := di_t c10 hf
        refine lv_aload_n hx hb d_R_move_44 rfl (lv_at hl 1 rfl) ?_
        obtain ⟨t18, hv19, hf⟩ := db_e hf
        refine call_i (isC := [0, 7, 9]) (run_V (As := []) (rest := []) (ci := 12) (q0 := 0) hx hb hml hown htl (c_R_moveMany l G Y  h0 a_all a_text a_saved a_undone a_told a_pile a_open a_size a_capped a_connected a_bestCost a_bestCrosses a_bestPart a_part a_trees a_nodes a_out a_kept (0 : Int32) f_undos f_reached f_length f_begin f_sort f_sign f_value f_word f_wrongAt f_badAt f_bad f_read f_side f_piled t8.1 f_joins f_had f_treeMany t8.2.1 f_moveNode f_movePart f_moveFirst f_moveThen f_moveOther f_outMany t8.2.2.1 t6 N t18 hv19) mv_R_moveMany k_1594 (hRk (by decide) (by decide)) hK hsk hS hP hD (isC := [0, 7, 9]) rfl (by decide) rfl rfl rfl hl.1 rfl (lv_room (Nat.le_of_ble_eq_true rfl)) d_R_move_45) hP hD hS rfl rfl (fun H locs hP hD hS => ?_)
        have hP : va_P G.1 classes [(h0, O_R (0 : Int32) a_all a_text a_saved a_undone f_undos f_reached f_length f_begin f_sort f_sign f_value f_word f_wrongAt f_badAt f_bad a_told f_read f_side a_pile f_piled a_open t8.1 f_joins f_had a_size a_capped a_connected a_bestCost a_bestCrosses a_bestPart a_part a_trees f_treeMany a_nodes t8.2.1 t18.2.1 t18.2.2.1 t18.2.2.2.1 t18.2.2.2.2.1 t18.2.2.2.2.2 a_out f_outMany a_kept), (a_all, aI G 1276 g_all), (a_bestCost, aJ G 512 t4.1), (a_bestCrosses, aI G 512 t4.2.1), (a_bestPart, aI G 512 t4.2.2.1), (a_capped, aZ G 256 t4.2.2.2.1), (a_connected, aZ G 256 t4.2.2.2.2.1), (a_nodes, aI G 8 t8.2.2.1), (a_open, aI G 502 t8.2.2.2), (a_part, aI G 256 t6), (a_size, aJ G 256 t4.2.2.2.2.2)] H := hP
        have hD : va_D A [(h0, O_R (0 : Int32) a_all a_text a_saved a_undone f_undos f_reached f_length f_begin f_sort f_sign f_value f_word f_wrongAt f_badAt f_bad a_told f_read f_side a_pile f_piled a_open t8.1 f_joins f_had a_size a_capped a_connected a_bestCost a_bestCrosses a_bestPart a_part a_trees f_treeMany a_nodes t8.2.1 t18.2.1 t18.2.2.1 t18.2.2.2.1 t18.2.2.2.2.1 t18.2.2.2.2.2 a_out f_outMany a_kept), (a_all, aI G 1276 g_all), (a_bestCost, aJ G 512 t4.1), (a_bestCrosses, aI G 512 t4.2.1), (a_bestPart, aI G 512 t4.2.2.1), (a_capped, aZ G 256 t4.2.2.2.1), (a_connected, aZ G 256 t4.2.2.2.2.1), (a_nodes, aI G 8 t8.2.2.1), (a_open, aI G 502 t8.2.2.2), (a_part, aI G 256 t6), (a_size, aJ G 256 t4.2.2.2.2.2)] := hD
        refine lv_i2l hx hb d_R_move_48 rfl ?_
        cases hf
        exact hret 49 ls H locs hP hS d_R_move_49
    · have hf := di_f c3 hf
      exact hJ22 (0 : Int32) f_opened f_nodeMany f_moveNode f_movePart f_moveFirst f_moveThen f_moveOther g_bestCost g_bestCrosses g_bestPart g_capped g_connected g_nodes g_open g_part g_size H locs ls ⟨hP, hD, hS⟩ (lv_sub hl [] rfl) hf
set_option maxHeartbeats 4000000 in
set_option maxRecDepth 100000 in
theorem c_R_steps (l : Launch) (G : va_G × (Nat → ClassId)) (Y : (Nat → Nat) × (Nat → Nat)) (h0 : Nat) (a_all : Nat) (a_text : Nat) (a_saved : Nat) (a_undone : Nat) (a_told : Nat) (a_pile : Nat) (a_open : Nat) (a_size : Nat) (a_capped : Nat) (a_connected : Nat) (a_bestCost : Nat) (a_bestCrosses : Nat) (a_bestPart : Nat) (a_part : Nat) (a_trees : Nat) (a_nodes : Nat) (a_out : Nat) (a_kept : Nat) (f_raised : Int32) (f_undos : Int32) (f_reached : Int32) (f_length : Int32) (f_begin : Int32) (f_sort : Int32) (f_sign : Int32) (f_value : Int32) (f_word : Int64) (f_wrongAt : Int32) (f_badAt : Int32) (f_bad : Int32) (f_read : Int32) (f_side : Int32) (f_piled : Int32) (f_opened : Int32) (f_joins : Int32) (f_had : Int32) (f_treeMany : Int32) (f_nodeMany : Int32) (f_moveNode : Int32) (f_movePart : Int32) (f_moveFirst : Int32) (f_moveThen : Int32) (f_moveOther : Int32) (f_outMany : Int32) (g_all : Nat → Int32) (g_bestCost : Nat → Int64) (g_bestCrosses : Nat → Int32) (g_bestPart : Nat → Int32) (g_capped : Nat → Int32) (g_connected : Nat → Int32) (g_nodes : Nat → Int32) (g_open : Nat → Int32) (g_part : Nat → Int32) (g_size : Nat → Int64) (N : Nat) (res : Int32 × Int32 × Int32 × Int32 × Int32 × Int32 × Int32 × Int32 × Int32 × (Nat → Int64) × (Nat → Int32) × (Nat → Int32) × (Nat → Int32) × (Nat → Int32) × (Nat → Int32) × (Nat → Int32) × (Nat → Int32) × (Nat → Int64)) (hf : R_steps N f_raised f_opened f_nodeMany f_moveNode f_movePart f_moveFirst f_moveThen f_moveOther g_all g_bestCost g_bestCrosses g_bestPart g_capped g_connected g_nodes g_open g_part g_size = some res) : Ci l classes y_R_steps b_R_steps 5 (some .int) (rmk 5) G.1 (tyL G) Y [.ref h0] [(h0, O_R f_raised a_all a_text a_saved a_undone f_undos f_reached f_length f_begin f_sort f_sign f_value f_word f_wrongAt f_badAt f_bad a_told f_read f_side a_pile f_piled a_open f_opened f_joins f_had a_size a_capped a_connected a_bestCost a_bestCrosses a_bestPart a_part a_trees f_treeMany a_nodes f_nodeMany f_moveNode f_movePart f_moveFirst f_moveThen f_moveOther a_out f_outMany a_kept), (a_all, aI G 1276 g_all), (a_bestCost, aJ G 512 g_bestCost), (a_bestCrosses, aI G 512 g_bestCrosses), (a_bestPart, aI G 512 g_bestPart), (a_capped, aZ G 256 g_capped), (a_connected, aZ G 256 g_connected), (a_nodes, aI G 8 g_nodes), (a_open, aI G 502 g_open), (a_part, aI G 256 g_part), (a_size, aJ G 256 g_size)] [(h0, O_R res.2.1 a_all a_text a_saved a_undone f_undos f_reached f_length f_begin f_sort f_sign f_value f_word f_wrongAt f_badAt f_bad a_told f_read f_side a_pile f_piled a_open res.2.2.1 f_joins f_had a_size a_capped a_connected a_bestCost a_bestCrosses a_bestPart a_part a_trees f_treeMany a_nodes res.2.2.2.1 res.2.2.2.2.1 res.2.2.2.2.2.1 res.2.2.2.2.2.2.1 res.2.2.2.2.2.2.2.1 res.2.2.2.2.2.2.2.2.1 a_out f_outMany a_kept), (a_all, aI G 1276 g_all), (a_bestCost, aJ G 512 res.2.2.2.2.2.2.2.2.2.1), (a_bestCrosses, aI G 512 res.2.2.2.2.2.2.2.2.2.2.1), (a_bestPart, aI G 512 res.2.2.2.2.2.2.2.2.2.2.2.1), (a_capped, aZ G 256 res.2.2.2.2.2.2.2.2.2.2.2.2.1), (a_connected, aZ G 256 res.2.2.2.2.2.2.2.2.2.2.2.2.2.1), (a_nodes, aI G 8 res.2.2.2.2.2.2.2.2.2.2.2.2.2.2.1), (a_open, aI G 502 res.2.2.2.2.2.2.2.2.2.2.2.2.2.2.2.1), (a_part, aI G 256 res.2.2.2.2.2.2.2.2.2.2.2.2.2.2.2.2.1), (a_size, aJ G 256 res.2.2.2.2.2.2.2.2.2.2.2.2.2.2.2.2.2)] res.1 := by
  refine entI (by decide) (Nat.le_of_ble_eq_true rfl) ?_
  intro p e s m args below meth c ls A Q hx hb hml hown htl hK hsk wq hl hret
  obtain ⟨hP, hD, hS⟩ := wq
  have hl : lv_has ls 5 [(0, .ref h0)] := hl
  have hS : va_S A s.heap s.heap [] := hS
  obtain ⟨H, hH⟩ : ∃ H : Heap, H = s.heap := ⟨_, rfl⟩
  obtain ⟨locs, hlocs⟩ : ∃ z : List Loc, z = [] := ⟨_, rfl⟩
  rw [← hH] at hP
  replace hS : va_S A s.heap H locs := by rw [hH, hlocs]; exact hS
  suffices hgo : W p l e (rmk 5) s m args below meth c H locs 0 0 Q (F0 m 0 ls []) by rw [hH, hlocs] at hgo; exact hgo
  have hJ63 : ∀ (f_raised : Int32) (f_opened : Int32) (f_nodeMany : Int32) (f_moveNode : Int32) (f_movePart : Int32) (f_moveFirst : Int32) (f_moveThen : Int32) (f_moveOther : Int32) (g_bestCost : Nat → Int64) (g_bestCrosses : Nat → Int32) (g_bestPart : Nat → Int32) (g_capped : Nat → Int32) (g_connected : Nat → Int32) (g_nodes : Nat → Int32) (g_open : Nat → Int32) (g_part : Nat → Int32) (g_size : Nat → Int64) (x2 : Int32) (H : Heap) (locs : List Loc) (ls : Array Slot), PDS G.1 classes A s [(h0, O_R f_raised a_all a_text a_saved a_undone f_undos f_reached f_length f_begin f_sort f_sign f_value f_word f_wrongAt f_badAt f_bad a_told f_read f_side a_pile f_piled a_open f_opened f_joins f_had a_size a_capped a_connected a_bestCost a_bestCrosses a_bestPart a_part a_trees f_treeMany a_nodes f_nodeMany f_moveNode f_movePart f_moveFirst f_moveThen f_moveOther a_out f_outMany a_kept), (a_all, aI G 1276 g_all), (a_bestCost, aJ G 512 g_bestCost), (a_bestCrosses, aI G 512 g_bestCrosses), (a_bestPart, aI G 512 g_bestPart), (a_capped, aZ G 256 g_capped), (a_connected, aZ G 256 g_connected), (a_nodes, aI G 8 g_nodes), (a_open, aI G 502 g_open), (a_part, aI G 256 g_part), (a_size, aJ G 256 g_size)] H locs → lv_has ls 5 [(2, .int x2)] → R_steps_63 N f_raised f_opened f_nodeMany f_moveNode f_movePart f_moveFirst f_moveThen f_moveOther g_all g_bestCost g_bestCrosses g_bestPart g_capped g_connected g_nodes g_open g_part g_size x2 = some res → W p l e (rmk 5) s m args below meth c H locs 0 0 Q (F0 m 63 ls []) := by
    intro f_raised f_opened f_nodeMany f_moveNode f_movePart f_moveFirst f_moveThen f_moveOther g_bestCost g_bestCrosses g_bestPart g_capped g_connected g_nodes g_open g_part g_size x2 H locs ls wq hl hf
    obtain ⟨hP, hD, hS⟩ := wq
    refine lv_iload_n hx hb d_R_steps_63 rfl (lv_at hl 0 rfl) ?_
    cases hf
    exact hret 64 ls H locs hP hS d_R_steps_64
  have hJ35 : ∀ (f_raised : Int32) (f_opened : Int32) (f_nodeMany : Int32) (f_moveNode : Int32) (f_movePart : Int32) (f_moveFirst : Int32) (f_moveThen : Int32) (f_moveOther : Int32) (g_bestCost : Nat → Int64) (g_bestCrosses : Nat → Int32) (g_bestPart : Nat → Int32) (g_capped : Nat → Int32) (g_connected : Nat → Int32) (g_nodes : Nat → Int32) (g_open : Nat → Int32) (g_part : Nat → Int32) (g_size : Nat → Int64) (x1 : Int32) (x2 : Int32) (x3 : Int32) (H : Heap) (locs : List Loc) (ls : Array Slot), PDS G.1 classes A s [(h0, O_R f_raised a_all a_text a_saved a_undone f_undos f_reached f_length f_begin f_sort f_sign f_value f_word f_wrongAt f_badAt f_bad a_told f_read f_side a_pile f_piled a_open f_opened f_joins f_had a_size a_capped a_connected a_bestCost a_bestCrosses a_bestPart a_part a_trees f_treeMany a_nodes f_nodeMany f_moveNode f_movePart f_moveFirst f_moveThen f_moveOther a_out f_outMany a_kept), (a_all, aI G 1276 g_all), (a_bestCost, aJ G 512 g_bestCost), (a_bestCrosses, aI G 512 g_bestCrosses), (a_bestPart, aI G 512 g_bestPart), (a_capped, aZ G 256 g_capped), (a_connected, aZ G 256 g_connected), (a_nodes, aI G 8 g_nodes), (a_open, aI G 502 g_open), (a_part, aI G 256 g_part), (a_size, aJ G 256 g_size)] H locs → lv_has ls 5 [(0, .ref h0), (1, .int x1), (2, .int x2), (3, .int x3)] → R_steps_35 N f_raised f_opened f_nodeMany f_moveNode f_movePart f_moveFirst f_moveThen f_moveOther g_all g_bestCost g_bestCrosses g_bestPart g_capped g_connected g_nodes g_open g_part g_size x1 x2 x3 = some res → W p l e (rmk 5) s m args below meth c H locs 0 0 Q (F0 m 35 ls []) := by
    intro f_raised f_opened f_nodeMany f_moveNode f_movePart f_moveFirst f_moveThen f_moveOther g_bestCost g_bestCrosses g_bestPart g_capped g_connected g_nodes g_open g_part g_size x1 x2 x3 H locs ls wq hl hf
    obtain ⟨hP, hD, hS⟩ := wq
    obtain ⟨y35, hy35, hfo35⟩ := db_e hf
    have hL35 : ∀ (n : Nat) (f_opened : Int32) (f_nodeMany : Int32) (f_moveNode : Int32) (f_movePart : Int32) (f_moveFirst : Int32) (f_moveThen : Int32) (f_moveOther : Int32) (g_nodes : Nat → Int32) (g_open : Nat → Int32) (g_part : Nat → Int32) (x2 : Int32) (x3 : Int32) (H : Heap) (locs : List Loc) (ls : Array Slot), lp (fun x => R_steps_b35 N f_raised x.1 x.2.1 x.2.2.1 x.2.2.2.1 x.2.2.2.2.1 x.2.2.2.2.2.1 x.2.2.2.2.2.2.1 g_all g_bestCost g_bestCrosses g_bestPart g_capped g_connected x.2.2.2.2.2.2.2.1 x.2.2.2.2.2.2.2.2.1 x.2.2.2.2.2.2.2.2.2.1 g_size x1 x.2.2.2.2.2.2.2.2.2.2.1 x.2.2.2.2.2.2.2.2.2.2.2) n (f_opened, f_nodeMany, f_moveNode, f_movePart, f_moveFirst, f_moveThen, f_moveOther, g_nodes, g_open, g_part, x2, x3) = some y35 → PDS G.1 classes A s [(h0, O_R f_raised a_all a_text a_saved a_undone f_undos f_reached f_length f_begin f_sort f_sign f_value f_word f_wrongAt f_badAt f_bad a_told f_read f_side a_pile f_piled a_open f_opened f_joins f_had a_size a_capped a_connected a_bestCost a_bestCrosses a_bestPart a_part a_trees f_treeMany a_nodes f_nodeMany f_moveNode f_movePart f_moveFirst f_moveThen f_moveOther a_out f_outMany a_kept), (a_all, aI G 1276 g_all), (a_bestCost, aJ G 512 g_bestCost), (a_bestCrosses, aI G 512 g_bestCrosses), (a_bestPart, aI G 512 g_bestPart), (a_capped, aZ G 256 g_capped), (a_connected, aZ G 256 g_connected), (a_nodes, aI G 8 g_nodes), (a_open, aI G 502 g_open), (a_part, aI G 256 g_part), (a_size, aJ G 256 g_size)] H locs → lv_has ls 5 [(0, .ref h0), (1, .int x1), (2, .int x2), (3, .int x3)] → W p l e (rmk 5) s m args below meth c H locs 0 0 Q (F0 m 35 ls []) := by
      intro n
      induction n with
      | zero =>
        intro f_opened f_nodeMany f_moveNode f_movePart f_moveFirst f_moveThen f_moveOther g_nodes g_open g_part x2 x3 H locs ls hf
        exact lp_0 hf
      | succ n ih35 =>
        intro f_opened f_nodeMany f_moveNode f_movePart f_moveFirst f_moveThen f_moveOther g_nodes g_open g_part x2 x3 H locs ls hf wq hl
        obtain ⟨hP, hD, hS⟩ := wq
        obtain ⟨r35, hf, hk35⟩ := lp_s hf
        have hf : R_steps_b35 N f_raised f_opened f_nodeMany f_moveNode f_movePart f_moveFirst f_moveThen f_moveOther g_all g_bestCost g_bestCrosses g_bestPart g_capped g_connected g_nodes g_open g_part g_size x1 x2 x3 = some r35 := hf
        refine lv_iload_n hx hb d_R_steps_35 rfl (lv_at hl 3 rfl) ?_
        refine lv_iconst (v := (-1 : Int32)) hx hb d_R_steps_36 (by decide) ?_
        refine lv_icmp_eq (tgt := 63) hx hb d_R_steps_37 (by decide) (fun c9 => ?_) (fun c9 => ?_)
        · have hf := di_t c9 hf
          have hq35 := lpk_x hf hk35
          have hf := ex_y (f := fun y => R_steps_a35 N f_raised g_all g_bestCost g_bestCrosses g_bestPart g_capped g_connected g_size x1 y) hq35 hfo35
          have hf : R_steps_63 N f_raised f_opened f_nodeMany f_moveNode f_movePart f_moveFirst f_moveThen f_moveOther g_all g_bestCost g_bestCrosses g_bestPart g_capped g_connected g_nodes g_open g_part g_size x2 = some res := hf
          exact hJ63 f_raised f_opened f_nodeMany f_moveNode f_movePart f_moveFirst f_moveThen f_moveOther g_bestCost g_bestCrosses g_bestPart g_capped g_connected g_nodes g_open g_part g_size x2 H locs ls ⟨hP, hD, hS⟩ (lv_sub hl [2] rfl) hf
        · have hf := di_f c9 hf
          refine lv_aload_n hx hb d_R_steps_40 rfl (lv_at hl 0 rfl) ?_
          refine lv_iload_n hx hb d_R_steps_41 rfl (lv_at hl 3 rfl) ?_
          obtain ⟨t10, hv11, hf⟩ := db_e hf
          refine call_i (isC := [0, 7, 9]) (run_V (As := [.int x3]) (rest := []) (ci := 12) (q0 := 0) hx hb hml hown htl (c_R_isMove l G Y  h0 a_all a_text a_saved a_undone a_told a_pile a_open a_size a_capped a_connected a_bestCost a_bestCrosses a_bestPart a_part a_trees a_nodes a_out a_kept f_raised f_undos f_reached f_length f_begin f_sort f_sign f_value f_word f_wrongAt f_badAt f_bad f_read f_side f_piled f_opened f_joins f_had f_treeMany f_nodeMany f_moveNode f_movePart f_moveFirst f_moveThen f_moveOther f_outMany g_nodes g_part x3 N t10 hv11) mv_R_isMove k_1598 (hRk (by decide) (by decide)) hK hsk hS hP hD (isC := [0, 7, 9]) rfl (by decide) rfl rfl rfl hl.1 rfl (lv_room (Nat.le_of_ble_eq_true rfl)) d_R_steps_42) hP hD hS rfl rfl (fun H locs hP hD hS => ?_)
          have hP : va_P G.1 classes [(h0, O_R f_raised a_all a_text a_saved a_undone f_undos f_reached f_length f_begin f_sort f_sign f_value f_word f_wrongAt f_badAt f_bad a_told f_read f_side a_pile f_piled a_open f_opened f_joins f_had a_size a_capped a_connected a_bestCost a_bestCrosses a_bestPart a_part a_trees f_treeMany a_nodes f_nodeMany t10.2.1 t10.2.2.1 t10.2.2.2.1 t10.2.2.2.2.1 t10.2.2.2.2.2 a_out f_outMany a_kept), (a_all, aI G 1276 g_all), (a_bestCost, aJ G 512 g_bestCost), (a_bestCrosses, aI G 512 g_bestCrosses), (a_bestPart, aI G 512 g_bestPart), (a_capped, aZ G 256 g_capped), (a_connected, aZ G 256 g_connected), (a_nodes, aI G 8 g_nodes), (a_open, aI G 502 g_open), (a_part, aI G 256 g_part), (a_size, aJ G 256 g_size)] H := hP
          have hD : va_D A [(h0, O_R f_raised a_all a_text a_saved a_undone f_undos f_reached f_length f_begin f_sort f_sign f_value f_word f_wrongAt f_badAt f_bad a_told f_read f_side a_pile f_piled a_open f_opened f_joins f_had a_size a_capped a_connected a_bestCost a_bestCrosses a_bestPart a_part a_trees f_treeMany a_nodes f_nodeMany t10.2.1 t10.2.2.1 t10.2.2.2.1 t10.2.2.2.2.1 t10.2.2.2.2.2 a_out f_outMany a_kept), (a_all, aI G 1276 g_all), (a_bestCost, aJ G 512 g_bestCost), (a_bestCrosses, aI G 512 g_bestCrosses), (a_bestPart, aI G 512 g_bestPart), (a_capped, aZ G 256 g_capped), (a_connected, aZ G 256 g_connected), (a_nodes, aI G 8 g_nodes), (a_open, aI G 502 g_open), (a_part, aI G 256 g_part), (a_size, aJ G 256 g_size)] := hD
          refine lv_istore (lv' := [(4, .int t10.1), (0, .ref h0), (1, .int x1), (2, .int x2), (3, .int x3)]) hx hb d_R_steps_45 hl (by decide) rfl (fun ls hl => ?_)
          refine lv_aload_n hx hb d_R_steps_47 rfl (lv_at hl 1 rfl) ?_
          obtain ⟨t12, hv13, hf⟩ := db_e hf
          refine call_v (isC := [0, 9]) (run_V (As := []) (rest := []) (ci := 12) (q0 := 0) hx hb hml hown htl (c_R_goes l G Y  h0 a_all a_text a_saved a_undone a_told a_pile a_open a_size a_capped a_connected a_bestCost a_bestCrosses a_bestPart a_part a_trees a_nodes a_out a_kept f_raised f_undos f_reached f_length f_begin f_sort f_sign f_value f_word f_wrongAt f_badAt f_bad f_read f_side f_piled f_opened f_joins f_had f_treeMany f_nodeMany t10.2.1 t10.2.2.1 t10.2.2.2.1 t10.2.2.2.2.1 t10.2.2.2.2.2 f_outMany g_part t12 hv13) mv_R_goes k_1602 (hRk (by decide) (by decide)) hK hsk hS hP hD (isC := [0, 9]) rfl (by decide) rfl rfl rfl hl.1 rfl (lv_room (Nat.le_of_ble_eq_true rfl)) d_R_steps_48) hP hD hS rfl rfl (fun H locs hP hD hS => ?_)
          have hP : va_P G.1 classes [(h0, O_R f_raised a_all a_text a_saved a_undone f_undos f_reached f_length f_begin f_sort f_sign f_value f_word f_wrongAt f_badAt f_bad a_told f_read f_side a_pile f_piled a_open f_opened f_joins f_had a_size a_capped a_connected a_bestCost a_bestCrosses a_bestPart a_part a_trees f_treeMany a_nodes f_nodeMany t10.2.1 t10.2.2.1 t10.2.2.2.1 t10.2.2.2.2.1 t10.2.2.2.2.2 a_out f_outMany a_kept), (a_all, aI G 1276 g_all), (a_bestCost, aJ G 512 g_bestCost), (a_bestCrosses, aI G 512 g_bestCrosses), (a_bestPart, aI G 512 g_bestPart), (a_capped, aZ G 256 g_capped), (a_connected, aZ G 256 g_connected), (a_nodes, aI G 8 g_nodes), (a_open, aI G 502 g_open), (a_part, aI G 256 t12), (a_size, aJ G 256 g_size)] H := hP
          have hD : va_D A [(h0, O_R f_raised a_all a_text a_saved a_undone f_undos f_reached f_length f_begin f_sort f_sign f_value f_word f_wrongAt f_badAt f_bad a_told f_read f_side a_pile f_piled a_open f_opened f_joins f_had a_size a_capped a_connected a_bestCost a_bestCrosses a_bestPart a_part a_trees f_treeMany a_nodes f_nodeMany t10.2.1 t10.2.2.1 t10.2.2.2.1 t10.2.2.2.2.1 t10.2.2.2.2.2 a_out f_outMany a_kept), (a_all, aI G 1276 g_all), (a_bestCost, aJ G 512 g_bestCost), (a_bestCrosses, aI G 512 g_bestCrosses), (a_bestPart, aI G 512 g_bestPart), (a_capped, aZ G 256 g_capped), (a_connected, aZ G 256 g_connected), (a_nodes, aI G 8 g_nodes), (a_open, aI G 502 g_open), (a_part, aI G 256 t12), (a_size, aJ G 256 g_size)] := hD
          obtain ⟨v14, ev14⟩ : ∃ z : Int32, z = x2 + (1 : Int32) := ⟨_, rfl⟩
          have hf := dn_e ev14 hf
          refine lv_iinc (v := v14) (lv' := [(2, .int v14), (4, .int t10.1), (0, .ref h0), (1, .int x1), (3, .int x3)]) hx hb d_R_steps_51 hl (k := 3) rfl (by rw [ev14]; rfl) (by decide) rfl (fun ls hl => ?_)
          refine lv_aload_n hx hb d_R_steps_54 rfl (lv_at hl 2 rfl) ?_
          refine lv_iload_n hx hb d_R_steps_55 rfl (lv_at hl 3 rfl) ?_
          obtain ⟨t15, hv16, hf⟩ := db_e hf
          refine call_i (isC := [0, 1, 7, 8, 9, 10]) (run_V (As := [.int x1]) (rest := []) (ci := 12) (q0 := 0) hx hb hml hown htl (c_R_bestMove l G Y  h0 a_all a_text a_saved a_undone a_told a_pile a_open a_size a_capped a_connected a_bestCost a_bestCrosses a_bestPart a_part a_trees a_nodes a_out a_kept f_raised f_undos f_reached f_length f_begin f_sort f_sign f_value f_word f_wrongAt f_badAt f_bad f_read f_side f_piled f_opened f_joins f_had f_treeMany f_nodeMany t10.2.1 t10.2.2.1 t10.2.2.2.1 t10.2.2.2.2.1 t10.2.2.2.2.2 f_outMany g_all g_nodes g_open t12 g_size x1 N t15 hv16) mv_R_bestMove k_1578 (hRk (by decide) (by decide)) hK hsk hS hP hD (isC := [0, 1, 7, 8, 9, 10]) rfl (by decide) rfl rfl rfl hl.1 rfl (lv_room (Nat.le_of_ble_eq_true rfl)) d_R_steps_56) hP hD hS rfl rfl (fun H locs hP hD hS => ?_)
          have hP : va_P G.1 classes [(h0, O_R f_raised a_all a_text a_saved a_undone f_undos f_reached f_length f_begin f_sort f_sign f_value f_word f_wrongAt f_badAt f_bad a_told f_read f_side a_pile f_piled a_open t15.2.1 f_joins f_had a_size a_capped a_connected a_bestCost a_bestCrosses a_bestPart a_part a_trees f_treeMany a_nodes t15.2.2.1 t15.2.2.2.1 t15.2.2.2.2.1 t15.2.2.2.2.2.1 t15.2.2.2.2.2.2.1 t15.2.2.2.2.2.2.2.1 a_out f_outMany a_kept), (a_all, aI G 1276 g_all), (a_bestCost, aJ G 512 g_bestCost), (a_bestCrosses, aI G 512 g_bestCrosses), (a_bestPart, aI G 512 g_bestPart), (a_capped, aZ G 256 g_capped), (a_connected, aZ G 256 g_connected), (a_nodes, aI G 8 t15.2.2.2.2.2.2.2.2.1), (a_open, aI G 502 t15.2.2.2.2.2.2.2.2.2.1), (a_part, aI G 256 t15.2.2.2.2.2.2.2.2.2.2), (a_size, aJ G 256 g_size)] H := hP
          have hD : va_D A [(h0, O_R f_raised a_all a_text a_saved a_undone f_undos f_reached f_length f_begin f_sort f_sign f_value f_word f_wrongAt f_badAt f_bad a_told f_read f_side a_pile f_piled a_open t15.2.1 f_joins f_had a_size a_capped a_connected a_bestCost a_bestCrosses a_bestPart a_part a_trees f_treeMany a_nodes t15.2.2.1 t15.2.2.2.1 t15.2.2.2.2.1 t15.2.2.2.2.2.1 t15.2.2.2.2.2.2.1 t15.2.2.2.2.2.2.2.1 a_out f_outMany a_kept), (a_all, aI G 1276 g_all), (a_bestCost, aJ G 512 g_bestCost), (a_bestCrosses, aI G 512 g_bestCrosses), (a_bestPart, aI G 512 g_bestPart), (a_capped, aZ G 256 g_capped), (a_connected, aZ G 256 g_connected), (a_nodes, aI G 8 t15.2.2.2.2.2.2.2.2.1), (a_open, aI G 502 t15.2.2.2.2.2.2.2.2.2.1), (a_part, aI G 256 t15.2.2.2.2.2.2.2.2.2.2), (a_size, aJ G 256 g_size)] := hD
          refine lv_istore_n (lv' := [(3, .int t15.1), (2, .int v14), (4, .int t10.1), (0, .ref h0), (1, .int x1)]) hx hb d_R_steps_59 rfl hl (by decide) rfl (fun ls hl => ?_)
          refine lv_goto (tgt := 35) hx hb d_R_steps_60 (by decide) ?_
          exact ih35 t15.2.1 t15.2.2.1 t15.2.2.2.1 t15.2.2.2.2.1 t15.2.2.2.2.2.1 t15.2.2.2.2.2.2.1 t15.2.2.2.2.2.2.2.1 t15.2.2.2.2.2.2.2.2.1 t15.2.2.2.2.2.2.2.2.2.1 t15.2.2.2.2.2.2.2.2.2.2 v14 t15.1 H locs ls (lpk_i hf hk35) ⟨hP, hD, hS⟩ (lv_sub hl [3, 4, 1, 0] rfl)
    exact hL35 N f_opened f_nodeMany f_moveNode f_movePart f_moveFirst f_moveThen f_moveOther g_nodes g_open g_part x2 x3 H locs ls hy35 ⟨hP, hD, hS⟩ hl
  refine lv_aload_n hx hb d_R_steps_0 rfl (lv_at hl 0 rfl) ?_
  refine lv_iconst (v := (0 : Int32)) hx hb d_R_steps_1 (by decide) ?_
  refine va_put (D := G.1) (ci := 12) (v := .int (0 : Int32)) (ty := .int) (C := n_R) (T := T_R) (N := 44) hx hb htl iw_R ty_R ty_R_ok nm_R hown hK hP hD hS 0 rfl rfl 0 (by decide) (htl _ k_1196) (fun _ h9 => h9) rfl (by decide +kernel) rfl rfl (Nat.le_of_ble_eq_true rfl) d_R_steps_2 (fun H locs hP hD hS => ?_)
  have hP : va_P G.1 classes [(h0, O_R (0 : Int32) a_all a_text a_saved a_undone f_undos f_reached f_length f_begin f_sort f_sign f_value f_word f_wrongAt f_badAt f_bad a_told f_read f_side a_pile f_piled a_open f_opened f_joins f_had a_size a_capped a_connected a_bestCost a_bestCrosses a_bestPart a_part a_trees f_treeMany a_nodes f_nodeMany f_moveNode f_movePart f_moveFirst f_moveThen f_moveOther a_out f_outMany a_kept), (a_all, aI G 1276 g_all), (a_bestCost, aJ G 512 g_bestCost), (a_bestCrosses, aI G 512 g_bestCrosses), (a_bestPart, aI G 512 g_bestPart), (a_capped, aZ G 256 g_capped), (a_connected, aZ G 256 g_connected), (a_nodes, aI G 8 g_nodes), (a_open, aI G 502 g_open), (a_part, aI G 256 g_part), (a_size, aJ G 256 g_size)] H := hP
  have hD : va_D A [(h0, O_R (0 : Int32) a_all a_text a_saved a_undone f_undos f_reached f_length f_begin f_sort f_sign f_value f_word f_wrongAt f_badAt f_bad a_told f_read f_side a_pile f_piled a_open f_opened f_joins f_had a_size a_capped a_connected a_bestCost a_bestCrosses a_bestPart a_part a_trees f_treeMany a_nodes f_nodeMany f_moveNode f_movePart f_moveFirst f_moveThen f_moveOther a_out f_outMany a_kept), (a_all, aI G 1276 g_all), (a_bestCost, aJ G 512 g_bestCost), (a_bestCrosses, aI G 512 g_bestCrosses), (a_bestPart, aI G 512 g_bestPart), (a_capped, aZ G 256 g_capped), (a_connected, aZ G 256 g_connected), (a_nodes, aI G 8 g_nodes), (a_open, aI G 502 g_open), (a_part, aI G 256 g_part), (a_size, aJ G 256 g_size)] := hD
  refine lv_aload_n hx hb d_R_steps_5 rfl (lv_at hl 0 rfl) ?_
  refine va_get (D := G.1) (ci := 12) (v := .ref a_all) (C := n_R) (T := T_R) (N := 44) hx hb htl iw_R hown hK hP 0 rfl rfl 1 (by decide) (htl _ k_1197) (fun _ h9 => h9) rfl d_R_steps_6 ?_
  refine lv_bipush (v := (59 : Int32)) hx hb d_R_steps_9 (by decide) ?_
  refine va_iald hx hb hK hP 1 1 rfl rfl (vp_lit (by decide)) d_R_steps_11 ?_
  refine lv_topi (fun v1 ev1 => ?_)
  have hf := dn_e ev1 hf
  refine lv_istore_n (lv' := [(1, .int v1), (0, .ref h0)]) hx hb d_R_steps_12 rfl hl (by decide) rfl (fun ls hl => ?_)
  refine lv_iload_n hx hb d_R_steps_13 rfl (lv_at hl 0 rfl) ?_
  refine lv_if_ne (tgt := 19) hx hb d_R_steps_14 (by decide) (fun c2 => ?_) (fun c2 => ?_)
  · have hf := di_f c2 hf
    refine lv_aload_n hx hb d_R_steps_19 rfl (lv_at hl 1 rfl) ?_
    obtain ⟨t3, hv4, hf⟩ := db_e hf
    refine call_v (isC := [0, 1, 2, 3, 4, 5, 6, 10]) (run_V (As := []) (rest := []) (ci := 12) (q0 := 0) hx hb hml hown htl (c_R_lays l G Y  h0 a_all a_text a_saved a_undone a_told a_pile a_open a_size a_capped a_connected a_bestCost a_bestCrosses a_bestPart a_part a_trees a_nodes a_out a_kept (0 : Int32) f_undos f_reached f_length f_begin f_sort f_sign f_value f_word f_wrongAt f_badAt f_bad f_read f_side f_piled f_opened f_joins f_had f_treeMany f_nodeMany f_moveNode f_movePart f_moveFirst f_moveThen f_moveOther f_outMany g_all g_bestCost g_bestCrosses g_bestPart g_capped g_connected g_size N t3 hv4) mv_R_lays k_1503 (hRk (by decide) (by decide)) hK hsk hS hP hD (isC := [0, 1, 2, 3, 4, 5, 6, 10]) rfl (by decide) rfl rfl rfl hl.1 rfl (lv_room (Nat.le_of_ble_eq_true rfl)) d_R_steps_20) hP hD hS rfl rfl (fun H locs hP hD hS => ?_)
    have hP : va_P G.1 classes [(h0, O_R (0 : Int32) a_all a_text a_saved a_undone f_undos f_reached f_length f_begin f_sort f_sign f_value f_word f_wrongAt f_badAt f_bad a_told f_read f_side a_pile f_piled a_open f_opened f_joins f_had a_size a_capped a_connected a_bestCost a_bestCrosses a_bestPart a_part a_trees f_treeMany a_nodes f_nodeMany f_moveNode f_movePart f_moveFirst f_moveThen f_moveOther a_out f_outMany a_kept), (a_all, aI G 1276 g_all), (a_bestCost, aJ G 512 t3.1), (a_bestCrosses, aI G 512 t3.2.1), (a_bestPart, aI G 512 t3.2.2.1), (a_capped, aZ G 256 t3.2.2.2.1), (a_connected, aZ G 256 t3.2.2.2.2.1), (a_nodes, aI G 8 g_nodes), (a_open, aI G 502 g_open), (a_part, aI G 256 g_part), (a_size, aJ G 256 t3.2.2.2.2.2)] H := hP
    have hD : va_D A [(h0, O_R (0 : Int32) a_all a_text a_saved a_undone f_undos f_reached f_length f_begin f_sort f_sign f_value f_word f_wrongAt f_badAt f_bad a_told f_read f_side a_pile f_piled a_open f_opened f_joins f_had a_size a_capped a_connected a_bestCost a_bestCrosses a_bestPart a_part a_trees f_treeMany a_nodes f_nodeMany f_moveNode f_movePart f_moveFirst f_moveThen f_moveOther a_out f_outMany a_kept), (a_all, aI G 1276 g_all), (a_bestCost, aJ G 512 t3.1), (a_bestCrosses, aI G 512 t3.2.1), (a_bestPart, aI G 512 t3.2.2.1), (a_capped, aZ G 256 t3.2.2.2.1), (a_connected, aZ G 256 t3.2.2.2.2.1), (a_nodes, aI G 8 g_nodes), (a_open, aI G 502 g_open), (a_part, aI G 256 g_part), (a_size, aJ G 256 t3.2.2.2.2.2)] := hD
    refine lv_aload_n hx hb d_R_steps_23 rfl (lv_at hl 1 rfl) ?_
    obtain ⟨t5, hv6, hf⟩ := db_e hf
    refine call_v (isC := [0, 1, 9]) (run_V (As := []) (rest := []) (ci := 12) (q0 := 0) hx hb hml hown htl (c_R_takesPlan l G Y  h0 a_all a_text a_saved a_undone a_told a_pile a_open a_size a_capped a_connected a_bestCost a_bestCrosses a_bestPart a_part a_trees a_nodes a_out a_kept (0 : Int32) f_undos f_reached f_length f_begin f_sort f_sign f_value f_word f_wrongAt f_badAt f_bad f_read f_side f_piled f_opened f_joins f_had f_treeMany f_nodeMany f_moveNode f_movePart f_moveFirst f_moveThen f_moveOther f_outMany g_all g_part N t5 hv6) mv_R_takesPlan k_1574 (hRk (by decide) (by decide)) hK hsk hS hP hD (isC := [0, 1, 9]) rfl (by decide) rfl rfl rfl hl.1 rfl (lv_room (Nat.le_of_ble_eq_true rfl)) d_R_steps_24) hP hD hS rfl rfl (fun H locs hP hD hS => ?_)
    have hP : va_P G.1 classes [(h0, O_R (0 : Int32) a_all a_text a_saved a_undone f_undos f_reached f_length f_begin f_sort f_sign f_value f_word f_wrongAt f_badAt f_bad a_told f_read f_side a_pile f_piled a_open f_opened f_joins f_had a_size a_capped a_connected a_bestCost a_bestCrosses a_bestPart a_part a_trees f_treeMany a_nodes f_nodeMany f_moveNode f_movePart f_moveFirst f_moveThen f_moveOther a_out f_outMany a_kept), (a_all, aI G 1276 g_all), (a_bestCost, aJ G 512 t3.1), (a_bestCrosses, aI G 512 t3.2.1), (a_bestPart, aI G 512 t3.2.2.1), (a_capped, aZ G 256 t3.2.2.2.1), (a_connected, aZ G 256 t3.2.2.2.2.1), (a_nodes, aI G 8 g_nodes), (a_open, aI G 502 g_open), (a_part, aI G 256 t5), (a_size, aJ G 256 t3.2.2.2.2.2)] H := hP
    have hD : va_D A [(h0, O_R (0 : Int32) a_all a_text a_saved a_undone f_undos f_reached f_length f_begin f_sort f_sign f_value f_word f_wrongAt f_badAt f_bad a_told f_read f_side a_pile f_piled a_open f_opened f_joins f_had a_size a_capped a_connected a_bestCost a_bestCrosses a_bestPart a_part a_trees f_treeMany a_nodes f_nodeMany f_moveNode f_movePart f_moveFirst f_moveThen f_moveOther a_out f_outMany a_kept), (a_all, aI G 1276 g_all), (a_bestCost, aJ G 512 t3.1), (a_bestCrosses, aI G 512 t3.2.1), (a_bestPart, aI G 512 t3.2.2.1), (a_capped, aZ G 256 t3.2.2.2.1), (a_connected, aZ G 256 t3.2.2.2.2.1), (a_nodes, aI G 8 g_nodes), (a_open, aI G 502 g_open), (a_part, aI G 256 t5), (a_size, aJ G 256 t3.2.2.2.2.2)] := hD
    refine lv_iconst (v := (0 : Int32)) hx hb d_R_steps_27 (by decide) ?_
    refine lv_istore_n (lv' := [(2, .int (0 : Int32)), (1, .int v1), (0, .ref h0)]) hx hb d_R_steps_28 rfl hl (by decide) rfl (fun ls hl => ?_)
    refine lv_aload_n hx hb d_R_steps_29 rfl (lv_at hl 2 rfl) ?_
    refine lv_iload_n hx hb d_R_steps_30 rfl (lv_at hl 1 rfl) ?_
    obtain ⟨t7, hv8, hf⟩ := db_e hf
    refine call_i (isC := [0, 1, 7, 8, 9, 10]) (run_V (As := [.int v1]) (rest := []) (ci := 12) (q0 := 0) hx hb hml hown htl (c_R_bestMove l G Y  h0 a_all a_text a_saved a_undone a_told a_pile a_open a_size a_capped a_connected a_bestCost a_bestCrosses a_bestPart a_part a_trees a_nodes a_out a_kept (0 : Int32) f_undos f_reached f_length f_begin f_sort f_sign f_value f_word f_wrongAt f_badAt f_bad f_read f_side f_piled f_opened f_joins f_had f_treeMany f_nodeMany f_moveNode f_movePart f_moveFirst f_moveThen f_moveOther f_outMany g_all g_nodes g_open t5 t3.2.2.2.2.2 v1 N t7 hv8) mv_R_bestMove k_1578 (hRk (by decide) (by decide)) hK hsk hS hP hD (isC := [0, 1, 7, 8, 9, 10]) rfl (by decide) rfl rfl rfl hl.1 rfl (lv_room (Nat.le_of_ble_eq_true rfl)) d_R_steps_31) hP hD hS rfl rfl (fun H locs hP hD hS => ?_)
    have hP : va_P G.1 classes [(h0, O_R (0 : Int32) a_all a_text a_saved a_undone f_undos f_reached f_length f_begin f_sort f_sign f_value f_word f_wrongAt f_badAt f_bad a_told f_read f_side a_pile f_piled a_open t7.2.1 f_joins f_had a_size a_capped a_connected a_bestCost a_bestCrosses a_bestPart a_part a_trees f_treeMany a_nodes t7.2.2.1 t7.2.2.2.1 t7.2.2.2.2.1 t7.2.2.2.2.2.1 t7.2.2.2.2.2.2.1 t7.2.2.2.2.2.2.2.1 a_out f_outMany a_kept), (a_all, aI G 1276 g_all), (a_bestCost, aJ G 512 t3.1), (a_bestCrosses, aI G 512 t3.2.1), (a_bestPart, aI G 512 t3.2.2.1), (a_capped, aZ G 256 t3.2.2.2.1), (a_connected, aZ G 256 t3.2.2.2.2.1), (a_nodes, aI G 8 t7.2.2.2.2.2.2.2.2.1), (a_open, aI G 502 t7.2.2.2.2.2.2.2.2.2.1), (a_part, aI G 256 t7.2.2.2.2.2.2.2.2.2.2), (a_size, aJ G 256 t3.2.2.2.2.2)] H := hP
    have hD : va_D A [(h0, O_R (0 : Int32) a_all a_text a_saved a_undone f_undos f_reached f_length f_begin f_sort f_sign f_value f_word f_wrongAt f_badAt f_bad a_told f_read f_side a_pile f_piled a_open t7.2.1 f_joins f_had a_size a_capped a_connected a_bestCost a_bestCrosses a_bestPart a_part a_trees f_treeMany a_nodes t7.2.2.1 t7.2.2.2.1 t7.2.2.2.2.1 t7.2.2.2.2.2.1 t7.2.2.2.2.2.2.1 t7.2.2.2.2.2.2.2.1 a_out f_outMany a_kept), (a_all, aI G 1276 g_all), (a_bestCost, aJ G 512 t3.1), (a_bestCrosses, aI G 512 t3.2.1), (a_bestPart, aI G 512 t3.2.2.1), (a_capped, aZ G 256 t3.2.2.2.1), (a_connected, aZ G 256 t3.2.2.2.2.1), (a_nodes, aI G 8 t7.2.2.2.2.2.2.2.2.1), (a_open, aI G 502 t7.2.2.2.2.2.2.2.2.2.1), (a_part, aI G 256 t7.2.2.2.2.2.2.2.2.2.2), (a_size, aJ G 256 t3.2.2.2.2.2)] := hD
    refine lv_istore_n (lv' := [(3, .int t7.1), (2, .int (0 : Int32)), (1, .int v1), (0, .ref h0)]) hx hb d_R_steps_34 rfl hl (by decide) rfl (fun ls hl => ?_)
    exact hJ35 (0 : Int32) t7.2.1 t7.2.2.1 t7.2.2.2.1 t7.2.2.2.2.1 t7.2.2.2.2.2.1 t7.2.2.2.2.2.2.1 t7.2.2.2.2.2.2.2.1 t3.1 t3.2.1 t3.2.2.1 t3.2.2.2.1 t3.2.2.2.2.1 t7.2.2.2.2.2.2.2.2.1 t7.2.2.2.2.2.2.2.2.2.1 t7.2.2.2.2.2.2.2.2.2.2 t3.2.2.2.2.2 v1 (0 : Int32) t7.1 H locs ls ⟨hP, hD, hS⟩ (lv_sub hl [3, 2, 1, 0] rfl) hf
  · have hf := di_t c2 hf
    refine lv_iconst (v := (-1 : Int32)) hx hb d_R_steps_17 (by decide) ?_
    cases hf
    exact hret 18 ls H locs hP hS d_R_steps_18
set_option maxHeartbeats 4000000 in
set_option maxRecDepth 100000 in
theorem c_R_copies (l : Launch) (G : va_G × (Nat → ClassId)) (Y : (Nat → Nat) × (Nat → Nat)) (h0 : Nat) (a_all : Nat) (a_text : Nat) (a_saved : Nat) (a_undone : Nat) (a_told : Nat) (a_pile : Nat) (a_open : Nat) (a_size : Nat) (a_capped : Nat) (a_connected : Nat) (a_bestCost : Nat) (a_bestCrosses : Nat) (a_bestPart : Nat) (a_part : Nat) (a_trees : Nat) (a_nodes : Nat) (a_out : Nat) (a_kept : Nat) (f_raised : Int32) (f_undos : Int32) (f_reached : Int32) (f_length : Int32) (f_begin : Int32) (f_sort : Int32) (f_sign : Int32) (f_value : Int32) (f_word : Int64) (f_wrongAt : Int32) (f_badAt : Int32) (f_bad : Int32) (f_read : Int32) (f_side : Int32) (f_piled : Int32) (f_opened : Int32) (f_joins : Int32) (f_had : Int32) (f_treeMany : Int32) (f_nodeMany : Int32) (f_moveNode : Int32) (f_movePart : Int32) (f_moveFirst : Int32) (f_moveThen : Int32) (f_moveOther : Int32) (f_outMany : Int32) (g_all : Nat → Int32) (x1 : Int32) (x2 : Int32) (N : Nat) (res : (Nat → Int32)) (hf : R_copies N g_all x1 x2 = some res) : Cv l classes y_R_copies b_R_copies 4 none (rmk 0) G.1 (tyL G) Y [.ref h0, .int x1, .int x2] [(h0, O_R f_raised a_all a_text a_saved a_undone f_undos f_reached f_length f_begin f_sort f_sign f_value f_word f_wrongAt f_badAt f_bad a_told f_read f_side a_pile f_piled a_open f_opened f_joins f_had a_size a_capped a_connected a_bestCost a_bestCrosses a_bestPart a_part a_trees f_treeMany a_nodes f_nodeMany f_moveNode f_movePart f_moveFirst f_moveThen f_moveOther a_out f_outMany a_kept), (a_all, aI G 1276 g_all)] [(h0, O_R f_raised a_all a_text a_saved a_undone f_undos f_reached f_length f_begin f_sort f_sign f_value f_word f_wrongAt f_badAt f_bad a_told f_read f_side a_pile f_piled a_open f_opened f_joins f_had a_size a_capped a_connected a_bestCost a_bestCrosses a_bestPart a_part a_trees f_treeMany a_nodes f_nodeMany f_moveNode f_movePart f_moveFirst f_moveThen f_moveOther a_out f_outMany a_kept), (a_all, aI G 1276 res)] := by
  refine entV (by decide) (Nat.le_of_ble_eq_true rfl) ?_
  intro p e s m args below meth c ls A Q hx hb hml hown htl hK hsk wq hl hret
  obtain ⟨hP, hD, hS⟩ := wq
  have hl : lv_has ls 4 [(0, .ref h0), (1, .int x1), (2, .int x2)] := hl
  have hS : va_S A s.heap s.heap [] := hS
  obtain ⟨H, hH⟩ : ∃ H : Heap, H = s.heap := ⟨_, rfl⟩
  obtain ⟨locs, hlocs⟩ : ∃ z : List Loc, z = [] := ⟨_, rfl⟩
  rw [← hH] at hP
  replace hS : va_S A s.heap H locs := by rw [hH, hlocs]; exact hS
  suffices hgo : W p l e (rmk 0) s m args below meth c H locs 0 0 Q (F0 m 0 ls []) by rw [hH, hlocs] at hgo; exact hgo
  have hJ39 : ∀ (g_all : Nat → Int32) (H : Heap) (locs : List Loc) (ls : Array Slot), PDS G.1 classes A s [(h0, O_R f_raised a_all a_text a_saved a_undone f_undos f_reached f_length f_begin f_sort f_sign f_value f_word f_wrongAt f_badAt f_bad a_told f_read f_side a_pile f_piled a_open f_opened f_joins f_had a_size a_capped a_connected a_bestCost a_bestCrosses a_bestPart a_part a_trees f_treeMany a_nodes f_nodeMany f_moveNode f_movePart f_moveFirst f_moveThen f_moveOther a_out f_outMany a_kept), (a_all, aI G 1276 g_all)] H locs → lv_has ls 4 [] → R_copies_39 N g_all = some res → W p l e (rmk 0) s m args below meth c H locs 0 0 Q (F0 m 39 ls []) := by
    intro g_all H locs ls wq hl hf
    obtain ⟨hP, hD, hS⟩ := wq
    cases hf
    exact hret 39 ls H locs hP hS d_R_copies_39
  have hJ2 : ∀ (g_all : Nat → Int32) (x3 : Int32) (H : Heap) (locs : List Loc) (ls : Array Slot), PDS G.1 classes A s [(h0, O_R f_raised a_all a_text a_saved a_undone f_undos f_reached f_length f_begin f_sort f_sign f_value f_word f_wrongAt f_badAt f_bad a_told f_read f_side a_pile f_piled a_open f_opened f_joins f_had a_size a_capped a_connected a_bestCost a_bestCrosses a_bestPart a_part a_trees f_treeMany a_nodes f_nodeMany f_moveNode f_movePart f_moveFirst f_moveThen f_moveOther a_out f_outMany a_kept), (a_all, aI G 1276 g_all)] H locs → lv_has ls 4 [(0, .ref h0), (1, .int x1), (2, .int x2), (3, .int x3)] → R_copies_2 N g_all x1 x2 x3 = some res → W p l e (rmk 0) s m args below meth c H locs 0 0 Q (F0 m 2 ls []) := by
    intro g_all x3 H locs ls wq hl hf
    obtain ⟨hP, hD, hS⟩ := wq
    obtain ⟨y2, hy2, hfo2⟩ := db_e hf
    have hL2 : ∀ (n : Nat) (g_all : Nat → Int32) (x3 : Int32) (H : Heap) (locs : List Loc) (ls : Array Slot), lp (fun x => R_copies_b2 N x.1 x1 x2 x.2) n (g_all, x3) = some y2 → PDS G.1 classes A s [(h0, O_R f_raised a_all a_text a_saved a_undone f_undos f_reached f_length f_begin f_sort f_sign f_value f_word f_wrongAt f_badAt f_bad a_told f_read f_side a_pile f_piled a_open f_opened f_joins f_had a_size a_capped a_connected a_bestCost a_bestCrosses a_bestPart a_part a_trees f_treeMany a_nodes f_nodeMany f_moveNode f_movePart f_moveFirst f_moveThen f_moveOther a_out f_outMany a_kept), (a_all, aI G 1276 g_all)] H locs → lv_has ls 4 [(0, .ref h0), (1, .int x1), (2, .int x2), (3, .int x3)] → W p l e (rmk 0) s m args below meth c H locs 0 0 Q (F0 m 2 ls []) := by
      intro n
      induction n with
      | zero =>
        intro g_all x3 H locs ls hf
        exact lp_0 hf
      | succ n ih2 =>
        intro g_all x3 H locs ls hf wq hl
        obtain ⟨hP, hD, hS⟩ := wq
        obtain ⟨r2, hf, hk2⟩ := lp_s hf
        have hf : R_copies_b2 N g_all x1 x2 x3 = some r2 := hf
        refine lv_iload_n hx hb d_R_copies_2 rfl (lv_at hl 3 rfl) ?_
        refine lv_sipush (v := (319 : Int32)) hx hb d_R_copies_3 (by decide) ?_
        refine lv_icmp_ge (tgt := 39) hx hb d_R_copies_6 (by decide) (fun c1 => ?_) (fun c1 => ?_)
        · have hf := di_t c1 hf
          have hq2 := lpk_x hf hk2
          have hf := ex_y (f := fun y => R_copies_a2 N x1 x2 y) hq2 hfo2
          have hf : R_copies_39 N g_all = some res := hf
          exact hJ39 g_all H locs ls ⟨hP, hD, hS⟩ (lv_sub hl [] rfl) hf
        · have hf := di_f c1 hf
          refine lv_aload_n hx hb d_R_copies_9 rfl (lv_at hl 0 rfl) ?_
          refine va_get (D := G.1) (ci := 12) (v := .ref a_all) (C := n_R) (T := T_R) (N := 44) hx hb htl iw_R hown hK hP 0 rfl rfl 1 (by decide) (htl _ k_1197) (fun _ h9 => h9) rfl d_R_copies_10 ?_
          refine lv_sipush (v := (319 : Int32)) hx hb d_R_copies_13 (by decide) ?_
          refine lv_iload_n hx hb d_R_copies_16 rfl (lv_at hl 2 rfl) ?_
          refine lv_imul hx hb d_R_copies_17 ?_
          refine lv_iload_n hx hb d_R_copies_18 rfl (lv_at hl 3 rfl) ?_
          refine lv_iadd hx hb d_R_copies_19 ?_
          refine lv_aload_n hx hb d_R_copies_20 rfl (lv_at hl 0 rfl) ?_
          refine va_get (D := G.1) (ci := 12) (v := .ref a_all) (C := n_R) (T := T_R) (N := 44) hx hb htl iw_R hown hK hP 0 rfl rfl 1 (by decide) (htl _ k_1197) (fun _ h9 => h9) rfl d_R_copies_21 ?_
          refine lv_sipush (v := (319 : Int32)) hx hb d_R_copies_24 (by decide) ?_
          refine lv_iload_n hx hb d_R_copies_27 rfl (lv_at hl 1 rfl) ?_
          refine lv_imul hx hb d_R_copies_28 ?_
          refine lv_iload_n hx hb d_R_copies_29 rfl (lv_at hl 3 rfl) ?_
          refine lv_iadd hx hb d_R_copies_30 ?_
          obtain ⟨c2, hf⟩ := dk_e hf
          refine va_iald hx hb hK hP 1 1 rfl rfl c2 d_R_copies_31 ?_
          obtain ⟨c3, hf⟩ := dk_e hf
          refine nx_iast hx hb hK hP hD hS 1 1 rfl rfl c3 d_R_copies_32 (fun v4 ev4 H locs hP hD hS => ?_)
          have hf := dn_e ev4 hf
          have hP : va_P G.1 classes [(h0, O_R f_raised a_all a_text a_saved a_undone f_undos f_reached f_length f_begin f_sort f_sign f_value f_word f_wrongAt f_badAt f_bad a_told f_read f_side a_pile f_piled a_open f_opened f_joins f_had a_size a_capped a_connected a_bestCost a_bestCrosses a_bestPart a_part a_trees f_treeMany a_nodes f_nodeMany f_moveNode f_movePart f_moveFirst f_moveThen f_moveOther a_out f_outMany a_kept), (a_all, aI G 1276 v4)] H := hP
          have hD : va_D A [(h0, O_R f_raised a_all a_text a_saved a_undone f_undos f_reached f_length f_begin f_sort f_sign f_value f_word f_wrongAt f_badAt f_bad a_told f_read f_side a_pile f_piled a_open f_opened f_joins f_had a_size a_capped a_connected a_bestCost a_bestCrosses a_bestPart a_part a_trees f_treeMany a_nodes f_nodeMany f_moveNode f_movePart f_moveFirst f_moveThen f_moveOther a_out f_outMany a_kept), (a_all, aI G 1276 v4)] := hD
          obtain ⟨v5, ev5⟩ : ∃ z : Int32, z = x3 + (1 : Int32) := ⟨_, rfl⟩
          have hf := dn_e ev5 hf
          refine lv_iinc (v := v5) (lv' := [(3, .int v5), (0, .ref h0), (1, .int x1), (2, .int x2)]) hx hb d_R_copies_33 hl (k := 3) rfl (by rw [ev5]; rfl) (by decide) rfl (fun ls hl => ?_)
          refine lv_goto (tgt := 2) hx hb d_R_copies_36 (by decide) ?_
          exact ih2 v4 v5 H locs ls (lpk_i hf hk2) ⟨hP, hD, hS⟩ (lv_sub hl [1, 2, 3, 0] rfl)
    exact hL2 N g_all x3 H locs ls hy2 ⟨hP, hD, hS⟩ hl
  refine lv_iconst (v := (0 : Int32)) hx hb d_R_copies_0 (by decide) ?_
  refine lv_istore_n (lv' := [(3, .int (0 : Int32)), (0, .ref h0), (1, .int x1), (2, .int x2)]) hx hb d_R_copies_1 rfl hl (by decide) rfl (fun ls hl => ?_)
  exact hJ2 g_all (0 : Int32) H locs ls ⟨hP, hD, hS⟩ (lv_sub hl [1, 2, 3, 0] rfl) hf
set_option maxHeartbeats 4000000 in
set_option maxRecDepth 100000 in
theorem c_R_bestOfAll (l : Launch) (G : va_G × (Nat → ClassId)) (Y : (Nat → Nat) × (Nat → Nat)) (h0 : Nat) (a_all : Nat) (a_text : Nat) (a_saved : Nat) (a_undone : Nat) (a_told : Nat) (a_pile : Nat) (a_open : Nat) (a_size : Nat) (a_capped : Nat) (a_connected : Nat) (a_bestCost : Nat) (a_bestCrosses : Nat) (a_bestPart : Nat) (a_part : Nat) (a_trees : Nat) (a_nodes : Nat) (a_out : Nat) (a_kept : Nat) (f_raised : Int32) (f_undos : Int32) (f_reached : Int32) (f_length : Int32) (f_begin : Int32) (f_sort : Int32) (f_sign : Int32) (f_value : Int32) (f_word : Int64) (f_wrongAt : Int32) (f_badAt : Int32) (f_bad : Int32) (f_read : Int32) (f_side : Int32) (f_piled : Int32) (f_opened : Int32) (f_joins : Int32) (f_had : Int32) (f_treeMany : Int32) (f_nodeMany : Int32) (f_moveNode : Int32) (f_movePart : Int32) (f_moveFirst : Int32) (f_moveThen : Int32) (f_moveOther : Int32) (f_outMany : Int32) (g_all : Nat → Int32) (g_bestCost : Nat → Int64) (g_bestCrosses : Nat → Int32) (g_bestPart : Nat → Int32) (g_capped : Nat → Int32) (g_connected : Nat → Int32) (g_size : Nat → Int64) (N : Nat) (res : Int64 × (Nat → Int64) × (Nat → Int32) × (Nat → Int32) × (Nat → Int32) × (Nat → Int32) × (Nat → Int64)) (hf : R_bestOfAll N g_all g_bestCost g_bestCrosses g_bestPart g_capped g_connected g_size = some res) : Cl l classes y_R_bestOfAll b_R_bestOfAll 1 (some .long) (rmk 5) G.1 (tyL G) Y [.ref h0] [(h0, O_R f_raised a_all a_text a_saved a_undone f_undos f_reached f_length f_begin f_sort f_sign f_value f_word f_wrongAt f_badAt f_bad a_told f_read f_side a_pile f_piled a_open f_opened f_joins f_had a_size a_capped a_connected a_bestCost a_bestCrosses a_bestPart a_part a_trees f_treeMany a_nodes f_nodeMany f_moveNode f_movePart f_moveFirst f_moveThen f_moveOther a_out f_outMany a_kept), (a_all, aI G 1276 g_all), (a_bestCost, aJ G 512 g_bestCost), (a_bestCrosses, aI G 512 g_bestCrosses), (a_bestPart, aI G 512 g_bestPart), (a_capped, aZ G 256 g_capped), (a_connected, aZ G 256 g_connected), (a_size, aJ G 256 g_size)] [(h0, O_R f_raised a_all a_text a_saved a_undone f_undos f_reached f_length f_begin f_sort f_sign f_value f_word f_wrongAt f_badAt f_bad a_told f_read f_side a_pile f_piled a_open f_opened f_joins f_had a_size a_capped a_connected a_bestCost a_bestCrosses a_bestPart a_part a_trees f_treeMany a_nodes f_nodeMany f_moveNode f_movePart f_moveFirst f_moveThen f_moveOther a_out f_outMany a_kept), (a_all, aI G 1276 g_all), (a_bestCost, aJ G 512 res.2.1), (a_bestCrosses, aI G 512 res.2.2.1), (a_bestPart, aI G 512 res.2.2.2.1), (a_capped, aZ G 256 res.2.2.2.2.1), (a_connected, aZ G 256 res.2.2.2.2.2.1), (a_size, aJ G 256 res.2.2.2.2.2.2)] res.1 := by
  refine entL (by decide) (Nat.le_of_ble_eq_true rfl) ?_
  intro p e s m args below meth c ls A Q hx hb hml hown htl hK hsk wq hl hret
  obtain ⟨hP, hD, hS⟩ := wq
  have hl : lv_has ls 1 [(0, .ref h0)] := hl
  have hS : va_S A s.heap s.heap [] := hS
  obtain ⟨H, hH⟩ : ∃ H : Heap, H = s.heap := ⟨_, rfl⟩
  obtain ⟨locs, hlocs⟩ : ∃ z : List Loc, z = [] := ⟨_, rfl⟩
  rw [← hH] at hP
  replace hS : va_S A s.heap H locs := by rw [hH, hlocs]; exact hS
  suffices hgo : W p l e (rmk 5) s m args below meth c H locs 0 0 Q (F0 m 0 ls []) by rw [hH, hlocs] at hgo; exact hgo
  refine lv_aload_n hx hb d_R_bestOfAll_0 rfl (lv_at hl 0 rfl) ?_
  obtain ⟨t1, hv2, hf⟩ := db_e hf
  refine call_v (isC := [0, 1, 2, 3, 4, 5, 6, 7]) (run_V (As := []) (rest := []) (ci := 12) (q0 := 0) hx hb hml hown htl (c_R_lays l G Y  h0 a_all a_text a_saved a_undone a_told a_pile a_open a_size a_capped a_connected a_bestCost a_bestCrosses a_bestPart a_part a_trees a_nodes a_out a_kept f_raised f_undos f_reached f_length f_begin f_sort f_sign f_value f_word f_wrongAt f_badAt f_bad f_read f_side f_piled f_opened f_joins f_had f_treeMany f_nodeMany f_moveNode f_movePart f_moveFirst f_moveThen f_moveOther f_outMany g_all g_bestCost g_bestCrosses g_bestPart g_capped g_connected g_size N t1 hv2) mv_R_lays k_1503 (hRk (by decide) (by decide)) hK hsk hS hP hD (isC := [0, 1, 2, 3, 4, 5, 6, 7]) rfl (by decide) rfl rfl rfl hl.1 rfl (lv_room (Nat.le_of_ble_eq_true rfl)) d_R_bestOfAll_1) hP hD hS rfl rfl (fun H locs hP hD hS => ?_)
  have hP : va_P G.1 classes [(h0, O_R f_raised a_all a_text a_saved a_undone f_undos f_reached f_length f_begin f_sort f_sign f_value f_word f_wrongAt f_badAt f_bad a_told f_read f_side a_pile f_piled a_open f_opened f_joins f_had a_size a_capped a_connected a_bestCost a_bestCrosses a_bestPart a_part a_trees f_treeMany a_nodes f_nodeMany f_moveNode f_movePart f_moveFirst f_moveThen f_moveOther a_out f_outMany a_kept), (a_all, aI G 1276 g_all), (a_bestCost, aJ G 512 t1.1), (a_bestCrosses, aI G 512 t1.2.1), (a_bestPart, aI G 512 t1.2.2.1), (a_capped, aZ G 256 t1.2.2.2.1), (a_connected, aZ G 256 t1.2.2.2.2.1), (a_size, aJ G 256 t1.2.2.2.2.2)] H := hP
  have hD : va_D A [(h0, O_R f_raised a_all a_text a_saved a_undone f_undos f_reached f_length f_begin f_sort f_sign f_value f_word f_wrongAt f_badAt f_bad a_told f_read f_side a_pile f_piled a_open f_opened f_joins f_had a_size a_capped a_connected a_bestCost a_bestCrosses a_bestPart a_part a_trees f_treeMany a_nodes f_nodeMany f_moveNode f_movePart f_moveFirst f_moveThen f_moveOther a_out f_outMany a_kept), (a_all, aI G 1276 g_all), (a_bestCost, aJ G 512 t1.1), (a_bestCrosses, aI G 512 t1.2.1), (a_bestPart, aI G 512 t1.2.2.1), (a_capped, aZ G 256 t1.2.2.2.1), (a_connected, aZ G 256 t1.2.2.2.2.1), (a_size, aJ G 256 t1.2.2.2.2.2)] := hD
  refine lv_aload_n hx hb d_R_bestOfAll_4 rfl (lv_at hl 0 rfl) ?_
  refine va_get (D := G.1) (ci := 12) (v := .ref a_bestCost) (C := n_R) (T := T_R) (N := 44) hx hb htl iw_R hown hK hP 0 rfl rfl 28 (by decide) (htl _ k_1224) (fun _ h9 => h9) rfl d_R_bestOfAll_5 ?_
  refine lv_aload_n hx hb d_R_bestOfAll_8 rfl (lv_at hl 0 rfl) ?_
  refine call_i (isC := [0, 1]) (run_V (As := []) (rest := [.ref a_bestCost]) (ci := 12) (q0 := 0) hx hb hml hown htl (c_R_everything l G Y  h0 a_all a_text a_saved a_undone a_told a_pile a_open a_size a_capped a_connected a_bestCost a_bestCrosses a_bestPart a_part a_trees a_nodes a_out a_kept f_raised f_undos f_reached f_length f_begin f_sort f_sign f_value f_word f_wrongAt f_badAt f_bad f_read f_side f_piled f_opened f_joins f_had f_treeMany f_nodeMany f_moveNode f_movePart f_moveFirst f_moveThen f_moveOther f_outMany g_all _ rfl) mv_R_everything k_1466 (hRk (by decide) (by decide)) hK hsk hS hP hD (isC := [0, 1]) rfl (by decide) rfl rfl rfl hl.1 rfl (lv_room (Nat.le_of_ble_eq_true rfl)) d_R_bestOfAll_9) hP hD hS rfl rfl (fun H locs hP hD hS => ?_)
  have hP : va_P G.1 classes [(h0, O_R f_raised a_all a_text a_saved a_undone f_undos f_reached f_length f_begin f_sort f_sign f_value f_word f_wrongAt f_badAt f_bad a_told f_read f_side a_pile f_piled a_open f_opened f_joins f_had a_size a_capped a_connected a_bestCost a_bestCrosses a_bestPart a_part a_trees f_treeMany a_nodes f_nodeMany f_moveNode f_movePart f_moveFirst f_moveThen f_moveOther a_out f_outMany a_kept), (a_all, aI G 1276 g_all), (a_bestCost, aJ G 512 t1.1), (a_bestCrosses, aI G 512 t1.2.1), (a_bestPart, aI G 512 t1.2.2.1), (a_capped, aZ G 256 t1.2.2.2.1), (a_connected, aZ G 256 t1.2.2.2.2.1), (a_size, aJ G 256 t1.2.2.2.2.2)] H := hP
  have hD : va_D A [(h0, O_R f_raised a_all a_text a_saved a_undone f_undos f_reached f_length f_begin f_sort f_sign f_value f_word f_wrongAt f_badAt f_bad a_told f_read f_side a_pile f_piled a_open f_opened f_joins f_had a_size a_capped a_connected a_bestCost a_bestCrosses a_bestPart a_part a_trees f_treeMany a_nodes f_nodeMany f_moveNode f_movePart f_moveFirst f_moveThen f_moveOther a_out f_outMany a_kept), (a_all, aI G 1276 g_all), (a_bestCost, aJ G 512 t1.1), (a_bestCrosses, aI G 512 t1.2.1), (a_bestPart, aI G 512 t1.2.2.1), (a_capped, aZ G 256 t1.2.2.2.1), (a_connected, aZ G 256 t1.2.2.2.2.1), (a_size, aJ G 256 t1.2.2.2.2.2)] := hD
  obtain ⟨c3, hf⟩ := dk_e hf
  refine va_lald hx hb hK hP 2 2 rfl rfl c3 d_R_bestOfAll_12 ?_
  cases hf
  exact hret 13 ls H locs hP hS d_R_bestOfAll_13
