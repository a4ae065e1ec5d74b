set_option maxHeartbeats 4000000 in
set_option maxRecDepth 100000 in
theorem c_S_grow (l : Launch) (G : va_G × (Nat → ClassId)) (Y : (Nat → Nat) × (Nat → Nat)) (h0 : Nat) (a_p1 : Nat) (a_p1_rows : Nat) (a_p1_left : Nat) (a_p1_right : Nat) (a_p1_by : Nat) (a_sizes : Nat) (a_capped : Nat) (a_connected : Nat) (a_leftIn : Nat) (a_rightIn : Nat) (a_pairs : Nat) (f_p1_relations : Int32) (f_p1_edges : Int32) (f_p1_limit : Int32) (f_known : Int32) (f_paired : Int32) (f_cappedInAll : Int32) (f_connectedInAll : Int32) (f_pairsInAll : Int32) (f_end : Int32) (g_p1_by : Nat → Int32) (g_p1_rows : Nat → Int32) (g_capped : Nat → Int32) (g_leftIn : Nat → Int32) (g_rightIn : Nat → Int32) (g_sizes : Nat → Int64) (x2 : Int32) (x3 : Int32) (N : Nat) (res : Int32 × (Nat → Int32) × (Nat → Int64)) (hf : S_grow N f_p1_edges f_cappedInAll g_p1_by g_p1_rows g_capped g_leftIn g_rightIn g_sizes x2 x3 = some res) : Cv l classes y_S_grow b_S_grow 11 none (rmk 1) G.1 (tyL G) Y [.ref h0, .ref a_p1, .int x2, .int x3] [(a_p1, O_G f_p1_relations f_p1_edges f_p1_limit a_p1_rows a_p1_left a_p1_right a_p1_by), (h0, O_S f_known f_paired f_cappedInAll f_connectedInAll f_pairsInAll a_sizes a_capped a_connected f_end a_leftIn a_rightIn a_pairs), (a_p1_by, aI G 16 g_p1_by), (a_p1_rows, aI G 8 g_p1_rows), (a_capped, aZ G 256 g_capped), (a_leftIn, aI G 256 g_leftIn), (a_rightIn, aI G 256 g_rightIn), (a_sizes, aJ G 256 g_sizes)] [(a_p1, O_G f_p1_relations f_p1_edges f_p1_limit a_p1_rows a_p1_left a_p1_right a_p1_by), (h0, O_S f_known f_paired res.1 f_connectedInAll f_pairsInAll a_sizes a_capped a_connected f_end a_leftIn a_rightIn a_pairs), (a_p1_by, aI G 16 g_p1_by), (a_p1_rows, aI G 8 g_p1_rows), (a_capped, aZ G 256 res.2.1), (a_leftIn, aI G 256 g_leftIn), (a_rightIn, aI G 256 g_rightIn), (a_sizes, aJ G 256 res.2.2)] := by
  refine entV (by decide) (Nat.le_of_ble_eq_true rfl) ?_
  intro p e s m args below meth c ls A Q hx hb hml hown htl hK hsk wq hl hret
  obtain ⟨hP, hD, hS⟩ := wq
  have hl : lv_has ls 11 [(0, .ref h0), (1, .ref a_p1), (2, .int x2), (3, .int x3)] := hl
  have hS : va_S A s.heap s.heap [] := hS
  obtain ⟨H, hH⟩ : ∃ H : Heap, H = s.heap := ⟨_, rfl⟩
  obtain ⟨locs, hlocs⟩ : ∃ z : List Loc, z = [] := ⟨_, rfl⟩
  rw [← hH] at hP
  replace hS : va_S A s.heap H locs := by rw [hH, hlocs]; exact hS
  suffices hgo : W p l e (rmk 1) s m args below meth c H locs 0 0 Q (F0 m 0 ls []) by rw [hH, hlocs] at hgo; exact hgo
  have hJ186 : ∀ (f_cappedInAll : Int32) (g_capped : Nat → Int32) (g_sizes : Nat → Int64) (z1 : Int32) (z2 : Int32) (H : Heap) (locs : List Loc) (ls : Array Slot), PDS G.1 classes A s [(a_p1, O_G f_p1_relations f_p1_edges f_p1_limit a_p1_rows a_p1_left a_p1_right a_p1_by), (h0, O_S f_known f_paired f_cappedInAll f_connectedInAll f_pairsInAll a_sizes a_capped a_connected f_end a_leftIn a_rightIn a_pairs), (a_p1_by, aI G 16 g_p1_by), (a_p1_rows, aI G 8 g_p1_rows), (a_capped, aZ G 256 g_capped), (a_leftIn, aI G 256 g_leftIn), (a_rightIn, aI G 256 g_rightIn), (a_sizes, aJ G 256 g_sizes)] H locs → lv_has ls 11 [] → S_grow_186 N f_p1_edges f_cappedInAll g_p1_by g_p1_rows g_capped g_leftIn g_rightIn g_sizes z1 z2 = some res → W p l e (rmk 1) s m args below meth c H locs 0 0 Q (F0 m 186 ls [.int z2, .int z1, .ref h0]) := by
    intro f_cappedInAll g_capped g_sizes z1 z2 H locs ls wq hl hf
    obtain ⟨hP, hD, hS⟩ := wq
    refine lv_iadd hx hb d_S_grow_186 ?_
    refine lv_topi (fun v30 ev30 => ?_)
    have hf := dn_e ev30 hf
    refine va_put (D := G.1) (ci := 8) (v := .int v30) (ty := .int) (C := n_S) (T := T_S) (N := 12) hx hb htl iw_S ty_S ty_S_ok nm_S hown hK hP hD hS 1 rfl rfl 2 (by decide) (htl _ k_346) (fun _ h9 => h9) rfl (by decide +kernel) rfl rfl (Nat.le_of_ble_eq_true rfl) d_S_grow_187 (fun H locs hP hD hS => ?_)
    have hP : va_P G.1 classes [(a_p1, O_G f_p1_relations f_p1_edges f_p1_limit a_p1_rows a_p1_left a_p1_right a_p1_by), (h0, O_S f_known f_paired v30 f_connectedInAll f_pairsInAll a_sizes a_capped a_connected f_end a_leftIn a_rightIn a_pairs), (a_p1_by, aI G 16 g_p1_by), (a_p1_rows, aI G 8 g_p1_rows), (a_capped, aZ G 256 g_capped), (a_leftIn, aI G 256 g_leftIn), (a_rightIn, aI G 256 g_rightIn), (a_sizes, aJ G 256 g_sizes)] H := hP
    have hD : va_D A [(a_p1, O_G f_p1_relations f_p1_edges f_p1_limit a_p1_rows a_p1_left a_p1_right a_p1_by), (h0, O_S f_known f_paired v30 f_connectedInAll f_pairsInAll a_sizes a_capped a_connected f_end a_leftIn a_rightIn a_pairs), (a_p1_by, aI G 16 g_p1_by), (a_p1_rows, aI G 8 g_p1_rows), (a_capped, aZ G 256 g_capped), (a_leftIn, aI G 256 g_leftIn), (a_rightIn, aI G 256 g_rightIn), (a_sizes, aJ G 256 g_sizes)] := hD
    cases hf
    exact hret 190 ls H locs hP hS d_S_grow_190
  have hJ165 : ∀ (f_cappedInAll : Int32) (g_capped : Nat → Int32) (g_sizes : Nat → Int64) (x4 : Int32) (z1 : Int32) (z2 : Int32) (H : Heap) (locs : List Loc) (ls : Array Slot), PDS G.1 classes A s [(a_p1, O_G f_p1_relations f_p1_edges f_p1_limit a_p1_rows a_p1_left a_p1_right a_p1_by), (h0, O_S f_known f_paired f_cappedInAll f_connectedInAll f_pairsInAll a_sizes a_capped a_connected f_end a_leftIn a_rightIn a_pairs), (a_p1_by, aI G 16 g_p1_by), (a_p1_rows, aI G 8 g_p1_rows), (a_capped, aZ G 256 g_capped), (a_leftIn, aI G 256 g_leftIn), (a_rightIn, aI G 256 g_rightIn), (a_sizes, aJ G 256 g_sizes)] H locs → lv_has ls 11 [(0, .ref h0), (4, .int x4)] → S_grow_165 N f_p1_edges f_cappedInAll g_p1_by g_p1_rows g_capped g_leftIn g_rightIn g_sizes x4 z1 z2 = some res → W p l e (rmk 1) s m args below meth c H locs 0 0 Q (F0 m 165 ls [.int z2, .int z1, .ref a_capped]) := by
    intro f_cappedInAll g_capped g_sizes x4 z1 z2 H locs ls wq hl hf
    obtain ⟨hP, hD, hS⟩ := wq
    obtain ⟨c26, hf⟩ := dk_e hf
    refine nx_zast hx hb hK hP hD hS 4 3 rfl rfl c26 d_S_grow_165 (fun v27 ev27 H locs hP hD hS => ?_)
    have hf := dn_e ev27 hf
    have hP : va_P G.1 classes [(a_p1, O_G f_p1_relations f_p1_edges f_p1_limit a_p1_rows a_p1_left a_p1_right a_p1_by), (h0, O_S f_known f_paired f_cappedInAll f_connectedInAll f_pairsInAll a_sizes a_capped a_connected f_end a_leftIn a_rightIn a_pairs), (a_p1_by, aI G 16 g_p1_by), (a_p1_rows, aI G 8 g_p1_rows), (a_capped, aZ G 256 v27), (a_leftIn, aI G 256 g_leftIn), (a_rightIn, aI G 256 g_rightIn), (a_sizes, aJ G 256 g_sizes)] H := hP
    have hD : va_D A [(a_p1, O_G f_p1_relations f_p1_edges f_p1_limit a_p1_rows a_p1_left a_p1_right a_p1_by), (h0, O_S f_known f_paired f_cappedInAll f_connectedInAll f_pairsInAll a_sizes a_capped a_connected f_end a_leftIn a_rightIn a_pairs), (a_p1_by, aI G 16 g_p1_by), (a_p1_rows, aI G 8 g_p1_rows), (a_capped, aZ G 256 v27), (a_leftIn, aI G 256 g_leftIn), (a_rightIn, aI G 256 g_rightIn), (a_sizes, aJ G 256 g_sizes)] := hD
    refine lv_aload_n hx hb d_S_grow_166 rfl (lv_at hl 0 rfl) ?_
    refine lv_dup hx hb d_S_grow_167 rfl ?_
    refine va_get (D := G.1) (ci := 8) (v := .int f_cappedInAll) (C := n_S) (T := T_S) (N := 12) hx hb htl iw_S hown hK hP 1 rfl rfl 2 (by decide) (htl _ k_346) (fun _ h9 => h9) rfl d_S_grow_168 ?_
    refine lv_aload_n hx hb d_S_grow_171 rfl (lv_at hl 0 rfl) ?_
    refine va_get (D := G.1) (ci := 8) (v := .ref a_capped) (C := n_S) (T := T_S) (N := 12) hx hb htl iw_S hown hK hP 1 rfl rfl 6 (by decide) (htl _ k_356) (fun _ h9 => h9) rfl d_S_grow_172 ?_
    refine lv_iload hx hb d_S_grow_175 (lv_at hl 1 rfl) ?_
    obtain ⟨c28, hf⟩ := dk_e hf
    refine va_zald hx hb hK hP 4 3 rfl rfl c28 d_S_grow_177 ?_
    refine lv_if_eq (tgt := 185) hx hb d_S_grow_178 (by decide) (fun c29 => ?_) (fun c29 => ?_)
    · have hf := di_t c29 hf
      refine lv_iconst (v := (0 : Int32)) hx hb d_S_grow_185 (by decide) ?_
      exact hJ186 f_cappedInAll v27 g_sizes f_cappedInAll (0 : Int32) H locs ls ⟨hP, hD, hS⟩ (lv_sub hl [] rfl) hf
    · have hf := di_f c29 hf
      refine lv_iconst (v := (1 : Int32)) hx hb d_S_grow_181 (by decide) ?_
      refine lv_goto (tgt := 186) hx hb d_S_grow_182 (by decide) ?_
      exact hJ186 f_cappedInAll v27 g_sizes f_cappedInAll (1 : Int32) H locs ls ⟨hP, hD, hS⟩ (lv_sub hl [] rfl) hf
  have hJ160 : ∀ (f_cappedInAll : Int32) (g_capped : Nat → Int32) (g_sizes : Nat → Int64) (x4 : Int32) (z1 : Int32) (H : Heap) (locs : List Loc) (ls : Array Slot), PDS G.1 classes A s [(a_p1, O_G f_p1_relations f_p1_edges f_p1_limit a_p1_rows a_p1_left a_p1_right a_p1_by), (h0, O_S f_known f_paired f_cappedInAll f_connectedInAll f_pairsInAll a_sizes a_capped a_connected f_end a_leftIn a_rightIn a_pairs), (a_p1_by, aI G 16 g_p1_by), (a_p1_rows, aI G 8 g_p1_rows), (a_capped, aZ G 256 g_capped), (a_leftIn, aI G 256 g_leftIn), (a_rightIn, aI G 256 g_rightIn), (a_sizes, aJ G 256 g_sizes)] H locs → lv_has ls 11 [(0, .ref h0), (4, .int x4)] → S_grow_160 N f_p1_edges f_cappedInAll g_p1_by g_p1_rows g_capped g_leftIn g_rightIn g_sizes x4 z1 = some res → W p l e (rmk 1) s m args below meth c H locs 0 0 Q (F0 m 160 ls [.int z1, .ref a_capped]) := by
    intro f_cappedInAll g_capped g_sizes x4 z1 H locs ls wq hl hf
    obtain ⟨hP, hD, hS⟩ := wq
    refine lv_iconst (v := (1 : Int32)) hx hb d_S_grow_160 (by decide) ?_
    refine lv_goto (tgt := 165) hx hb d_S_grow_161 (by decide) ?_
    exact hJ165 f_cappedInAll g_capped g_sizes x4 z1 (1 : Int32) H locs ls ⟨hP, hD, hS⟩ (lv_sub hl [0, 1] rfl) hf
  have hJ131 : ∀ (f_cappedInAll : Int32) (g_capped : Nat → Int32) (g_sizes : Nat → Int64) (x4 : Int32) (x6 : Int32) (x7 : Int64) (H : Heap) (locs : List Loc) (ls : Array Slot), PDS G.1 classes A s [(a_p1, O_G f_p1_relations f_p1_edges f_p1_limit a_p1_rows a_p1_left a_p1_right a_p1_by), (h0, O_S f_known f_paired f_cappedInAll f_connectedInAll f_pairsInAll a_sizes a_capped a_connected f_end a_leftIn a_rightIn a_pairs), (a_p1_by, aI G 16 g_p1_by), (a_p1_rows, aI G 8 g_p1_rows), (a_capped, aZ G 256 g_capped), (a_leftIn, aI G 256 g_leftIn), (a_rightIn, aI G 256 g_rightIn), (a_sizes, aJ G 256 g_sizes)] H locs → lv_has ls 11 [(0, .ref h0), (2, .int x2), (4, .int x4), (6, .int x6), (7, .long x7)] → S_grow_131 N f_p1_edges f_cappedInAll g_p1_by g_p1_rows g_capped g_leftIn g_rightIn g_sizes x2 x4 x6 x7 = some res → W p l e (rmk 1) s m args below meth c H locs 0 0 Q (F0 m 131 ls []) := by
    intro f_cappedInAll g_capped g_sizes x4 x6 x7 H locs ls wq hl hf
    obtain ⟨hP, hD, hS⟩ := wq
    refine lv_aload_n hx hb d_S_grow_131 rfl (lv_at hl 0 rfl) ?_
    refine va_get (D := G.1) (ci := 8) (v := .ref a_sizes) (C := n_S) (T := T_S) (N := 12) hx hb htl iw_S hown hK hP 1 rfl rfl 5 (by decide) (htl _ k_352) (fun _ h9 => h9) rfl d_S_grow_132 ?_
    refine lv_iload hx hb d_S_grow_135 (lv_at hl 2 rfl) ?_
    refine lv_lload hx hb d_S_grow_137 (lv_at hl 4 rfl) ?_
    obtain ⟨c21, hf⟩ := dk_e hf
    refine nx_last hx hb hK hP hD hS 7 2 rfl rfl c21 d_S_grow_139 (fun v22 ev22 H locs hP hD hS => ?_)
    have hf := dn_e ev22 hf
    have hP : va_P G.1 classes [(a_p1, O_G f_p1_relations f_p1_edges f_p1_limit a_p1_rows a_p1_left a_p1_right a_p1_by), (h0, O_S f_known f_paired f_cappedInAll f_connectedInAll f_pairsInAll a_sizes a_capped a_connected f_end a_leftIn a_rightIn a_pairs), (a_p1_by, aI G 16 g_p1_by), (a_p1_rows, aI G 8 g_p1_rows), (a_capped, aZ G 256 g_capped), (a_leftIn, aI G 256 g_leftIn), (a_rightIn, aI G 256 g_rightIn), (a_sizes, aJ G 256 v22)] H := hP
    have hD : va_D A [(a_p1, O_G f_p1_relations f_p1_edges f_p1_limit a_p1_rows a_p1_left a_p1_right a_p1_by), (h0, O_S f_known f_paired f_cappedInAll f_connectedInAll f_pairsInAll a_sizes a_capped a_connected f_end a_leftIn a_rightIn a_pairs), (a_p1_by, aI G 16 g_p1_by), (a_p1_rows, aI G 8 g_p1_rows), (a_capped, aZ G 256 g_capped), (a_leftIn, aI G 256 g_leftIn), (a_rightIn, aI G 256 g_rightIn), (a_sizes, aJ G 256 v22)] := hD
    refine lv_aload_n hx hb d_S_grow_140 rfl (lv_at hl 0 rfl) ?_
    refine va_get (D := G.1) (ci := 8) (v := .ref a_capped) (C := n_S) (T := T_S) (N := 12) hx hb htl iw_S hown hK hP 1 rfl rfl 6 (by decide) (htl _ k_356) (fun _ h9 => h9) rfl d_S_grow_141 ?_
    refine lv_iload hx hb d_S_grow_144 (lv_at hl 2 rfl) ?_
    refine lv_iload hx hb d_S_grow_146 (lv_at hl 3 rfl) ?_
    refine lv_if_ne (tgt := 160) hx hb d_S_grow_148 (by decide) (fun c23 => ?_) (fun c23 => ?_)
    · have hf := di_f c23 hf
      exact hJ160 f_cappedInAll g_capped v22 x4 x4 H locs ls ⟨hP, hD, hS⟩ (lv_sub hl [0, 2] rfl) hf
    · have hf := di_t c23 hf
      refine lv_aload_n hx hb d_S_grow_151 rfl (lv_at hl 0 rfl) ?_
      refine va_get (D := G.1) (ci := 8) (v := .ref a_capped) (C := n_S) (T := T_S) (N := 12) hx hb htl iw_S hown hK hP 1 rfl rfl 6 (by decide) (htl _ k_356) (fun _ h9 => h9) rfl d_S_grow_152 ?_
      refine lv_iload_n hx hb d_S_grow_155 rfl (lv_at hl 1 rfl) ?_
      obtain ⟨c24, hf⟩ := dk_e hf
      refine va_zald hx hb hK hP 4 3 rfl rfl c24 d_S_grow_156 ?_
      refine lv_if_eq (tgt := 164) hx hb d_S_grow_157 (by decide) (fun c25 => ?_) (fun c25 => ?_)
      · have hf := di_t c25 hf
        refine lv_iconst (v := (0 : Int32)) hx hb d_S_grow_164 (by decide) ?_
        exact hJ165 f_cappedInAll g_capped v22 x4 x4 (0 : Int32) H locs ls ⟨hP, hD, hS⟩ (lv_sub hl [0, 2] rfl) hf
      · have hf := di_f c25 hf
        exact hJ160 f_cappedInAll g_capped v22 x4 x4 H locs ls ⟨hP, hD, hS⟩ (lv_sub hl [0, 2] rfl) hf
  have hJ85 : ∀ (f_cappedInAll : Int32) (g_capped : Nat → Int32) (g_sizes : Nat → Int64) (x4 : Int32) (x6 : Int32) (x7 : Int64) (x9 : Int32) (x10 : Int32) (H : Heap) (locs : List Loc) (ls : Array Slot), PDS G.1 classes A s [(a_p1, O_G f_p1_relations f_p1_edges f_p1_limit a_p1_rows a_p1_left a_p1_right a_p1_by), (h0, O_S f_known f_paired f_cappedInAll f_connectedInAll f_pairsInAll a_sizes a_capped a_connected f_end a_leftIn a_rightIn a_pairs), (a_p1_by, aI G 16 g_p1_by), (a_p1_rows, aI G 8 g_p1_rows), (a_capped, aZ G 256 g_capped), (a_leftIn, aI G 256 g_leftIn), (a_rightIn, aI G 256 g_rightIn), (a_sizes, aJ G 256 g_sizes)] H locs → lv_has ls 11 [(0, .ref h0), (1, .ref a_p1), (2, .int x2), (4, .int x4), (6, .int x6), (7, .long x7), (9, .int x9), (10, .int x10)] → S_grow_85 N f_p1_edges f_cappedInAll g_p1_by g_p1_rows g_capped g_leftIn g_rightIn g_sizes x2 x4 x6 x7 x9 x10 = some res → W p l e (rmk 1) s m args below meth c H locs 0 0 Q (F0 m 85 ls []) := by
    intro f_cappedInAll g_capped g_sizes x4 x6 x7 x9 x10 H locs ls wq hl hf
    obtain ⟨hP, hD, hS⟩ := wq
    obtain ⟨y85, hy85, hfo85⟩ := db_e hf
    have hL85 : ∀ (n : Nat) (x7 : Int64) (x10 : Int32) (H : Heap) (locs : List Loc) (ls : Array Slot), lp (fun x => S_grow_b85 N f_p1_edges f_cappedInAll g_p1_by g_p1_rows g_capped g_leftIn g_rightIn g_sizes x2 x4 x6 x.1 x9 x.2) n (x7, x10) = some y85 → PDS G.1 classes A s [(a_p1, O_G f_p1_relations f_p1_edges f_p1_limit a_p1_rows a_p1_left a_p1_right a_p1_by), (h0, O_S f_known f_paired f_cappedInAll f_connectedInAll f_pairsInAll a_sizes a_capped a_connected f_end a_leftIn a_rightIn a_pairs), (a_p1_by, aI G 16 g_p1_by), (a_p1_rows, aI G 8 g_p1_rows), (a_capped, aZ G 256 g_capped), (a_leftIn, aI G 256 g_leftIn), (a_rightIn, aI G 256 g_rightIn), (a_sizes, aJ G 256 g_sizes)] H locs → lv_has ls 11 [(0, .ref h0), (1, .ref a_p1), (2, .int x2), (4, .int x4), (6, .int x6), (7, .long x7), (9, .int x9), (10, .int x10)] → W p l e (rmk 1) s m args below meth c H locs 0 0 Q (F0 m 85 ls []) := by
      intro n
      induction n with
      | zero =>
        intro x7 x10 H locs ls hf
        exact lp_0 hf
      | succ n ih85 =>
        intro x7 x10 H locs ls hf wq hl
        obtain ⟨hP, hD, hS⟩ := wq
        obtain ⟨r85, hf, hk85⟩ := lp_s hf
        have hf : S_grow_b85 N f_p1_edges f_cappedInAll g_p1_by g_p1_rows g_capped g_leftIn g_rightIn g_sizes x2 x4 x6 x7 x9 x10 = some r85 := hf
        refine lv_iload hx hb d_S_grow_85 (lv_at hl 7 rfl) ?_
        refine lv_aload_n hx hb d_S_grow_87 rfl (lv_at hl 1 rfl) ?_
        refine va_get (D := G.1) (ci := 1) (v := .int f_p1_edges) (C := n_G) (T := T_G) (N := 7) hx hb htl iw_G hown hK hP 0 rfl rfl 1 (by decide) (htl _ k_143) (fun _ h9 => h9) rfl d_S_grow_88 ?_
        refine lv_icmp_ge (tgt := 131) hx hb d_S_grow_91 (by decide) (fun c14 => ?_) (fun c14 => ?_)
        · have hf := di_t c14 hf
          have hq85 := lpk_x hf hk85
          have hf := ex_y (f := fun y => S_grow_a85 N f_p1_edges f_cappedInAll g_p1_by g_p1_rows g_capped g_leftIn g_rightIn g_sizes x2 x4 x6 x9 y) hq85 hfo85
          have hf : S_grow_131 N f_p1_edges f_cappedInAll g_p1_by g_p1_rows g_capped g_leftIn g_rightIn g_sizes x2 x4 x6 x7 = some res := hf
          exact hJ131 f_cappedInAll g_capped g_sizes x4 x6 x7 H locs ls ⟨hP, hD, hS⟩ (lv_sub hl [0, 2, 3, 4, 5] rfl) hf
        · have hf := di_f c14 hf
          refine lv_iload hx hb d_S_grow_94 (lv_at hl 6 rfl) ?_
          refine lv_iload hx hb d_S_grow_96 (lv_at hl 7 rfl) ?_
          refine lv_ishr hx hb d_S_grow_98 ?_
          refine lv_iconst (v := (1 : Int32)) hx hb d_S_grow_99 (by decide) ?_
          refine lv_iand hx hb d_S_grow_100 ?_
          refine lv_if_eq (tgt := 125) hx hb d_S_grow_101 (by decide) (fun c15 => ?_) (fun c15 => ?_)
          · have hf := di_t c15 hf
            obtain ⟨v16, ev16⟩ : ∃ z : Int32, z = x10 + (1 : Int32) := ⟨_, rfl⟩
            have hf := dn_e ev16 hf
            refine lv_iinc (v := v16) (lv' := [(10, .int v16), (0, .ref h0), (1, .ref a_p1), (2, .int x2), (4, .int x4), (6, .int x6), (7, .long x7), (9, .int x9)]) hx hb d_S_grow_125 hl (k := 7) rfl (by rw [ev16]; rfl) (by decide) rfl (fun ls hl => ?_)
            refine lv_goto (tgt := 85) hx hb d_S_grow_128 (by decide) ?_
            exact ih85 x7 v16 H locs ls (lpk_i hf hk85) ⟨hP, hD, hS⟩ (lv_sub hl [1, 2, 3, 4, 5, 6, 7, 0] rfl)
          · have hf := di_f c15 hf
            refine lv_lconst (v := (1 : Int64)) hx hb d_S_grow_104 (by decide) ?_
            refine lv_lload hx hb d_S_grow_105 (lv_at hl 5 rfl) ?_
            refine lv_iconst (v := (1 : Int32)) hx hb d_S_grow_107 (by decide) ?_
            refine lv_aload_n hx hb d_S_grow_108 rfl (lv_at hl 1 rfl) ?_
            refine va_get (D := G.1) (ci := 1) (v := .ref a_p1_by) (C := n_G) (T := T_G) (N := 7) hx hb htl iw_G hown hK hP 0 rfl rfl 6 (by decide) (htl _ k_160) (fun _ h9 => h9) rfl d_S_grow_109 ?_
            refine lv_iload hx hb d_S_grow_112 (lv_at hl 7 rfl) ?_
            obtain ⟨c17, hf⟩ := dk_e hf
            refine va_iald hx hb hK hP 2 1 rfl rfl c17 d_S_grow_114 ?_
            refine va_mmax hx hb (hml.trans hl.1.symm) hown (htl _ k_856) (htl _ k_857) (htl _ k_111) (htl _ k_858) (Nat.le_of_ble_eq_true rfl) (Nat.le_of_ble_eq_true rfl) (Nat.zero_le _) (Nat.zero_le _) d_S_grow_115 ?_
            refine lv_i2l hx hb d_S_grow_118 rfl ?_
            obtain ⟨c18, hf⟩ := dk_e hf
            refine lv_ldiv hx hb d_S_grow_119 c18 ?_
            refine va_mmax_long hx hb (hml.trans hl.1.symm) hown (htl _ k_864) (htl _ k_865) (htl _ k_111) (htl _ k_866) (Nat.le_of_ble_eq_true rfl) (Nat.le_of_ble_eq_true rfl) (Nat.zero_le _) (Nat.zero_le _) d_S_grow_120 ?_
            refine lv_topl (fun v19 ev19 => ?_)
            have hf := dn_e ev19 hf
            refine lv_lstore (lv' := [(7, .long v19), (0, .ref h0), (1, .ref a_p1), (2, .int x2), (4, .int x4), (6, .int x6), (9, .int x9), (10, .int x10)]) hx hb d_S_grow_123 hl (by decide) rfl (fun ls hl => ?_)
            obtain ⟨v20, ev20⟩ : ∃ z : Int32, z = x10 + (1 : Int32) := ⟨_, rfl⟩
            have hf := dn_e ev20 hf
            refine lv_iinc (v := v20) (lv' := [(10, .int v20), (7, .long v19), (0, .ref h0), (1, .ref a_p1), (2, .int x2), (4, .int x4), (6, .int x6), (9, .int x9)]) hx hb d_S_grow_125 hl (k := 7) rfl (by rw [ev20]; rfl) (by decide) rfl (fun ls hl => ?_)
            refine lv_goto (tgt := 85) hx hb d_S_grow_128 (by decide) ?_
            exact ih85 v19 v20 H locs ls (lpk_i hf hk85) ⟨hP, hD, hS⟩ (lv_sub hl [2, 3, 4, 5, 6, 1, 7, 0] rfl)
    exact hL85 N x7 x10 H locs ls hy85 ⟨hP, hD, hS⟩ hl
  have hJ64 : ∀ (f_cappedInAll : Int32) (g_capped : Nat → Int32) (g_sizes : Nat → Int64) (x4 : Int32) (x6 : Int32) (z0 : Int64) (H : Heap) (locs : List Loc) (ls : Array Slot), PDS G.1 classes A s [(a_p1, O_G f_p1_relations f_p1_edges f_p1_limit a_p1_rows a_p1_left a_p1_right a_p1_by), (h0, O_S f_known f_paired f_cappedInAll f_connectedInAll f_pairsInAll a_sizes a_capped a_connected f_end a_leftIn a_rightIn a_pairs), (a_p1_by, aI G 16 g_p1_by), (a_p1_rows, aI G 8 g_p1_rows), (a_capped, aZ G 256 g_capped), (a_leftIn, aI G 256 g_leftIn), (a_rightIn, aI G 256 g_rightIn), (a_sizes, aJ G 256 g_sizes)] H locs → lv_has ls 11 [(0, .ref h0), (1, .ref a_p1), (2, .int x2), (4, .int x4), (6, .int x6)] → S_grow_64 N f_p1_edges f_cappedInAll g_p1_by g_p1_rows g_capped g_leftIn g_rightIn g_sizes x2 x4 x6 z0 = some res → W p l e (rmk 1) s m args below meth c H locs 0 0 Q (F0 m 64 ls [.long z0]) := by
    intro f_cappedInAll g_capped g_sizes x4 x6 z0 H locs ls wq hl hf
    obtain ⟨hP, hD, hS⟩ := wq
    refine lv_lstore (lv' := [(7, .long z0), (0, .ref h0), (1, .ref a_p1), (2, .int x2), (4, .int x4), (6, .int x6)]) hx hb d_S_grow_64 hl (by decide) rfl (fun ls hl => ?_)
    refine lv_aload_n hx hb d_S_grow_66 rfl (lv_at hl 1 rfl) ?_
    refine lv_iload hx hb d_S_grow_67 (lv_at hl 4 rfl) ?_
    obtain ⟨t9, hv10, hf⟩ := db_e hf
    refine call_i (isC := [1, 5, 6]) (run_V (As := [.int x4]) (rest := []) (ci := 8) (q0 := 1) hx hb hml hown htl (c_S_edgesIn l G Y  h0 a_sizes a_capped a_connected a_leftIn a_rightIn a_pairs f_known f_paired f_cappedInAll f_connectedInAll f_pairsInAll f_end g_leftIn g_rightIn x4 t9 hv10) mv_S_edgesIn k_860 (hRk (by decide) (by decide)) hK hsk hS hP hD (isC := [1, 5, 6]) rfl (by decide) rfl rfl rfl hl.1 rfl (lv_room (Nat.le_of_ble_eq_true rfl)) d_S_grow_69) hP hD hS rfl rfl (fun H locs hP hD hS => ?_)
    have hP : va_P G.1 classes [(a_p1, O_G f_p1_relations f_p1_edges f_p1_limit a_p1_rows a_p1_left a_p1_right a_p1_by), (h0, O_S f_known f_paired f_cappedInAll f_connectedInAll f_pairsInAll a_sizes a_capped a_connected f_end a_leftIn a_rightIn a_pairs), (a_p1_by, aI G 16 g_p1_by), (a_p1_rows, aI G 8 g_p1_rows), (a_capped, aZ G 256 g_capped), (a_leftIn, aI G 256 g_leftIn), (a_rightIn, aI G 256 g_rightIn), (a_sizes, aJ G 256 g_sizes)] H := hP
    have hD : va_D A [(a_p1, O_G f_p1_relations f_p1_edges f_p1_limit a_p1_rows a_p1_left a_p1_right a_p1_by), (h0, O_S f_known f_paired f_cappedInAll f_connectedInAll f_pairsInAll a_sizes a_capped a_connected f_end a_leftIn a_rightIn a_pairs), (a_p1_by, aI G 16 g_p1_by), (a_p1_rows, aI G 8 g_p1_rows), (a_capped, aZ G 256 g_capped), (a_leftIn, aI G 256 g_leftIn), (a_rightIn, aI G 256 g_rightIn), (a_sizes, aJ G 256 g_sizes)] := hD
    refine lv_aload_n hx hb d_S_grow_72 rfl (lv_at hl 1 rfl) ?_
    refine lv_iload_n hx hb d_S_grow_73 rfl (lv_at hl 3 rfl) ?_
    obtain ⟨t11, hv12, hf⟩ := db_e hf
    refine call_i (isC := [1, 5, 6]) (run_V (As := [.int x2]) (rest := [.int t9]) (ci := 8) (q0 := 1) hx hb hml hown htl (c_S_edgesIn l G Y  h0 a_sizes a_capped a_connected a_leftIn a_rightIn a_pairs f_known f_paired f_cappedInAll f_connectedInAll f_pairsInAll f_end g_leftIn g_rightIn x2 t11 hv12) mv_S_edgesIn k_860 (hRk (by decide) (by decide)) hK hsk hS hP hD (isC := [1, 5, 6]) rfl (by decide) rfl rfl rfl hl.1 rfl (lv_room (Nat.le_of_ble_eq_true rfl)) d_S_grow_74) hP hD hS rfl rfl (fun H locs hP hD hS => ?_)
    have hP : va_P G.1 classes [(a_p1, O_G f_p1_relations f_p1_edges f_p1_limit a_p1_rows a_p1_left a_p1_right a_p1_by), (h0, O_S f_known f_paired f_cappedInAll f_connectedInAll f_pairsInAll a_sizes a_capped a_connected f_end a_leftIn a_rightIn a_pairs), (a_p1_by, aI G 16 g_p1_by), (a_p1_rows, aI G 8 g_p1_rows), (a_capped, aZ G 256 g_capped), (a_leftIn, aI G 256 g_leftIn), (a_rightIn, aI G 256 g_rightIn), (a_sizes, aJ G 256 g_sizes)] H := hP
    have hD : va_D A [(a_p1, O_G f_p1_relations f_p1_edges f_p1_limit a_p1_rows a_p1_left a_p1_right a_p1_by), (h0, O_S f_known f_paired f_cappedInAll f_connectedInAll f_pairsInAll a_sizes a_capped a_connected f_end a_leftIn a_rightIn a_pairs), (a_p1_by, aI G 16 g_p1_by), (a_p1_rows, aI G 8 g_p1_rows), (a_capped, aZ G 256 g_capped), (a_leftIn, aI G 256 g_leftIn), (a_rightIn, aI G 256 g_rightIn), (a_sizes, aJ G 256 g_sizes)] := hD
    refine lv_iconst (v := (-1 : Int32)) hx hb d_S_grow_77 (by decide) ?_
    refine lv_ixor hx hb d_S_grow_78 ?_
    refine lv_iand hx hb d_S_grow_79 ?_
    refine lv_topi (fun v13 ev13 => ?_)
    have hf := dn_e ev13 hf
    refine lv_istore (lv' := [(9, .int v13), (7, .long z0), (0, .ref h0), (1, .ref a_p1), (2, .int x2), (4, .int x4), (6, .int x6)]) hx hb d_S_grow_80 hl (by decide) rfl (fun ls hl => ?_)
    refine lv_iconst (v := (0 : Int32)) hx hb d_S_grow_82 (by decide) ?_
    refine lv_istore (lv' := [(10, .int (0 : Int32)), (9, .int v13), (7, .long z0), (0, .ref h0), (1, .ref a_p1), (2, .int x2), (4, .int x4), (6, .int x6)]) hx hb d_S_grow_83 hl (by decide) rfl (fun ls hl => ?_)
    exact hJ85 f_cappedInAll g_capped g_sizes x4 x6 z0 v13 (0 : Int32) H locs ls ⟨hP, hD, hS⟩ (lv_sub hl [3, 4, 5, 6, 7, 2, 1, 0] rfl) hf
  have hJ41 : ∀ (f_cappedInAll : Int32) (g_capped : Nat → Int32) (g_sizes : Nat → Int64) (x4 : Int32) (x5 : Int32) (z0 : Int32) (H : Heap) (locs : List Loc) (ls : Array Slot), PDS G.1 classes A s [(a_p1, O_G f_p1_relations f_p1_edges f_p1_limit a_p1_rows a_p1_left a_p1_right a_p1_by), (h0, O_S f_known f_paired f_cappedInAll f_connectedInAll f_pairsInAll a_sizes a_capped a_connected f_end a_leftIn a_rightIn a_pairs), (a_p1_by, aI G 16 g_p1_by), (a_p1_rows, aI G 8 g_p1_rows), (a_capped, aZ G 256 g_capped), (a_leftIn, aI G 256 g_leftIn), (a_rightIn, aI G 256 g_rightIn), (a_sizes, aJ G 256 g_sizes)] H locs → lv_has ls 11 [(0, .ref h0), (1, .ref a_p1), (2, .int x2), (4, .int x4), (5, .int x5)] → S_grow_41 N f_p1_edges f_cappedInAll g_p1_by g_p1_rows g_capped g_leftIn g_rightIn g_sizes x2 x4 x5 z0 = some res → W p l e (rmk 1) s m args below meth c H locs 0 0 Q (F0 m 41 ls [.int z0]) := by
    intro f_cappedInAll g_capped g_sizes x4 x5 z0 H locs ls wq hl hf
    obtain ⟨hP, hD, hS⟩ := wq
    refine lv_istore (lv' := [(6, .int z0), (0, .ref h0), (1, .ref a_p1), (2, .int x2), (4, .int x4), (5, .int x5)]) hx hb d_S_grow_41 hl (by decide) rfl (fun ls hl => ?_)
    refine lv_iload hx hb d_S_grow_43 (lv_at hl 0 rfl) ?_
    refine lv_if_eq (tgt := 54) hx hb d_S_grow_45 (by decide) (fun c7 => ?_) (fun c7 => ?_)
    · have hf := di_t c7 hf
      refine lv_aload_n hx hb d_S_grow_54 rfl (lv_at hl 1 rfl) ?_
      refine va_get (D := G.1) (ci := 8) (v := .ref a_sizes) (C := n_S) (T := T_S) (N := 12) hx hb htl iw_S hown hK hP 1 rfl rfl 5 (by decide) (htl _ k_352) (fun _ h9 => h9) rfl d_S_grow_55 ?_
      refine lv_iload_n hx hb d_S_grow_58 rfl (lv_at hl 3 rfl) ?_
      obtain ⟨c8, hf⟩ := dk_e hf
      refine va_lald hx hb hK hP 7 2 rfl rfl c8 d_S_grow_59 ?_
      refine lv_iload hx hb d_S_grow_60 (lv_at hl 5 rfl) ?_
      refine lv_i2l hx hb d_S_grow_62 rfl ?_
      refine lv_lmul hx hb d_S_grow_63 ?_
      exact hJ64 f_cappedInAll g_capped g_sizes x4 z0 ((g_sizes x2.toNatClampNeg) * x5.toInt64) H locs ls ⟨hP, hD, hS⟩ (lv_sub hl [1, 2, 3, 4, 0] rfl) hf
    · have hf := di_f c7 hf
      refine lv_ldc2 (v := (1000000000000000 : Int64)) hx hb hown (htl _ k_859) d_S_grow_48 ?_
      refine lv_goto (tgt := 64) hx hb d_S_grow_51 (by decide) ?_
      exact hJ64 f_cappedInAll g_capped g_sizes x4 z0 (1000000000000000 : Int64) H locs ls ⟨hP, hD, hS⟩ (lv_sub hl [1, 2, 3, 4, 0] rfl) hf
  refine lv_iload_n hx hb d_S_grow_0 rfl (lv_at hl 2 rfl) ?_
  refine lv_iconst (v := (1 : Int32)) hx hb d_S_grow_1 (by decide) ?_
  refine lv_iload_n hx hb d_S_grow_2 rfl (lv_at hl 3 rfl) ?_
  refine lv_ishl hx hb d_S_grow_3 ?_
  refine lv_ior hx hb d_S_grow_4 ?_
  refine lv_topi (fun v1 ev1 => ?_)
  have hf := dn_e ev1 hf
  refine lv_istore (lv' := [(4, .int v1), (0, .ref h0), (1, .ref a_p1), (2, .int x2), (3, .int x3)]) hx hb d_S_grow_5 hl (by decide) rfl (fun ls hl => ?_)
  refine lv_iconst (v := (1 : Int32)) hx hb d_S_grow_7 (by decide) ?_
  refine lv_aload_n hx hb d_S_grow_8 rfl (lv_at hl 2 rfl) ?_
  refine va_get (D := G.1) (ci := 1) (v := .ref a_p1_rows) (C := n_G) (T := T_G) (N := 7) hx hb htl iw_G hown hK hP 0 rfl rfl 3 (by decide) (htl _ k_151) (fun _ h9 => h9) rfl d_S_grow_9 ?_
  refine lv_iload_n hx hb d_S_grow_12 rfl (lv_at hl 4 rfl) ?_
  obtain ⟨c2, hf⟩ := dk_e hf
  refine va_iald hx hb hK hP 3 1 rfl rfl c2 d_S_grow_13 ?_
  refine va_mmax hx hb (hml.trans hl.1.symm) hown (htl _ k_856) (htl _ k_857) (htl _ k_111) (htl _ k_858) (Nat.le_of_ble_eq_true rfl) (Nat.le_of_ble_eq_true rfl) (Nat.zero_le _) (Nat.zero_le _) d_S_grow_14 ?_
  refine lv_topi (fun v3 ev3 => ?_)
  have hf := dn_e ev3 hf
  refine lv_istore (lv' := [(5, .int v3), (4, .int v1), (0, .ref h0), (1, .ref a_p1), (2, .int x2), (3, .int x3)]) hx hb d_S_grow_17 hl (by decide) rfl (fun ls hl => ?_)
  refine lv_aload_n hx hb d_S_grow_19 rfl (lv_at hl 2 rfl) ?_
  refine va_get (D := G.1) (ci := 8) (v := .ref a_sizes) (C := n_S) (T := T_S) (N := 12) hx hb htl iw_S hown hK hP 1 rfl rfl 5 (by decide) (htl _ k_352) (fun _ h9 => h9) rfl d_S_grow_20 ?_
  refine lv_iload_n hx hb d_S_grow_23 rfl (lv_at hl 4 rfl) ?_
  obtain ⟨c4, hf⟩ := dk_e hf
  refine va_lald hx hb hK hP 7 2 rfl rfl c4 d_S_grow_24 ?_
  refine lv_ldc2 (v := (1000000000000000 : Int64)) hx hb hown (htl _ k_859) d_S_grow_25 ?_
  refine lv_iload hx hb d_S_grow_28 (lv_at hl 0 rfl) ?_
  refine lv_i2l hx hb d_S_grow_30 rfl ?_
  obtain ⟨c5, hf⟩ := dk_e hf
  refine lv_ldiv hx hb d_S_grow_31 c5 ?_
  refine lx_le (tgt := 40) hx hb d_S_grow_32 d_S_grow_33 (by decide) (fun c6 => ?_) (fun c6 => ?_)
  · have hf := di_f c6 hf
    refine lv_iconst (v := (0 : Int32)) hx hb d_S_grow_40 (by decide) ?_
    exact hJ41 f_cappedInAll g_capped g_sizes v1 v3 (0 : Int32) H locs ls ⟨hP, hD, hS⟩ (lv_sub hl [2, 3, 4, 1, 0] rfl) hf
  · have hf := di_t c6 hf
    refine lv_iconst (v := (1 : Int32)) hx hb d_S_grow_36 (by decide) ?_
    refine lv_goto (tgt := 41) hx hb d_S_grow_37 (by decide) ?_
    exact hJ41 f_cappedInAll g_capped g_sizes v1 v3 (1 : Int32) H locs ls ⟨hP, hD, hS⟩ (lv_sub hl [2, 3, 4, 1, 0] rfl) hf
set_option maxHeartbeats 4000000 in
set_option maxRecDepth 100000 in
theorem c_S_measure (l : Launch) (G : va_G × (Nat → ClassId)) (Y : (Nat → Nat) × (Nat → Nat)) (h0 : Nat) (a_p1 : Nat) (a_p1_rows : Nat) (a_p1_left : Nat) (a_p1_right : Nat) (a_p1_by : Nat) (a_sizes : Nat) (a_capped : Nat) (a_connected : Nat) (a_leftIn : Nat) (a_rightIn : Nat) (a_pairs : Nat) (f_p1_relations : Int32) (f_p1_edges : Int32) (f_p1_limit : Int32) (f_known : Int32) (f_paired : Int32) (f_cappedInAll : Int32) (f_connectedInAll : Int32) (f_pairsInAll : Int32) (f_end : Int32) (g_p1_by : Nat → Int32) (g_p1_left : Nat → Int32) (g_p1_right : Nat → Int32) (g_p1_rows : Nat → Int32) (g_capped : Nat → Int32) (g_leftIn : Nat → Int32) (g_rightIn : Nat → Int32) (g_sizes : Nat → Int64) (N : Nat) (res : Int32 × Int32 × Int32 × (Nat → Int32) × (Nat → Int32) × (Nat → Int32) × (Nat → Int64)) (hf : S_measure N f_p1_relations f_p1_edges f_known f_cappedInAll f_end g_p1_by g_p1_left g_p1_right g_p1_rows g_capped g_leftIn g_rightIn g_sizes = some res) : Cv l classes y_S_measure b_S_measure 4 none (rmk 2) G.1 (tyL G) Y [.ref h0, .ref a_p1] [(a_p1, O_G f_p1_relations f_p1_edges f_p1_limit a_p1_rows a_p1_left a_p1_right a_p1_by), (h0, O_S f_known f_paired f_cappedInAll f_connectedInAll f_pairsInAll a_sizes a_capped a_connected f_end a_leftIn a_rightIn a_pairs), (a_p1_by, aI G 16 g_p1_by), (a_p1_left, aI G 16 g_p1_left), (a_p1_right, aI G 16 g_p1_right), (a_p1_rows, aI G 8 g_p1_rows), (a_capped, aZ G 256 g_capped), (a_leftIn, aI G 256 g_leftIn), (a_rightIn, aI G 256 g_rightIn), (a_sizes, aJ G 256 g_sizes)] [(a_p1, O_G f_p1_relations f_p1_edges f_p1_limit a_p1_rows a_p1_left a_p1_right a_p1_by), (h0, O_S res.1 f_paired res.2.1 f_connectedInAll f_pairsInAll a_sizes a_capped a_connected res.2.2.1 a_leftIn a_rightIn a_pairs), (a_p1_by, aI G 16 g_p1_by), (a_p1_left, aI G 16 g_p1_left), (a_p1_right, aI G 16 g_p1_right), (a_p1_rows, aI G 8 g_p1_rows), (a_capped, aZ G 256 res.2.2.2.1), (a_leftIn, aI G 256 res.2.2.2.2.1), (a_rightIn, aI G 256 res.2.2.2.2.2.1), (a_sizes, aJ G 256 res.2.2.2.2.2.2)] := by
  refine entV (by decide) (Nat.le_of_ble_eq_true rfl) ?_
  intro p e s m args below meth c ls A Q hx hb hml hown htl hK hsk wq hl hret
  obtain ⟨hP, hD, hS⟩ := wq
  have hl : lv_has ls 4 [(0, .ref h0), (1, .ref a_p1)] := hl
  have hS : va_S A s.heap s.heap [] := hS
  obtain ⟨H, hH⟩ : ∃ H : Heap, H = s.heap := ⟨_, rfl⟩
  obtain ⟨locs, hlocs⟩ : ∃ z : List Loc, z = [] := ⟨_, rfl⟩
  rw [← hH] at hP
  replace hS : va_S A s.heap H locs := by rw [hH, hlocs]; exact hS
  suffices hgo : W p l e (rmk 2) s m args below meth c H locs 0 0 Q (F0 m 0 ls []) by rw [hH, hlocs] at hgo; exact hgo
  have hJ93 : ∀ (f_known : Int32) (f_cappedInAll : Int32) (f_end : Int32) (g_capped : Nat → Int32) (g_leftIn : Nat → Int32) (g_rightIn : Nat → Int32) (g_sizes : Nat → Int64) (H : Heap) (locs : List Loc) (ls : Array Slot), PDS G.1 classes A s [(a_p1, O_G f_p1_relations f_p1_edges f_p1_limit a_p1_rows a_p1_left a_p1_right a_p1_by), (h0, O_S f_known f_paired f_cappedInAll f_connectedInAll f_pairsInAll a_sizes a_capped a_connected f_end a_leftIn a_rightIn a_pairs), (a_p1_by, aI G 16 g_p1_by), (a_p1_left, aI G 16 g_p1_left), (a_p1_right, aI G 16 g_p1_right), (a_p1_rows, aI G 8 g_p1_rows), (a_capped, aZ G 256 g_capped), (a_leftIn, aI G 256 g_leftIn), (a_rightIn, aI G 256 g_rightIn), (a_sizes, aJ G 256 g_sizes)] H locs → lv_has ls 4 [(0, .ref h0)] → S_measure_93 N f_p1_relations f_p1_edges f_known f_cappedInAll f_end g_p1_by g_p1_left g_p1_right g_p1_rows g_capped g_leftIn g_rightIn g_sizes = some res → W p l e (rmk 2) s m args below meth c H locs 0 0 Q (F0 m 93 ls []) := by
    intro f_known f_cappedInAll f_end g_capped g_leftIn g_rightIn g_sizes H locs ls wq hl hf
    obtain ⟨hP, hD, hS⟩ := wq
    refine lv_aload_n hx hb d_S_measure_93 rfl (lv_at hl 0 rfl) ?_
    refine lv_iconst (v := (1 : Int32)) hx hb d_S_measure_94 (by decide) ?_
    refine va_put (D := G.1) (ci := 8) (v := .int (1 : Int32)) (ty := .boolean) (C := n_S) (T := T_S) (N := 12) hx hb htl iw_S ty_S ty_S_ok nm_S hown hK hP hD hS 1 rfl rfl 0 (by decide) (htl _ k_342) (fun _ h9 => h9) rfl (by decide +kernel) rfl rfl (Nat.le_of_ble_eq_true rfl) d_S_measure_95 (fun H locs hP hD hS => ?_)
    have hP : va_P G.1 classes [(a_p1, O_G f_p1_relations f_p1_edges f_p1_limit a_p1_rows a_p1_left a_p1_right a_p1_by), (h0, O_S (1 : Int32) f_paired f_cappedInAll f_connectedInAll f_pairsInAll a_sizes a_capped a_connected f_end a_leftIn a_rightIn a_pairs), (a_p1_by, aI G 16 g_p1_by), (a_p1_left, aI G 16 g_p1_left), (a_p1_right, aI G 16 g_p1_right), (a_p1_rows, aI G 8 g_p1_rows), (a_capped, aZ G 256 g_capped), (a_leftIn, aI G 256 g_leftIn), (a_rightIn, aI G 256 g_rightIn), (a_sizes, aJ G 256 g_sizes)] H := hP
    have hD : va_D A [(a_p1, O_G f_p1_relations f_p1_edges f_p1_limit a_p1_rows a_p1_left a_p1_right a_p1_by), (h0, O_S (1 : Int32) f_paired f_cappedInAll f_connectedInAll f_pairsInAll a_sizes a_capped a_connected f_end a_leftIn a_rightIn a_pairs), (a_p1_by, aI G 16 g_p1_by), (a_p1_left, aI G 16 g_p1_left), (a_p1_right, aI G 16 g_p1_right), (a_p1_rows, aI G 8 g_p1_rows), (a_capped, aZ G 256 g_capped), (a_leftIn, aI G 256 g_leftIn), (a_rightIn, aI G 256 g_rightIn), (a_sizes, aJ G 256 g_sizes)] := hD
    cases hf
    exact hret 98 ls H locs hP hS d_S_measure_98
  have hJ57 : ∀ (f_known : Int32) (f_cappedInAll : Int32) (f_end : Int32) (g_capped : Nat → Int32) (g_leftIn : Nat → Int32) (g_rightIn : Nat → Int32) (g_sizes : Nat → Int64) (x2 : Int32) (H : Heap) (locs : List Loc) (ls : Array Slot), PDS G.1 classes A s [(a_p1, O_G f_p1_relations f_p1_edges f_p1_limit a_p1_rows a_p1_left a_p1_right a_p1_by), (h0, O_S f_known f_paired f_cappedInAll f_connectedInAll f_pairsInAll a_sizes a_capped a_connected f_end a_leftIn a_rightIn a_pairs), (a_p1_by, aI G 16 g_p1_by), (a_p1_left, aI G 16 g_p1_left), (a_p1_right, aI G 16 g_p1_right), (a_p1_rows, aI G 8 g_p1_rows), (a_capped, aZ G 256 g_capped), (a_leftIn, aI G 256 g_leftIn), (a_rightIn, aI G 256 g_rightIn), (a_sizes, aJ G 256 g_sizes)] H locs → lv_has ls 4 [(0, .ref h0), (1, .ref a_p1), (2, .int x2)] → S_measure_57 N f_p1_relations f_p1_edges f_known f_cappedInAll f_end g_p1_by g_p1_left g_p1_right g_p1_rows g_capped g_leftIn g_rightIn g_sizes x2 = some res → W p l e (rmk 2) s m args below meth c H locs 0 0 Q (F0 m 57 ls []) := by
    intro f_known f_cappedInAll f_end g_capped g_leftIn g_rightIn g_sizes x2 H locs ls wq hl hf
    obtain ⟨hP, hD, hS⟩ := wq
    obtain ⟨y57, hy57, hfo57⟩ := db_e hf
    have hL57 : ∀ (n : Nat) (f_cappedInAll : Int32) (g_capped : Nat → Int32) (g_sizes : Nat → Int64) (x2 : Int32) (H : Heap) (locs : List Loc) (ls : Array Slot), lp (fun x => S_measure_b57 N f_p1_relations f_p1_edges f_known x.1 f_end g_p1_by g_p1_left g_p1_right g_p1_rows x.2.1 g_leftIn g_rightIn x.2.2.1 x.2.2.2) n (f_cappedInAll, g_capped, g_sizes, x2) = some y57 → PDS G.1 classes A s [(a_p1, O_G f_p1_relations f_p1_edges f_p1_limit a_p1_rows a_p1_left a_p1_right a_p1_by), (h0, O_S f_known f_paired f_cappedInAll f_connectedInAll f_pairsInAll a_sizes a_capped a_connected f_end a_leftIn a_rightIn a_pairs), (a_p1_by, aI G 16 g_p1_by), (a_p1_left, aI G 16 g_p1_left), (a_p1_right, aI G 16 g_p1_right), (a_p1_rows, aI G 8 g_p1_rows), (a_capped, aZ G 256 g_capped), (a_leftIn, aI G 256 g_leftIn), (a_rightIn, aI G 256 g_rightIn), (a_sizes, aJ G 256 g_sizes)] H locs → lv_has ls 4 [(0, .ref h0), (1, .ref a_p1), (2, .int x2)] → W p l e (rmk 2) s m args below meth c H locs 0 0 Q (F0 m 57 ls []) := by
      intro n
      induction n with
      | zero =>
        intro f_cappedInAll g_capped g_sizes x2 H locs ls hf
        exact lp_0 hf
      | succ n ih57 =>
        intro f_cappedInAll g_capped g_sizes x2 H locs ls hf wq hl
        obtain ⟨hP, hD, hS⟩ := wq
        obtain ⟨r57, hf, hk57⟩ := lp_s hf
        have hf : S_measure_b57 N f_p1_relations f_p1_edges f_known f_cappedInAll f_end g_p1_by g_p1_left g_p1_right g_p1_rows g_capped g_leftIn g_rightIn g_sizes x2 = some r57 := hf
        have hJ87 : ∀ (f_cappedInAll : Int32) (g_capped : Nat → Int32) (g_sizes : Nat → Int64) (x2 : Int32) (H : Heap) (locs : List Loc) (ls : Array Slot), PDS G.1 classes A s [(a_p1, O_G f_p1_relations f_p1_edges f_p1_limit a_p1_rows a_p1_left a_p1_right a_p1_by), (h0, O_S f_known f_paired f_cappedInAll f_connectedInAll f_pairsInAll a_sizes a_capped a_connected f_end a_leftIn a_rightIn a_pairs), (a_p1_by, aI G 16 g_p1_by), (a_p1_left, aI G 16 g_p1_left), (a_p1_right, aI G 16 g_p1_right), (a_p1_rows, aI G 8 g_p1_rows), (a_capped, aZ G 256 g_capped), (a_leftIn, aI G 256 g_leftIn), (a_rightIn, aI G 256 g_rightIn), (a_sizes, aJ G 256 g_sizes)] H locs → lv_has ls 4 [(0, .ref h0), (1, .ref a_p1), (2, .int x2)] → S_measure_87 N f_p1_relations f_p1_edges f_known f_cappedInAll f_end g_p1_by g_p1_left g_p1_right g_p1_rows g_capped g_leftIn g_rightIn g_sizes x2 = some r57 → W p l e (rmk 2) s m args below meth c H locs 0 0 Q (F0 m 87 ls []) := by
          intro f_cappedInAll g_capped g_sizes x2 H locs ls wq hl hf
          obtain ⟨hP, hD, hS⟩ := wq
          obtain ⟨v13, ev13⟩ : ∃ z : Int32, z = x2 + (1 : Int32) := ⟨_, rfl⟩
          have hf := dn_e ev13 hf
          refine lv_iinc (v := v13) (lv' := [(2, .int v13), (0, .ref h0), (1, .ref a_p1)]) hx hb d_S_measure_87 hl (k := 2) rfl (by rw [ev13]; rfl) (by decide) rfl (fun ls hl => ?_)
          refine lv_goto (tgt := 57) hx hb d_S_measure_90 (by decide) ?_
          exact ih57 f_cappedInAll g_capped g_sizes v13 H locs ls (lpk_i hf hk57) ⟨hP, hD, hS⟩ (lv_sub hl [1, 2, 0] rfl)
        have hJ67 : ∀ (f_cappedInAll : Int32) (g_capped : Nat → Int32) (g_sizes : Nat → Int64) (x2 : Int32) (x3 : Int32) (H : Heap) (locs : List Loc) (ls : Array Slot), PDS G.1 classes A s [(a_p1, O_G f_p1_relations f_p1_edges f_p1_limit a_p1_rows a_p1_left a_p1_right a_p1_by), (h0, O_S f_known f_paired f_cappedInAll f_connectedInAll f_pairsInAll a_sizes a_capped a_connected f_end a_leftIn a_rightIn a_pairs), (a_p1_by, aI G 16 g_p1_by), (a_p1_left, aI G 16 g_p1_left), (a_p1_right, aI G 16 g_p1_right), (a_p1_rows, aI G 8 g_p1_rows), (a_capped, aZ G 256 g_capped), (a_leftIn, aI G 256 g_leftIn), (a_rightIn, aI G 256 g_rightIn), (a_sizes, aJ G 256 g_sizes)] H locs → lv_has ls 4 [(0, .ref h0), (1, .ref a_p1), (2, .int x2), (3, .int x3)] → S_measure_67 N f_p1_relations f_p1_edges f_known f_cappedInAll f_end g_p1_by g_p1_left g_p1_right g_p1_rows g_capped g_leftIn g_rightIn g_sizes x2 x3 = some r57 → W p l e (rmk 2) s m args below meth c H locs 0 0 Q (F0 m 67 ls []) := by
          intro f_cappedInAll g_capped g_sizes x2 x3 H locs ls wq hl hf
          obtain ⟨hP, hD, hS⟩ := wq
          obtain ⟨y67, hy67, hfo67⟩ := db_e hf
          have hL67 : ∀ (n : Nat) (f_cappedInAll : Int32) (g_capped : Nat → Int32) (g_sizes : Nat → Int64) (x3 : Int32) (H : Heap) (locs : List Loc) (ls : Array Slot), lp (fun x => S_measure_b67 N f_p1_relations f_p1_edges f_known x.1 f_end g_p1_by g_p1_left g_p1_right g_p1_rows x.2.1 g_leftIn g_rightIn x.2.2.1 x2 x.2.2.2) n (f_cappedInAll, g_capped, g_sizes, x3) = some y67 → PDS G.1 classes A s [(a_p1, O_G f_p1_relations f_p1_edges f_p1_limit a_p1_rows a_p1_left a_p1_right a_p1_by), (h0, O_S f_known f_paired f_cappedInAll f_connectedInAll f_pairsInAll a_sizes a_capped a_connected f_end a_leftIn a_rightIn a_pairs), (a_p1_by, aI G 16 g_p1_by), (a_p1_left, aI G 16 g_p1_left), (a_p1_right, aI G 16 g_p1_right), (a_p1_rows, aI G 8 g_p1_rows), (a_capped, aZ G 256 g_capped), (a_leftIn, aI G 256 g_leftIn), (a_rightIn, aI G 256 g_rightIn), (a_sizes, aJ G 256 g_sizes)] H locs → lv_has ls 4 [(0, .ref h0), (1, .ref a_p1), (2, .int x2), (3, .int x3)] → W p l e (rmk 2) s m args below meth c H locs 0 0 Q (F0 m 67 ls []) := by
            intro n
            induction n with
            | zero =>
              intro f_cappedInAll g_capped g_sizes x3 H locs ls hf
              exact lp_0 hf
            | succ n ih67 =>
              intro f_cappedInAll g_capped g_sizes x3 H locs ls hf wq hl
              obtain ⟨hP, hD, hS⟩ := wq
              obtain ⟨r67, hf, hk67⟩ := lp_s hf
              have hf : S_measure_b67 N f_p1_relations f_p1_edges f_known f_cappedInAll f_end g_p1_by g_p1_left g_p1_right g_p1_rows g_capped g_leftIn g_rightIn g_sizes x2 x3 = some r67 := hf
              refine lv_iload_n hx hb d_S_measure_67 rfl (lv_at hl 3 rfl) ?_
              refine lv_iconst (v := (1 : Int32)) hx hb d_S_measure_68 (by decide) ?_
              refine lv_iload_n hx hb d_S_measure_69 rfl (lv_at hl 2 rfl) ?_
              refine lv_ishl hx hb d_S_measure_70 ?_
              refine lv_icmp_ge (tgt := 87) hx hb d_S_measure_71 (by decide) (fun c9 => ?_) (fun c9 => ?_)
              · have hf := di_t c9 hf
                have hq67 := lpk_x hf hk67
                have hf := ex_y (f := fun y => S_measure_a67 N f_p1_relations f_p1_edges f_known f_end g_p1_by g_p1_left g_p1_right g_p1_rows g_leftIn g_rightIn x2 y) hq67 hfo67
                have hf : S_measure_87 N f_p1_relations f_p1_edges f_known f_cappedInAll f_end g_p1_by g_p1_left g_p1_right g_p1_rows g_capped g_leftIn g_rightIn g_sizes x2 = some r57 := hf
                exact hJ87 f_cappedInAll g_capped g_sizes x2 H locs ls ⟨hP, hD, hS⟩ (lv_sub hl [0, 1, 2] rfl) hf
              · have hf := di_f c9 hf
                refine lv_aload_n hx hb d_S_measure_74 rfl (lv_at hl 0 rfl) ?_
                refine lv_aload_n hx hb d_S_measure_75 rfl (lv_at hl 1 rfl) ?_
                refine lv_iload_n hx hb d_S_measure_76 rfl (lv_at hl 3 rfl) ?_
                refine lv_iload_n hx hb d_S_measure_77 rfl (lv_at hl 2 rfl) ?_
                obtain ⟨t10, hv11, hf⟩ := db_e hf
                refine call_v (isC := [0, 1, 2, 5, 6, 7, 8, 9]) (run_V (As := [.ref a_p1, .int x3, .int x2]) (rest := []) (ci := 8) (q0 := 1) hx hb hml hown htl (c_S_grow l G Y  h0 a_p1 a_p1_rows a_p1_left a_p1_right a_p1_by a_sizes a_capped a_connected a_leftIn a_rightIn a_pairs f_p1_relations f_p1_edges f_p1_limit f_known f_paired f_cappedInAll f_connectedInAll f_pairsInAll f_end g_p1_by g_p1_rows g_capped g_leftIn g_rightIn g_sizes x3 x2 N t10 hv11) mv_S_grow k_852 (hRk (by decide) (by decide)) hK hsk hS hP hD (isC := [0, 1, 2, 5, 6, 7, 8, 9]) rfl (by decide) rfl rfl rfl hl.1 rfl (lv_room (Nat.le_of_ble_eq_true rfl)) d_S_measure_78) hP hD hS rfl rfl (fun H locs hP hD hS => ?_)
                have hP : va_P G.1 classes [(a_p1, O_G f_p1_relations f_p1_edges f_p1_limit a_p1_rows a_p1_left a_p1_right a_p1_by), (h0, O_S f_known f_paired t10.1 f_connectedInAll f_pairsInAll a_sizes a_capped a_connected f_end a_leftIn a_rightIn a_pairs), (a_p1_by, aI G 16 g_p1_by), (a_p1_left, aI G 16 g_p1_left), (a_p1_right, aI G 16 g_p1_right), (a_p1_rows, aI G 8 g_p1_rows), (a_capped, aZ G 256 t10.2.1), (a_leftIn, aI G 256 g_leftIn), (a_rightIn, aI G 256 g_rightIn), (a_sizes, aJ G 256 t10.2.2)] H := hP
                have hD : va_D A [(a_p1, O_G f_p1_relations f_p1_edges f_p1_limit a_p1_rows a_p1_left a_p1_right a_p1_by), (h0, O_S f_known f_paired t10.1 f_connectedInAll f_pairsInAll a_sizes a_capped a_connected f_end a_leftIn a_rightIn a_pairs), (a_p1_by, aI G 16 g_p1_by), (a_p1_left, aI G 16 g_p1_left), (a_p1_right, aI G 16 g_p1_right), (a_p1_rows, aI G 8 g_p1_rows), (a_capped, aZ G 256 t10.2.1), (a_leftIn, aI G 256 g_leftIn), (a_rightIn, aI G 256 g_rightIn), (a_sizes, aJ G 256 t10.2.2)] := hD
                obtain ⟨v12, ev12⟩ : ∃ z : Int32, z = x3 + (1 : Int32) := ⟨_, rfl⟩
                have hf := dn_e ev12 hf
                refine lv_iinc (v := v12) (lv' := [(3, .int v12), (0, .ref h0), (1, .ref a_p1), (2, .int x2)]) hx hb d_S_measure_81 hl (k := 3) rfl (by rw [ev12]; rfl) (by decide) rfl (fun ls hl => ?_)
                refine lv_goto (tgt := 67) hx hb d_S_measure_84 (by decide) ?_
                exact ih67 t10.1 t10.2.1 t10.2.2 v12 H locs ls (lpk_i hf hk67) ⟨hP, hD, hS⟩ (lv_sub hl [1, 2, 3, 0] rfl)
          exact hL67 N f_cappedInAll g_capped g_sizes x3 H locs ls hy67 ⟨hP, hD, hS⟩ hl
        refine lv_iload_n hx hb d_S_measure_57 rfl (lv_at hl 2 rfl) ?_
        refine lv_aload_n hx hb d_S_measure_58 rfl (lv_at hl 1 rfl) ?_
        refine va_get (D := G.1) (ci := 1) (v := .int f_p1_relations) (C := n_G) (T := T_G) (N := 7) hx hb htl iw_G hown hK hP 0 rfl rfl 0 (by decide) (htl _ k_138) (fun _ h9 => h9) rfl d_S_measure_59 ?_
        refine lv_icmp_ge (tgt := 93) hx hb d_S_measure_62 (by decide) (fun c8 => ?_) (fun c8 => ?_)
        · have hf := di_t c8 hf
          have hq57 := lpk_x hf hk57
          have hf := ex_y (f := fun y => S_measure_a57 N f_p1_relations f_p1_edges f_known f_end g_p1_by g_p1_left g_p1_right g_p1_rows g_leftIn g_rightIn y) hq57 hfo57
          have hf : S_measure_93 N f_p1_relations f_p1_edges f_known f_cappedInAll f_end g_p1_by g_p1_left g_p1_right g_p1_rows g_capped g_leftIn g_rightIn g_sizes = some res := hf
          exact hJ93 f_known f_cappedInAll f_end g_capped g_leftIn g_rightIn g_sizes H locs ls ⟨hP, hD, hS⟩ (lv_sub hl [0] rfl) hf
        · have hf := di_f c8 hf
          refine lv_iconst (v := (0 : Int32)) hx hb d_S_measure_65 (by decide) ?_
          refine lv_istore_n (lv' := [(3, .int (0 : Int32)), (0, .ref h0), (1, .ref a_p1), (2, .int x2)]) hx hb d_S_measure_66 rfl hl (by decide) rfl (fun ls hl => ?_)
          exact hJ67 f_cappedInAll g_capped g_sizes x2 (0 : Int32) H locs ls ⟨hP, hD, hS⟩ (lv_sub hl [1, 2, 3, 0] rfl) hf
    exact hL57 N f_cappedInAll g_capped g_sizes x2 H locs ls hy57 ⟨hP, hD, hS⟩ hl
  refine lv_aload_n hx hb d_S_measure_0 rfl (lv_at hl 0 rfl) ?_
  refine lv_iconst (v := (1 : Int32)) hx hb d_S_measure_1 (by decide) ?_
  refine lv_aload_n hx hb d_S_measure_2 rfl (lv_at hl 1 rfl) ?_
  refine va_get (D := G.1) (ci := 1) (v := .int f_p1_relations) (C := n_G) (T := T_G) (N := 7) hx hb htl iw_G hown hK hP 0 rfl rfl 0 (by decide) (htl _ k_138) (fun _ h9 => h9) rfl d_S_measure_3 ?_
  refine lv_ishl hx hb d_S_measure_6 ?_
  refine lv_topi (fun v1 ev1 => ?_)
  have hf := dn_e ev1 hf
  refine va_put (D := G.1) (ci := 8) (v := .int v1) (ty := .int) (C := n_S) (T := T_S) (N := 12) hx hb htl iw_S ty_S ty_S_ok nm_S hown hK hP hD hS 1 rfl rfl 8 (by decide) (htl _ k_361) (fun _ h9 => h9) rfl (by decide +kernel) rfl rfl (Nat.le_of_ble_eq_true rfl) d_S_measure_7 (fun H locs hP hD hS => ?_)
  have hP : va_P G.1 classes [(a_p1, O_G f_p1_relations f_p1_edges f_p1_limit a_p1_rows a_p1_left a_p1_right a_p1_by), (h0, O_S f_known f_paired f_cappedInAll f_connectedInAll f_pairsInAll a_sizes a_capped a_connected v1 a_leftIn a_rightIn a_pairs), (a_p1_by, aI G 16 g_p1_by), (a_p1_left, aI G 16 g_p1_left), (a_p1_right, aI G 16 g_p1_right), (a_p1_rows, aI G 8 g_p1_rows), (a_capped, aZ G 256 g_capped), (a_leftIn, aI G 256 g_leftIn), (a_rightIn, aI G 256 g_rightIn), (a_sizes, aJ G 256 g_sizes)] H := hP
  have hD : va_D A [(a_p1, O_G f_p1_relations f_p1_edges f_p1_limit a_p1_rows a_p1_left a_p1_right a_p1_by), (h0, O_S f_known f_paired f_cappedInAll f_connectedInAll f_pairsInAll a_sizes a_capped a_connected v1 a_leftIn a_rightIn a_pairs), (a_p1_by, aI G 16 g_p1_by), (a_p1_left, aI G 16 g_p1_left), (a_p1_right, aI G 16 g_p1_right), (a_p1_rows, aI G 8 g_p1_rows), (a_capped, aZ G 256 g_capped), (a_leftIn, aI G 256 g_leftIn), (a_rightIn, aI G 256 g_rightIn), (a_sizes, aJ G 256 g_sizes)] := hD
  refine lv_aload_n hx hb d_S_measure_10 rfl (lv_at hl 0 rfl) ?_
  refine lv_aload_n hx hb d_S_measure_11 rfl (lv_at hl 1 rfl) ?_
  refine va_get (D := G.1) (ci := 1) (v := .ref a_p1_left) (C := n_G) (T := T_G) (N := 7) hx hb htl iw_G hown hK hP 0 rfl rfl 4 (by decide) (htl _ k_154) (fun _ h9 => h9) rfl d_S_measure_12 ?_
  refine lv_aload_n hx hb d_S_measure_15 rfl (lv_at hl 1 rfl) ?_
  refine lv_aload_n hx hb d_S_measure_16 rfl (lv_at hl 0 rfl) ?_
  refine va_get (D := G.1) (ci := 8) (v := .ref a_leftIn) (C := n_S) (T := T_S) (N := 12) hx hb htl iw_S hown hK hP 1 rfl rfl 9 (by decide) (htl _ k_362) (fun _ h9 => h9) rfl d_S_measure_17 ?_
  obtain ⟨t2, hv3, hf⟩ := db_e hf
  refine call_v (isC := [3, 0, 7, 1]) (run_V (As := [.ref a_p1_left, .ref a_p1, .ref a_leftIn]) (rest := []) (ci := 8) (q0 := 1) hx hb hml hown htl (c_S_lay l G Y  h0 a_p1_left a_p1 a_leftIn a_p1_rows a_p1_left a_p1_right a_p1_by a_sizes a_capped a_connected a_leftIn a_rightIn a_pairs g_p1_left f_p1_relations f_p1_edges f_p1_limit g_leftIn f_known f_paired f_cappedInAll f_connectedInAll f_pairsInAll v1 N t2 hv3) mv_S_lay k_845 (hRk (by decide) (by decide)) hK hsk hS hP hD (isC := [3, 0, 7, 1]) rfl (by decide) rfl rfl rfl hl.1 rfl (lv_room (Nat.le_of_ble_eq_true rfl)) d_S_measure_20) hP hD hS rfl rfl (fun H locs hP hD hS => ?_)
  have hP : va_P G.1 classes [(a_p1, O_G f_p1_relations f_p1_edges f_p1_limit a_p1_rows a_p1_left a_p1_right a_p1_by), (h0, O_S f_known f_paired f_cappedInAll f_connectedInAll f_pairsInAll a_sizes a_capped a_connected v1 a_leftIn a_rightIn a_pairs), (a_p1_by, aI G 16 g_p1_by), (a_p1_left, aI G 16 g_p1_left), (a_p1_right, aI G 16 g_p1_right), (a_p1_rows, aI G 8 g_p1_rows), (a_capped, aZ G 256 g_capped), (a_leftIn, aI G 256 t2), (a_rightIn, aI G 256 g_rightIn), (a_sizes, aJ G 256 g_sizes)] H := hP
  have hD : va_D A [(a_p1, O_G f_p1_relations f_p1_edges f_p1_limit a_p1_rows a_p1_left a_p1_right a_p1_by), (h0, O_S f_known f_paired f_cappedInAll f_connectedInAll f_pairsInAll a_sizes a_capped a_connected v1 a_leftIn a_rightIn a_pairs), (a_p1_by, aI G 16 g_p1_by), (a_p1_left, aI G 16 g_p1_left), (a_p1_right, aI G 16 g_p1_right), (a_p1_rows, aI G 8 g_p1_rows), (a_capped, aZ G 256 g_capped), (a_leftIn, aI G 256 t2), (a_rightIn, aI G 256 g_rightIn), (a_sizes, aJ G 256 g_sizes)] := hD
  refine lv_aload_n hx hb d_S_measure_23 rfl (lv_at hl 0 rfl) ?_
  refine lv_aload_n hx hb d_S_measure_24 rfl (lv_at hl 1 rfl) ?_
  refine va_get (D := G.1) (ci := 1) (v := .ref a_p1_right) (C := n_G) (T := T_G) (N := 7) hx hb htl iw_G hown hK hP 0 rfl rfl 5 (by decide) (htl _ k_157) (fun _ h9 => h9) rfl d_S_measure_25 ?_
  refine lv_aload_n hx hb d_S_measure_28 rfl (lv_at hl 1 rfl) ?_
  refine lv_aload_n hx hb d_S_measure_29 rfl (lv_at hl 0 rfl) ?_
  refine va_get (D := G.1) (ci := 8) (v := .ref a_rightIn) (C := n_S) (T := T_S) (N := 12) hx hb htl iw_S hown hK hP 1 rfl rfl 10 (by decide) (htl _ k_363) (fun _ h9 => h9) rfl d_S_measure_30 ?_
  obtain ⟨t4, hv5, hf⟩ := db_e hf
  refine call_v (isC := [4, 0, 8, 1]) (run_V (As := [.ref a_p1_right, .ref a_p1, .ref a_rightIn]) (rest := []) (ci := 8) (q0 := 1) hx hb hml hown htl (c_S_lay l G Y  h0 a_p1_right a_p1 a_rightIn a_p1_rows a_p1_left a_p1_right a_p1_by a_sizes a_capped a_connected a_leftIn a_rightIn a_pairs g_p1_right f_p1_relations f_p1_edges f_p1_limit g_rightIn f_known f_paired f_cappedInAll f_connectedInAll f_pairsInAll v1 N t4 hv5) mv_S_lay k_845 (hRk (by decide) (by decide)) hK hsk hS hP hD (isC := [4, 0, 8, 1]) rfl (by decide) rfl rfl rfl hl.1 rfl (lv_room (Nat.le_of_ble_eq_true rfl)) d_S_measure_33) hP hD hS rfl rfl (fun H locs hP hD hS => ?_)
  have hP : va_P G.1 classes [(a_p1, O_G f_p1_relations f_p1_edges f_p1_limit a_p1_rows a_p1_left a_p1_right a_p1_by), (h0, O_S f_known f_paired f_cappedInAll f_connectedInAll f_pairsInAll a_sizes a_capped a_connected v1 a_leftIn a_rightIn a_pairs), (a_p1_by, aI G 16 g_p1_by), (a_p1_left, aI G 16 g_p1_left), (a_p1_right, aI G 16 g_p1_right), (a_p1_rows, aI G 8 g_p1_rows), (a_capped, aZ G 256 g_capped), (a_leftIn, aI G 256 t2), (a_rightIn, aI G 256 t4), (a_sizes, aJ G 256 g_sizes)] H := hP
  have hD : va_D A [(a_p1, O_G f_p1_relations f_p1_edges f_p1_limit a_p1_rows a_p1_left a_p1_right a_p1_by), (h0, O_S f_known f_paired f_cappedInAll f_connectedInAll f_pairsInAll a_sizes a_capped a_connected v1 a_leftIn a_rightIn a_pairs), (a_p1_by, aI G 16 g_p1_by), (a_p1_left, aI G 16 g_p1_left), (a_p1_right, aI G 16 g_p1_right), (a_p1_rows, aI G 8 g_p1_rows), (a_capped, aZ G 256 g_capped), (a_leftIn, aI G 256 t2), (a_rightIn, aI G 256 t4), (a_sizes, aJ G 256 g_sizes)] := hD
  refine lv_aload_n hx hb d_S_measure_36 rfl (lv_at hl 0 rfl) ?_
  refine va_get (D := G.1) (ci := 8) (v := .ref a_sizes) (C := n_S) (T := T_S) (N := 12) hx hb htl iw_S hown hK hP 1 rfl rfl 5 (by decide) (htl _ k_352) (fun _ h9 => h9) rfl d_S_measure_37 ?_
  refine lv_iconst (v := (0 : Int32)) hx hb d_S_measure_40 (by decide) ?_
  refine lv_lconst (v := (1 : Int64)) hx hb d_S_measure_41 (by decide) ?_
  refine nx_last hx hb hK hP hD hS 9 2 rfl rfl (vp_lit (by decide)) d_S_measure_42 (fun v6 ev6 H locs hP hD hS => ?_)
  have hf := dn_e ev6 hf
  have hP : va_P G.1 classes [(a_p1, O_G f_p1_relations f_p1_edges f_p1_limit a_p1_rows a_p1_left a_p1_right a_p1_by), (h0, O_S f_known f_paired f_cappedInAll f_connectedInAll f_pairsInAll a_sizes a_capped a_connected v1 a_leftIn a_rightIn a_pairs), (a_p1_by, aI G 16 g_p1_by), (a_p1_left, aI G 16 g_p1_left), (a_p1_right, aI G 16 g_p1_right), (a_p1_rows, aI G 8 g_p1_rows), (a_capped, aZ G 256 g_capped), (a_leftIn, aI G 256 t2), (a_rightIn, aI G 256 t4), (a_sizes, aJ G 256 v6)] H := hP
  have hD : va_D A [(a_p1, O_G f_p1_relations f_p1_edges f_p1_limit a_p1_rows a_p1_left a_p1_right a_p1_by), (h0, O_S f_known f_paired f_cappedInAll f_connectedInAll f_pairsInAll a_sizes a_capped a_connected v1 a_leftIn a_rightIn a_pairs), (a_p1_by, aI G 16 g_p1_by), (a_p1_left, aI G 16 g_p1_left), (a_p1_right, aI G 16 g_p1_right), (a_p1_rows, aI G 8 g_p1_rows), (a_capped, aZ G 256 g_capped), (a_leftIn, aI G 256 t2), (a_rightIn, aI G 256 t4), (a_sizes, aJ G 256 v6)] := hD
  refine lv_aload_n hx hb d_S_measure_43 rfl (lv_at hl 0 rfl) ?_
  refine va_get (D := G.1) (ci := 8) (v := .ref a_capped) (C := n_S) (T := T_S) (N := 12) hx hb htl iw_S hown hK hP 1 rfl rfl 6 (by decide) (htl _ k_356) (fun _ h9 => h9) rfl d_S_measure_44 ?_
  refine lv_iconst (v := (0 : Int32)) hx hb d_S_measure_47 (by decide) ?_
  refine lv_iconst (v := (0 : Int32)) hx hb d_S_measure_48 (by decide) ?_
  refine nx_zast hx hb hK hP hD hS 6 3 rfl rfl (vp_lit (by decide)) d_S_measure_49 (fun v7 ev7 H locs hP hD hS => ?_)
  have hf := dn_e ev7 hf
  have hP : va_P G.1 classes [(a_p1, O_G f_p1_relations f_p1_edges f_p1_limit a_p1_rows a_p1_left a_p1_right a_p1_by), (h0, O_S f_known f_paired f_cappedInAll f_connectedInAll f_pairsInAll a_sizes a_capped a_connected v1 a_leftIn a_rightIn a_pairs), (a_p1_by, aI G 16 g_p1_by), (a_p1_left, aI G 16 g_p1_left), (a_p1_right, aI G 16 g_p1_right), (a_p1_rows, aI G 8 g_p1_rows), (a_capped, aZ G 256 v7), (a_leftIn, aI G 256 t2), (a_rightIn, aI G 256 t4), (a_sizes, aJ G 256 v6)] H := hP
  have hD : va_D A [(a_p1, O_G f_p1_relations f_p1_edges f_p1_limit a_p1_rows a_p1_left a_p1_right a_p1_by), (h0, O_S f_known f_paired f_cappedInAll f_connectedInAll f_pairsInAll a_sizes a_capped a_connected v1 a_leftIn a_rightIn a_pairs), (a_p1_by, aI G 16 g_p1_by), (a_p1_left, aI G 16 g_p1_left), (a_p1_right, aI G 16 g_p1_right), (a_p1_rows, aI G 8 g_p1_rows), (a_capped, aZ G 256 v7), (a_leftIn, aI G 256 t2), (a_rightIn, aI G 256 t4), (a_sizes, aJ G 256 v6)] := hD
  refine lv_aload_n hx hb d_S_measure_50 rfl (lv_at hl 0 rfl) ?_
  refine lv_iconst (v := (0 : Int32)) hx hb d_S_measure_51 (by decide) ?_
  refine va_put (D := G.1) (ci := 8) (v := .int (0 : Int32)) (ty := .int) (C := n_S) (T := T_S) (N := 12) hx hb htl iw_S ty_S ty_S_ok nm_S hown hK hP hD hS 1 rfl rfl 2 (by decide) (htl _ k_346) (fun _ h9 => h9) rfl (by decide +kernel) rfl rfl (Nat.le_of_ble_eq_true rfl) d_S_measure_52 (fun H locs hP hD hS => ?_)
  have hP : va_P G.1 classes [(a_p1, O_G f_p1_relations f_p1_edges f_p1_limit a_p1_rows a_p1_left a_p1_right a_p1_by), (h0, O_S f_known f_paired (0 : Int32) f_connectedInAll f_pairsInAll a_sizes a_capped a_connected v1 a_leftIn a_rightIn a_pairs), (a_p1_by, aI G 16 g_p1_by), (a_p1_left, aI G 16 g_p1_left), (a_p1_right, aI G 16 g_p1_right), (a_p1_rows, aI G 8 g_p1_rows), (a_capped, aZ G 256 v7), (a_leftIn, aI G 256 t2), (a_rightIn, aI G 256 t4), (a_sizes, aJ G 256 v6)] H := hP
  have hD : va_D A [(a_p1, O_G f_p1_relations f_p1_edges f_p1_limit a_p1_rows a_p1_left a_p1_right a_p1_by), (h0, O_S f_known f_paired (0 : Int32) f_connectedInAll f_pairsInAll a_sizes a_capped a_connected v1 a_leftIn a_rightIn a_pairs), (a_p1_by, aI G 16 g_p1_by), (a_p1_left, aI G 16 g_p1_left), (a_p1_right, aI G 16 g_p1_right), (a_p1_rows, aI G 8 g_p1_rows), (a_capped, aZ G 256 v7), (a_leftIn, aI G 256 t2), (a_rightIn, aI G 256 t4), (a_sizes, aJ G 256 v6)] := hD
  refine lv_iconst (v := (0 : Int32)) hx hb d_S_measure_55 (by decide) ?_
  refine lv_istore_n (lv' := [(2, .int (0 : Int32)), (0, .ref h0), (1, .ref a_p1)]) hx hb d_S_measure_56 rfl hl (by decide) rfl (fun ls hl => ?_)
  exact hJ57 f_known (0 : Int32) v1 v7 t2 t4 v6 (0 : Int32) H locs ls ⟨hP, hD, hS⟩ (lv_sub hl [1, 2, 0] rfl) hf
set_option maxHeartbeats 4000000 in
set_option maxRecDepth 100000 in
theorem c_S_isPair (l : Launch) (G : va_G × (Nat → ClassId)) (Y : (Nat → Nat) × (Nat → Nat)) (h0 : Nat) (a_sizes : Nat) (a_capped : Nat) (a_connected : Nat) (a_leftIn : Nat) (a_rightIn : Nat) (a_pairs : Nat) (f_known : Int32) (f_paired : Int32) (f_cappedInAll : Int32) (f_connectedInAll : Int32) (f_pairsInAll : Int32) (f_end : Int32) (g_connected : Nat → Int32) (g_leftIn : Nat → Int32) (g_rightIn : Nat → Int32) (x1 : Int32) (x2 : Int32) (res : Int32) (hf : S_isPair g_connected g_leftIn g_rightIn x1 x2 = some res) : Ci l classes y_S_isPair b_S_isPair 3 (some .boolean) (rmk 1) G.1 (tyL G) Y [.ref h0, .int x1, .int x2] [(h0, O_S f_known f_paired f_cappedInAll f_connectedInAll f_pairsInAll a_sizes a_capped a_connected f_end a_leftIn a_rightIn a_pairs), (a_connected, aZ G 256 g_connected), (a_leftIn, aI G 256 g_leftIn), (a_rightIn, aI G 256 g_rightIn)] [(h0, O_S f_known f_paired f_cappedInAll f_connectedInAll f_pairsInAll a_sizes a_capped a_connected f_end a_leftIn a_rightIn a_pairs), (a_connected, aZ G 256 g_connected), (a_leftIn, aI G 256 g_leftIn), (a_rightIn, aI G 256 g_rightIn)] res := by
  refine entZ (by decide) (Nat.le_of_ble_eq_true rfl) ?_
  intro p e s m args below meth c ls A Q hx hb hml hown htl hK hsk wq hl hret
  obtain ⟨hP, hD, hS⟩ := wq
  have hl : lv_has ls 3 [(0, .ref h0), (1, .int x1), (2, .int x2)] := hl
  have hS : va_S A s.heap s.heap [] := hS
  obtain ⟨H, hH⟩ : ∃ H : Heap, H = s.heap := ⟨_, rfl⟩
  obtain ⟨locs, hlocs⟩ : ∃ z : List Loc, z = [] := ⟨_, rfl⟩
  rw [← hH] at hP
  replace hS : va_S A s.heap H locs := by rw [hH, hlocs]; exact hS
  suffices hgo : W p l e (rmk 1) s m args below meth c H locs 0 0 Q (F0 m 0 ls []) by rw [hH, hlocs] at hgo; exact hgo
  refine lv_aload_n hx hb d_S_isPair_0 rfl (lv_at hl 0 rfl) ?_
  refine va_get (D := G.1) (ci := 8) (v := .ref a_connected) (C := n_S) (T := T_S) (N := 12) hx hb htl iw_S hown hK hP 0 rfl rfl 7 (by decide) (htl _ k_358) (fun _ h9 => h9) rfl d_S_isPair_1 ?_
  refine lv_iload_n hx hb d_S_isPair_4 rfl (lv_at hl 1 rfl) ?_
  obtain ⟨c1, hf⟩ := dk_e hf
  refine va_zald hx hb hK hP 1 3 rfl rfl c1 d_S_isPair_5 ?_
  refine lv_if_eq (tgt := 31) hx hb d_S_isPair_6 (by decide) (fun c2 => ?_) (fun c2 => ?_)
  · have hf := di_t c2 hf
    refine lv_iconst (v := (0 : Int32)) hx hb d_S_isPair_31 (by decide) ?_
    cases hf
    exact hret 32 ls H locs z_0 hP hS d_S_isPair_32
  · have hf := di_f c2 hf
    refine lv_aload_n hx hb d_S_isPair_9 rfl (lv_at hl 0 rfl) ?_
    refine va_get (D := G.1) (ci := 8) (v := .ref a_connected) (C := n_S) (T := T_S) (N := 12) hx hb htl iw_S hown hK hP 0 rfl rfl 7 (by decide) (htl _ k_358) (fun _ h9 => h9) rfl d_S_isPair_10 ?_
    refine lv_iload_n hx hb d_S_isPair_13 rfl (lv_at hl 2 rfl) ?_
    obtain ⟨c3, hf⟩ := dk_e hf
    refine va_zald hx hb hK hP 1 3 rfl rfl c3 d_S_isPair_14 ?_
    refine lv_if_eq (tgt := 31) hx hb d_S_isPair_15 (by decide) (fun c4 => ?_) (fun c4 => ?_)
    · have hf := di_t c4 hf
      refine lv_iconst (v := (0 : Int32)) hx hb d_S_isPair_31 (by decide) ?_
      cases hf
      exact hret 32 ls H locs z_0 hP hS d_S_isPair_32
    · have hf := di_f c4 hf
      refine lv_aload_n hx hb d_S_isPair_18 rfl (lv_at hl 0 rfl) ?_
      refine lv_iload_n hx hb d_S_isPair_19 rfl (lv_at hl 1 rfl) ?_
      refine lv_iload_n hx hb d_S_isPair_20 rfl (lv_at hl 2 rfl) ?_
      obtain ⟨t5, hv6, hf⟩ := db_e hf
      refine call_i (isC := [0, 2, 3]) (run_V (As := [.int x1, .int x2]) (rest := []) (ci := 8) (q0 := 0) hx hb hml hown htl (c_S_areJoined l G Y  h0 a_sizes a_capped a_connected a_leftIn a_rightIn a_pairs f_known f_paired f_cappedInAll f_connectedInAll f_pairsInAll f_end g_leftIn g_rightIn x1 x2 t5 hv6) mv_S_areJoined k_884 (hRk (by decide) (by decide)) hK hsk hS hP hD (isC := [0, 2, 3]) rfl (by decide) rfl rfl rfl hl.1 rfl (lv_room (Nat.le_of_ble_eq_true rfl)) d_S_isPair_21) hP hD hS rfl rfl (fun H locs hP hD hS => ?_)
      have hP : va_P G.1 classes [(h0, O_S f_known f_paired f_cappedInAll f_connectedInAll f_pairsInAll a_sizes a_capped a_connected f_end a_leftIn a_rightIn a_pairs), (a_connected, aZ G 256 g_connected), (a_leftIn, aI G 256 g_leftIn), (a_rightIn, aI G 256 g_rightIn)] H := hP
      have hD : va_D A [(h0, O_S f_known f_paired f_cappedInAll f_connectedInAll f_pairsInAll a_sizes a_capped a_connected f_end a_leftIn a_rightIn a_pairs), (a_connected, aZ G 256 g_connected), (a_leftIn, aI G 256 g_leftIn), (a_rightIn, aI G 256 g_rightIn)] := hD
      refine lv_if_eq (tgt := 31) hx hb d_S_isPair_24 (by decide) (fun c7 => ?_) (fun c7 => ?_)
      · have hf := di_t c7 hf
        refine lv_iconst (v := (0 : Int32)) hx hb d_S_isPair_31 (by decide) ?_
        cases hf
        exact hret 32 ls H locs z_0 hP hS d_S_isPair_32
      · have hf := di_f c7 hf
        refine lv_iconst (v := (1 : Int32)) hx hb d_S_isPair_27 (by decide) ?_
        refine lv_goto (tgt := 32) hx hb d_S_isPair_28 (by decide) ?_
        cases hf
        exact hret 32 ls H locs z_1 hP hS d_S_isPair_32
set_option maxHeartbeats 4000000 in
set_option maxRecDepth 100000 in
theorem c_S_countPairs (l : Launch) (G : va_G × (Nat → ClassId)) (Y : (Nat → Nat) × (Nat → Nat)) (h0 : Nat) (a_sizes : Nat) (a_capped : Nat) (a_connected : Nat) (a_leftIn : Nat) (a_rightIn : Nat) (a_pairs : Nat) (f_known : Int32) (f_paired : Int32) (f_cappedInAll : Int32) (f_connectedInAll : Int32) (f_pairsInAll : Int32) (f_end : Int32) (g_connected : Nat → Int32) (g_leftIn : Nat → Int32) (g_rightIn : Nat → Int32) (x1 : Int32) (N : Nat) (res : Int32) (hf : S_countPairs N g_connected g_leftIn g_rightIn x1 = some res) : Ci l classes y_S_countPairs b_S_countPairs 6 (some .int) (rmk 2) G.1 (tyL G) Y [.ref h0, .int x1] [(h0, O_S f_known f_paired f_cappedInAll f_connectedInAll f_pairsInAll a_sizes a_capped a_connected f_end a_leftIn a_rightIn a_pairs), (a_connected, aZ G 256 g_connected), (a_leftIn, aI G 256 g_leftIn), (a_rightIn, aI G 256 g_rightIn)] [(h0, O_S f_known f_paired f_cappedInAll f_connectedInAll f_pairsInAll a_sizes a_capped a_connected f_end a_leftIn a_rightIn a_pairs), (a_connected, aZ G 256 g_connected), (a_leftIn, aI G 256 g_leftIn), (a_rightIn, aI G 256 g_rightIn)] res := by
  refine entI (by decide) (Nat.le_of_ble_eq_true rfl) ?_
  intro p e s m args below meth c ls A Q hx hb hml hown htl hK hsk wq hl hret
  obtain ⟨hP, hD, hS⟩ := wq
  have hl : lv_has ls 6 [(0, .ref h0), (1, .int x1)] := hl
  have hS : va_S A s.heap s.heap [] := hS
  obtain ⟨H, hH⟩ : ∃ H : Heap, H = s.heap := ⟨_, rfl⟩
  obtain ⟨locs, hlocs⟩ : ∃ z : List Loc, z = [] := ⟨_, rfl⟩
  rw [← hH] at hP
  replace hS : va_S A s.heap H locs := by rw [hH, hlocs]; exact hS
  suffices hgo : W p l e (rmk 2) s m args below meth c H locs 0 0 Q (F0 m 0 ls []) by rw [hH, hlocs] at hgo; exact hgo
  have hJ57 : ∀ (x2 : Int32) (H : Heap) (locs : List Loc) (ls : Array Slot), PDS G.1 classes A s [(h0, O_S f_known f_paired f_cappedInAll f_connectedInAll f_pairsInAll a_sizes a_capped a_connected f_end a_leftIn a_rightIn a_pairs), (a_connected, aZ G 256 g_connected), (a_leftIn, aI G 256 g_leftIn), (a_rightIn, aI G 256 g_rightIn)] H locs → lv_has ls 6 [(2, .int x2)] → S_countPairs_57 N g_connected g_leftIn g_rightIn x2 = some res → W p l e (rmk 2) s m args below meth c H locs 0 0 Q (F0 m 57 ls []) := by
    intro x2 H locs ls wq hl hf
    obtain ⟨hP, hD, hS⟩ := wq
    refine lv_iload_n hx hb d_S_countPairs_57 rfl (lv_at hl 0 rfl) ?_
    cases hf
    exact hret 58 ls H locs hP hS d_S_countPairs_58
  have hJ16 : ∀ (x2 : Int32) (x3 : Int32) (x4 : Int32) (x5 : Int32) (H : Heap) (locs : List Loc) (ls : Array Slot), PDS G.1 classes A s [(h0, O_S f_known f_paired f_cappedInAll f_connectedInAll f_pairsInAll a_sizes a_capped a_connected f_end a_leftIn a_rightIn a_pairs), (a_connected, aZ G 256 g_connected), (a_leftIn, aI G 256 g_leftIn), (a_rightIn, aI G 256 g_rightIn)] H locs → lv_has ls 6 [(0, .ref h0), (1, .int x1), (2, .int x2), (3, .int x3), (4, .int x4), (5, .int x5)] → S_countPairs_16 N g_connected g_leftIn g_rightIn x1 x2 x3 x4 x5 = some res → W p l e (rmk 2) s m args below meth c H locs 0 0 Q (F0 m 16 ls []) := by
    intro x2 x3 x4 x5 H locs ls wq hl hf
    obtain ⟨hP, hD, hS⟩ := wq
    obtain ⟨y16, hy16, hfo16⟩ := db_e hf
    have hL16 : ∀ (n : Nat) (x2 : Int32) (x4 : Int32) (x5 : Int32) (H : Heap) (locs : List Loc) (ls : Array Slot), lp (fun x => S_countPairs_b16 N g_connected g_leftIn g_rightIn x1 x.1 x3 x.2.1 x.2.2) n (x2, x4, x5) = some y16 → PDS G.1 classes A s [(h0, O_S f_known f_paired f_cappedInAll f_connectedInAll f_pairsInAll a_sizes a_capped a_connected f_end a_leftIn a_rightIn a_pairs), (a_connected, aZ G 256 g_connected), (a_leftIn, aI G 256 g_leftIn), (a_rightIn, aI G 256 g_rightIn)] H locs → lv_has ls 6 [(0, .ref h0), (1, .int x1), (2, .int x2), (3, .int x3), (4, .int x4), (5, .int x5)] → W p l e (rmk 2) s m args below meth c H locs 0 0 Q (F0 m 16 ls []) := by
      intro n
      induction n with
      | zero =>
        intro x2 x4 x5 H locs ls hf
        exact lp_0 hf
      | succ n ih16 =>
        intro x2 x4 x5 H locs ls hf wq hl
        obtain ⟨hP, hD, hS⟩ := wq
        obtain ⟨r16, hf, hk16⟩ := lp_s hf
        have hf : S_countPairs_b16 N g_connected g_leftIn g_rightIn x1 x2 x3 x4 x5 = some r16 := hf
        have hJ41 : ∀ (x4 : Int32) (x5 : Int32) (z0 : Int32) (z1 : Int32) (H : Heap) (locs : List Loc) (ls : Array Slot), PDS G.1 classes A s [(h0, O_S f_known f_paired f_cappedInAll f_connectedInAll f_pairsInAll a_sizes a_capped a_connected f_end a_leftIn a_rightIn a_pairs), (a_connected, aZ G 256 g_connected), (a_leftIn, aI G 256 g_leftIn), (a_rightIn, aI G 256 g_rightIn)] H locs → lv_has ls 6 [(0, .ref h0), (1, .int x1), (3, .int x3), (4, .int x4), (5, .int x5)] → S_countPairs_41 N g_connected g_leftIn g_rightIn x1 x3 x4 x5 z0 z1 = some r16 → W p l e (rmk 2) s m args below meth c H locs 0 0 Q (F0 m 41 ls [.int z1, .int z0]) := by
          intro x4 x5 z0 z1 H locs ls wq hl hf
          obtain ⟨hP, hD, hS⟩ := wq
          refine lv_iadd hx hb d_S_countPairs_41 ?_
          refine lv_topi (fun v7 ev7 => ?_)
          have hf := dn_e ev7 hf
          refine lv_istore_n (lv' := [(2, .int v7), (0, .ref h0), (1, .int x1), (3, .int x3), (4, .int x4), (5, .int x5)]) hx hb d_S_countPairs_42 rfl hl (by decide) rfl (fun ls hl => ?_)
          refine lv_iload_n hx hb d_S_countPairs_43 rfl (lv_at hl 2 rfl) ?_
          refine lv_iload hx hb d_S_countPairs_44 (lv_at hl 4 rfl) ?_
          refine call_i (isC := []) (run_SN (As := [.int x1, .int x4]) (rest := []) hx hb hml hown htl (c_J_nextPart l G Y  x1 x4 _ rfl) ms_J_nextPart k_888 (hRk (by decide) (by decide)) hK hsk hS hP hD (isC := []) rfl (by decide) rfl hl.1 rfl (lv_room (Nat.le_of_ble_eq_true rfl)) d_S_countPairs_46) hP hD hS rfl rfl (fun H locs hP hD hS => ?_)
          have hP : va_P G.1 classes [(h0, O_S f_known f_paired f_cappedInAll f_connectedInAll f_pairsInAll a_sizes a_capped a_connected f_end a_leftIn a_rightIn a_pairs), (a_connected, aZ G 256 g_connected), (a_leftIn, aI G 256 g_leftIn), (a_rightIn, aI G 256 g_rightIn)] H := hP
          have hD : va_D A [(h0, O_S f_known f_paired f_cappedInAll f_connectedInAll f_pairsInAll a_sizes a_capped a_connected f_end a_leftIn a_rightIn a_pairs), (a_connected, aZ G 256 g_connected), (a_leftIn, aI G 256 g_leftIn), (a_rightIn, aI G 256 g_rightIn)] := hD
          refine lv_topi (fun v8 ev8 => ?_)
          have hf := dn_e ev8 hf
          refine lv_istore (lv' := [(4, .int v8), (2, .int v7), (0, .ref h0), (1, .int x1), (3, .int x3), (5, .int x5)]) hx hb d_S_countPairs_49 hl (by decide) rfl (fun ls hl => ?_)
          obtain ⟨v9, ev9⟩ : ∃ z : Int32, z = x5 + (1 : Int32) := ⟨_, rfl⟩
          have hf := dn_e ev9 hf
          refine lv_iinc (v := v9) (lv' := [(5, .int v9), (4, .int v8), (2, .int v7), (0, .ref h0), (1, .int x1), (3, .int x3)]) hx hb d_S_countPairs_51 hl (k := 5) rfl (by rw [ev9]; rfl) (by decide) rfl (fun ls hl => ?_)
          refine lv_goto (tgt := 16) hx hb d_S_countPairs_54 (by decide) ?_
          exact ih16 v7 v8 v9 H locs ls (lpk_i hf hk16) ⟨hP, hD, hS⟩ (lv_sub hl [3, 4, 2, 5, 1, 0] rfl)
        refine lv_iload hx hb d_S_countPairs_16 (lv_at hl 5 rfl) ?_
        refine lv_iload_n hx hb d_S_countPairs_18 rfl (lv_at hl 3 rfl) ?_
        refine lv_icmp_ge (tgt := 57) hx hb d_S_countPairs_19 (by decide) (fun c3 => ?_) (fun c3 => ?_)
        · have hf := di_t c3 hf
          have hq16 := lpk_x hf hk16
          have hf := ex_y (f := fun y => S_countPairs_a16 N g_connected g_leftIn g_rightIn x1 x3 y) hq16 hfo16
          have hf : S_countPairs_57 N g_connected g_leftIn g_rightIn x2 = some res := hf
          exact hJ57 x2 H locs ls ⟨hP, hD, hS⟩ (lv_sub hl [2] rfl) hf
        · have hf := di_f c3 hf
          refine lv_iload_n hx hb d_S_countPairs_22 rfl (lv_at hl 2 rfl) ?_
          refine lv_aload_n hx hb d_S_countPairs_23 rfl (lv_at hl 0 rfl) ?_
          refine lv_iload hx hb d_S_countPairs_24 (lv_at hl 4 rfl) ?_
          refine lv_iload_n hx hb d_S_countPairs_26 rfl (lv_at hl 1 rfl) ?_
          refine lv_iload hx hb d_S_countPairs_27 (lv_at hl 4 rfl) ?_
          refine lv_ixor hx hb d_S_countPairs_29 ?_
          obtain ⟨t4, hv5, hf⟩ := db_e hf
          refine call_i (isC := [0, 1, 2, 3]) (run_V (As := [.int x4, .int (x1 ^^^ x4)]) (rest := [.int x2]) (ci := 8) (q0 := 0) hx hb hml hown htl (c_S_isPair l G Y  h0 a_sizes a_capped a_connected a_leftIn a_rightIn a_pairs f_known f_paired f_cappedInAll f_connectedInAll f_pairsInAll f_end g_connected g_leftIn g_rightIn x4 (x1 ^^^ x4) t4 hv5) mv_S_isPair k_880 (hRk (by decide) (by decide)) hK hsk hS hP hD (isC := [0, 1, 2, 3]) rfl (by decide) rfl rfl rfl hl.1 rfl (lv_room (Nat.le_of_ble_eq_true rfl)) d_S_countPairs_30) hP hD hS rfl rfl (fun H locs hP hD hS => ?_)
          have hP : va_P G.1 classes [(h0, O_S f_known f_paired f_cappedInAll f_connectedInAll f_pairsInAll a_sizes a_capped a_connected f_end a_leftIn a_rightIn a_pairs), (a_connected, aZ G 256 g_connected), (a_leftIn, aI G 256 g_leftIn), (a_rightIn, aI G 256 g_rightIn)] H := hP
          have hD : va_D A [(h0, O_S f_known f_paired f_cappedInAll f_connectedInAll f_pairsInAll a_sizes a_capped a_connected f_end a_leftIn a_rightIn a_pairs), (a_connected, aZ G 256 g_connected), (a_leftIn, aI G 256 g_leftIn), (a_rightIn, aI G 256 g_rightIn)] := hD
          refine lv_if_eq (tgt := 40) hx hb d_S_countPairs_33 (by decide) (fun c6 => ?_) (fun c6 => ?_)
          · have hf := di_t c6 hf
            refine lv_iconst (v := (0 : Int32)) hx hb d_S_countPairs_40 (by decide) ?_
            exact hJ41 x4 x5 x2 (0 : Int32) H locs ls ⟨hP, hD, hS⟩ (lv_sub hl [0, 1, 3, 4, 5] rfl) hf
          · have hf := di_f c6 hf
            refine lv_iconst (v := (1 : Int32)) hx hb d_S_countPairs_36 (by decide) ?_
            refine lv_goto (tgt := 41) hx hb d_S_countPairs_37 (by decide) ?_
            exact hJ41 x4 x5 x2 (1 : Int32) H locs ls ⟨hP, hD, hS⟩ (lv_sub hl [0, 1, 3, 4, 5] rfl) hf
    exact hL16 N x2 x4 x5 H locs ls hy16 ⟨hP, hD, hS⟩ hl
  refine lv_iconst (v := (0 : Int32)) hx hb d_S_countPairs_0 (by decide) ?_
  refine lv_istore_n (lv' := [(2, .int (0 : Int32)), (0, .ref h0), (1, .int x1)]) hx hb d_S_countPairs_1 rfl hl (by decide) rfl (fun ls hl => ?_)
  refine lv_iload_n hx hb d_S_countPairs_2 rfl (lv_at hl 2 rfl) ?_
  refine call_i (isC := []) (run_SN (As := [.int x1]) (rest := []) hx hb hml hown htl (c_J_splitsOf l G Y  x1 _ rfl) ms_J_splitsOf k_875 (hRk (by decide) (by decide)) hK hsk hS hP hD (isC := []) rfl (by decide) rfl hl.1 rfl (lv_room (Nat.le_of_ble_eq_true rfl)) d_S_countPairs_3) hP hD hS rfl rfl (fun H locs hP hD hS => ?_)
  have hP : va_P G.1 classes [(h0, O_S f_known f_paired f_cappedInAll f_connectedInAll f_pairsInAll a_sizes a_capped a_connected f_end a_leftIn a_rightIn a_pairs), (a_connected, aZ G 256 g_connected), (a_leftIn, aI G 256 g_leftIn), (a_rightIn, aI G 256 g_rightIn)] H := hP
  have hD : va_D A [(h0, O_S f_known f_paired f_cappedInAll f_connectedInAll f_pairsInAll a_sizes a_capped a_connected f_end a_leftIn a_rightIn a_pairs), (a_connected, aZ G 256 g_connected), (a_leftIn, aI G 256 g_leftIn), (a_rightIn, aI G 256 g_rightIn)] := hD
  refine lv_topi (fun v1 ev1 => ?_)
  have hf := dn_e ev1 hf
  refine lv_istore_n (lv' := [(3, .int v1), (2, .int (0 : Int32)), (0, .ref h0), (1, .int x1)]) hx hb d_S_countPairs_6 rfl hl (by decide) rfl (fun ls hl => ?_)
  refine lv_iload_n hx hb d_S_countPairs_7 rfl (lv_at hl 3 rfl) ?_
  refine call_i (isC := []) (run_SN (As := [.int x1]) (rest := []) hx hb hml hown htl (c_J_least l G Y  x1 _ rfl) ms_J_least k_879 (hRk (by decide) (by decide)) hK hsk hS hP hD (isC := []) rfl (by decide) rfl hl.1 rfl (lv_room (Nat.le_of_ble_eq_true rfl)) d_S_countPairs_8) hP hD hS rfl rfl (fun H locs hP hD hS => ?_)
  have hP : va_P G.1 classes [(h0, O_S f_known f_paired f_cappedInAll f_connectedInAll f_pairsInAll a_sizes a_capped a_connected f_end a_leftIn a_rightIn a_pairs), (a_connected, aZ G 256 g_connected), (a_leftIn, aI G 256 g_leftIn), (a_rightIn, aI G 256 g_rightIn)] H := hP
  have hD : va_D A [(h0, O_S f_known f_paired f_cappedInAll f_connectedInAll f_pairsInAll a_sizes a_capped a_connected f_end a_leftIn a_rightIn a_pairs), (a_connected, aZ G 256 g_connected), (a_leftIn, aI G 256 g_leftIn), (a_rightIn, aI G 256 g_rightIn)] := hD
  refine lv_topi (fun v2 ev2 => ?_)
  have hf := dn_e ev2 hf
  refine lv_istore (lv' := [(4, .int v2), (3, .int v1), (2, .int (0 : Int32)), (0, .ref h0), (1, .int x1)]) hx hb d_S_countPairs_11 hl (by decide) rfl (fun ls hl => ?_)
  refine lv_iconst (v := (0 : Int32)) hx hb d_S_countPairs_13 (by decide) ?_
  refine lv_istore (lv' := [(5, .int (0 : Int32)), (4, .int v2), (3, .int v1), (2, .int (0 : Int32)), (0, .ref h0), (1, .int x1)]) hx hb d_S_countPairs_14 hl (by decide) rfl (fun ls hl => ?_)
  exact hJ16 (0 : Int32) v1 v2 (0 : Int32) H locs ls ⟨hP, hD, hS⟩ (lv_sub hl [4, 5, 3, 2, 1, 0] rfl) hf
set_option maxHeartbeats 4000000 in
set_option maxRecDepth 100000 in
theorem c_S_findPairs (l : Launch) (G : va_G × (Nat → ClassId)) (Y : (Nat → Nat) × (Nat → Nat)) (h0 : Nat) (a_sizes : Nat) (a_capped : Nat) (a_connected : Nat) (a_leftIn : Nat) (a_rightIn : Nat) (a_pairs : Nat) (f_known : Int32) (f_paired : Int32) (f_cappedInAll : Int32) (f_connectedInAll : Int32) (f_pairsInAll : Int32) (f_end : Int32) (g_connected : Nat → Int32) (g_leftIn : Nat → Int32) (g_pairs : Nat → Int32) (g_rightIn : Nat → Int32) (N : Nat) (res : Int32 × Int32 × Int32 × (Nat → Int32) × (Nat → Int32)) (hf : S_findPairs N f_paired f_connectedInAll f_pairsInAll f_end g_connected g_leftIn g_pairs g_rightIn = some res) : Cv l classes y_S_findPairs b_S_findPairs 2 none (rmk 3) G.1 (tyL G) Y [.ref h0] [(h0, O_S f_known f_paired f_cappedInAll f_connectedInAll f_pairsInAll a_sizes a_capped a_connected f_end a_leftIn a_rightIn a_pairs), (a_connected, aZ G 256 g_connected), (a_leftIn, aI G 256 g_leftIn), (a_pairs, aI G 256 g_pairs), (a_rightIn, aI G 256 g_rightIn)] [(h0, O_S f_known res.1 f_cappedInAll res.2.1 res.2.2.1 a_sizes a_capped a_connected f_end a_leftIn a_rightIn a_pairs), (a_connected, aZ G 256 res.2.2.2.1), (a_leftIn, aI G 256 g_leftIn), (a_pairs, aI G 256 res.2.2.2.2), (a_rightIn, aI G 256 g_rightIn)] := by
  refine entV (by decide) (Nat.le_of_ble_eq_true rfl) ?_
  intro p e s m args below meth c ls A Q hx hb hml hown htl hK hsk wq hl hret
  obtain ⟨hP, hD, hS⟩ := wq
  have hl : lv_has ls 2 [(0, .ref h0)] := hl
  have hS : va_S A s.heap s.heap [] := hS
  obtain ⟨H, hH⟩ : ∃ H : Heap, H = s.heap := ⟨_, rfl⟩
  obtain ⟨locs, hlocs⟩ : ∃ z : List Loc, z = [] := ⟨_, rfl⟩
  rw [← hH] at hP
  replace hS : va_S A s.heap H locs := by rw [hH, hlocs]; exact hS
  suffices hgo : W p l e (rmk 3) s m args below meth c H locs 0 0 Q (F0 m 0 ls []) by rw [hH, hlocs] at hgo; exact hgo
  have hJ102 : ∀ (f_paired : Int32) (f_connectedInAll : Int32) (f_pairsInAll : Int32) (g_connected : Nat → Int32) (g_pairs : Nat → Int32) (H : Heap) (locs : List Loc) (ls : Array Slot), PDS G.1 classes A s [(h0, O_S f_known f_paired f_cappedInAll f_connectedInAll f_pairsInAll a_sizes a_capped a_connected f_end a_leftIn a_rightIn a_pairs), (a_connected, aZ G 256 g_connected), (a_leftIn, aI G 256 g_leftIn), (a_pairs, aI G 256 g_pairs), (a_rightIn, aI G 256 g_rightIn)] H locs → lv_has ls 2 [(0, .ref h0)] → S_findPairs_102 N f_paired f_connectedInAll f_pairsInAll f_end g_connected g_leftIn g_pairs g_rightIn = some res → W p l e (rmk 3) s m args below meth c H locs 0 0 Q (F0 m 102 ls []) := by
    intro f_paired f_connectedInAll f_pairsInAll g_connected g_pairs H locs ls wq hl hf
    obtain ⟨hP, hD, hS⟩ := wq
    refine lv_aload_n hx hb d_S_findPairs_102 rfl (lv_at hl 0 rfl) ?_
    refine lv_iconst (v := (1 : Int32)) hx hb d_S_findPairs_103 (by decide) ?_
    refine va_put (D := G.1) (ci := 8) (v := .int (1 : Int32)) (ty := .boolean) (C := n_S) (T := T_S) (N := 12) hx hb htl iw_S ty_S ty_S_ok nm_S hown hK hP hD hS 0 rfl rfl 1 (by decide) (htl _ k_344) (fun _ h9 => h9) rfl (by decide +kernel) rfl rfl (Nat.le_of_ble_eq_true rfl) d_S_findPairs_104 (fun H locs hP hD hS => ?_)
    have hP : va_P G.1 classes [(h0, O_S f_known (1 : Int32) f_cappedInAll f_connectedInAll f_pairsInAll a_sizes a_capped a_connected f_end a_leftIn a_rightIn a_pairs), (a_connected, aZ G 256 g_connected), (a_leftIn, aI G 256 g_leftIn), (a_pairs, aI G 256 g_pairs), (a_rightIn, aI G 256 g_rightIn)] H := hP
    have hD : va_D A [(h0, O_S f_known (1 : Int32) f_cappedInAll f_connectedInAll f_pairsInAll a_sizes a_capped a_connected f_end a_leftIn a_rightIn a_pairs), (a_connected, aZ G 256 g_connected), (a_leftIn, aI G 256 g_leftIn), (a_pairs, aI G 256 g_pairs), (a_rightIn, aI G 256 g_rightIn)] := hD
    cases hf
    exact hret 107 ls H locs hP hS d_S_findPairs_107
  have hJ12 : ∀ (f_paired : Int32) (f_connectedInAll : Int32) (f_pairsInAll : Int32) (g_connected : Nat → Int32) (g_pairs : Nat → Int32) (x1 : Int32) (H : Heap) (locs : List Loc) (ls : Array Slot), PDS G.1 classes A s [(h0, O_S f_known f_paired f_cappedInAll f_connectedInAll f_pairsInAll a_sizes a_capped a_connected f_end a_leftIn a_rightIn a_pairs), (a_connected, aZ G 256 g_connected), (a_leftIn, aI G 256 g_leftIn), (a_pairs, aI G 256 g_pairs), (a_rightIn, aI G 256 g_rightIn)] H locs → lv_has ls 2 [(0, .ref h0), (1, .int x1)] → S_findPairs_12 N f_paired f_connectedInAll f_pairsInAll f_end g_connected g_leftIn g_pairs g_rightIn x1 = some res → W p l e (rmk 3) s m args below meth c H locs 0 0 Q (F0 m 12 ls []) := by
    intro f_paired f_connectedInAll f_pairsInAll g_connected g_pairs x1 H locs ls wq hl hf
    obtain ⟨hP, hD, hS⟩ := wq
    obtain ⟨y12, hy12, hfo12⟩ := db_e hf
    have hL12 : ∀ (n : Nat) (f_connectedInAll : Int32) (f_pairsInAll : Int32) (g_connected : Nat → Int32) (g_pairs : Nat → Int32) (x1 : Int32) (H : Heap) (locs : List Loc) (ls : Array Slot), lp (fun x => S_findPairs_b12 N f_paired x.1 x.2.1 f_end x.2.2.1 g_leftIn x.2.2.2.1 g_rightIn x.2.2.2.2) n (f_connectedInAll, f_pairsInAll, g_connected, g_pairs, x1) = some y12 → PDS G.1 classes A s [(h0, O_S f_known f_paired f_cappedInAll f_connectedInAll f_pairsInAll a_sizes a_capped a_connected f_end a_leftIn a_rightIn a_pairs), (a_connected, aZ G 256 g_connected), (a_leftIn, aI G 256 g_leftIn), (a_pairs, aI G 256 g_pairs), (a_rightIn, aI G 256 g_rightIn)] H locs → lv_has ls 2 [(0, .ref h0), (1, .int x1)] → W p l e (rmk 3) s m args below meth c H locs 0 0 Q (F0 m 12 ls []) := by
      intro n
      induction n with
      | zero =>
        intro f_connectedInAll f_pairsInAll g_connected g_pairs x1 H locs ls hf
        exact lp_0 hf
      | succ n ih12 =>
        intro f_connectedInAll f_pairsInAll g_connected g_pairs x1 H locs ls hf wq hl
        obtain ⟨hP, hD, hS⟩ := wq
        obtain ⟨r12, hf, hk12⟩ := lp_s hf
        have hf : S_findPairs_b12 N f_paired f_connectedInAll f_pairsInAll f_end g_connected g_leftIn g_pairs g_rightIn x1 = some r12 := hf
        have hJ92 : ∀ (f_connectedInAll : Int32) (f_pairsInAll : Int32) (g_connected : Nat → Int32) (g_pairs : Nat → Int32) (x1 : Int32) (z1 : Int32) (z2 : Int32) (H : Heap) (locs : List Loc) (ls : Array Slot), PDS G.1 classes A s [(h0, O_S f_known f_paired f_cappedInAll f_connectedInAll f_pairsInAll a_sizes a_capped a_connected f_end a_leftIn a_rightIn a_pairs), (a_connected, aZ G 256 g_connected), (a_leftIn, aI G 256 g_leftIn), (a_pairs, aI G 256 g_pairs), (a_rightIn, aI G 256 g_rightIn)] H locs → lv_has ls 2 [(0, .ref h0), (1, .int x1)] → S_findPairs_92 N f_paired f_connectedInAll f_pairsInAll f_end g_connected g_leftIn g_pairs g_rightIn x1 z1 z2 = some r12 → W p l e (rmk 3) s m args below meth c H locs 0 0 Q (F0 m 92 ls [.int z2, .int z1, .ref h0]) := by
          intro f_connectedInAll f_pairsInAll g_connected g_pairs x1 z1 z2 H locs ls wq hl hf
          obtain ⟨hP, hD, hS⟩ := wq
          refine lv_iadd hx hb d_S_findPairs_92 ?_
          refine lv_topi (fun v13 ev13 => ?_)
          have hf := dn_e ev13 hf
          refine va_put (D := G.1) (ci := 8) (v := .int v13) (ty := .int) (C := n_S) (T := T_S) (N := 12) hx hb htl iw_S ty_S ty_S_ok nm_S hown hK hP hD hS 0 rfl rfl 3 (by decide) (htl _ k_348) (fun _ h9 => h9) rfl (by decide +kernel) rfl rfl (Nat.le_of_ble_eq_true rfl) d_S_findPairs_93 (fun H locs hP hD hS => ?_)
          have hP : va_P G.1 classes [(h0, O_S f_known f_paired f_cappedInAll v13 f_pairsInAll a_sizes a_capped a_connected f_end a_leftIn a_rightIn a_pairs), (a_connected, aZ G 256 g_connected), (a_leftIn, aI G 256 g_leftIn), (a_pairs, aI G 256 g_pairs), (a_rightIn, aI G 256 g_rightIn)] H := hP
          have hD : va_D A [(h0, O_S f_known f_paired f_cappedInAll v13 f_pairsInAll a_sizes a_capped a_connected f_end a_leftIn a_rightIn a_pairs), (a_connected, aZ G 256 g_connected), (a_leftIn, aI G 256 g_leftIn), (a_pairs, aI G 256 g_pairs), (a_rightIn, aI G 256 g_rightIn)] := hD
          obtain ⟨v14, ev14⟩ : ∃ z : Int32, z = x1 + (1 : Int32) := ⟨_, rfl⟩
          have hf := dn_e ev14 hf
          refine lv_iinc (v := v14) (lv' := [(1, .int v14), (0, .ref h0)]) hx hb d_S_findPairs_96 hl (k := 1) rfl (by rw [ev14]; rfl) (by decide) rfl (fun ls hl => ?_)
          refine lv_goto (tgt := 12) hx hb d_S_findPairs_99 (by decide) ?_
          exact ih12 v13 f_pairsInAll g_connected g_pairs v14 H locs ls (lpk_i hf hk12) ⟨hP, hD, hS⟩ (lv_sub hl [1, 0] rfl)
        have hJ72 : ∀ (f_connectedInAll : Int32) (f_pairsInAll : Int32) (g_connected : Nat → Int32) (g_pairs : Nat → Int32) (x1 : Int32) (z1 : Int32) (z2 : Int32) (H : Heap) (locs : List Loc) (ls : Array Slot), PDS G.1 classes A s [(h0, O_S f_known f_paired f_cappedInAll f_connectedInAll f_pairsInAll a_sizes a_capped a_connected f_end a_leftIn a_rightIn a_pairs), (a_connected, aZ G 256 g_connected), (a_leftIn, aI G 256 g_leftIn), (a_pairs, aI G 256 g_pairs), (a_rightIn, aI G 256 g_rightIn)] H locs → lv_has ls 2 [(0, .ref h0), (1, .int x1)] → S_findPairs_72 N f_paired f_connectedInAll f_pairsInAll f_end g_connected g_leftIn g_pairs g_rightIn x1 z1 z2 = some r12 → W p l e (rmk 3) s m args below meth c H locs 0 0 Q (F0 m 72 ls [.int z2, .int z1, .ref a_connected]) := by
          intro f_connectedInAll f_pairsInAll g_connected g_pairs x1 z1 z2 H locs ls wq hl hf
          obtain ⟨hP, hD, hS⟩ := wq
          obtain ⟨c9, hf⟩ := dk_e hf
          refine nx_zast hx hb hK hP hD hS 1 3 rfl rfl c9 d_S_findPairs_72 (fun v10 ev10 H locs hP hD hS => ?_)
          have hf := dn_e ev10 hf
          have hP : va_P G.1 classes [(h0, O_S f_known f_paired f_cappedInAll f_connectedInAll f_pairsInAll a_sizes a_capped a_connected f_end a_leftIn a_rightIn a_pairs), (a_connected, aZ G 256 v10), (a_leftIn, aI G 256 g_leftIn), (a_pairs, aI G 256 g_pairs), (a_rightIn, aI G 256 g_rightIn)] H := hP
          have hD : va_D A [(h0, O_S f_known f_paired f_cappedInAll f_connectedInAll f_pairsInAll a_sizes a_capped a_connected f_end a_leftIn a_rightIn a_pairs), (a_connected, aZ G 256 v10), (a_leftIn, aI G 256 g_leftIn), (a_pairs, aI G 256 g_pairs), (a_rightIn, aI G 256 g_rightIn)] := hD
          refine lv_aload_n hx hb d_S_findPairs_73 rfl (lv_at hl 0 rfl) ?_
          refine lv_dup hx hb d_S_findPairs_74 rfl ?_
          refine va_get (D := G.1) (ci := 8) (v := .int f_connectedInAll) (C := n_S) (T := T_S) (N := 12) hx hb htl iw_S hown hK hP 0 rfl rfl 3 (by decide) (htl _ k_348) (fun _ h9 => h9) rfl d_S_findPairs_75 ?_
          refine lv_aload_n hx hb d_S_findPairs_78 rfl (lv_at hl 0 rfl) ?_
          refine va_get (D := G.1) (ci := 8) (v := .ref a_connected) (C := n_S) (T := T_S) (N := 12) hx hb htl iw_S hown hK hP 0 rfl rfl 7 (by decide) (htl _ k_358) (fun _ h9 => h9) rfl d_S_findPairs_79 ?_
          refine lv_iload_n hx hb d_S_findPairs_82 rfl (lv_at hl 1 rfl) ?_
          obtain ⟨c11, hf⟩ := dk_e hf
          refine va_zald hx hb hK hP 1 3 rfl rfl c11 d_S_findPairs_83 ?_
          refine lv_if_eq (tgt := 91) hx hb d_S_findPairs_84 (by decide) (fun c12 => ?_) (fun c12 => ?_)
          · have hf := di_t c12 hf
            refine lv_iconst (v := (0 : Int32)) hx hb d_S_findPairs_91 (by decide) ?_
            exact hJ92 f_connectedInAll f_pairsInAll v10 g_pairs x1 f_connectedInAll (0 : Int32) H locs ls ⟨hP, hD, hS⟩ (lv_sub hl [0, 1] rfl) hf
          · have hf := di_f c12 hf
            refine lv_iconst (v := (1 : Int32)) hx hb d_S_findPairs_87 (by decide) ?_
            refine lv_goto (tgt := 92) hx hb d_S_findPairs_88 (by decide) ?_
            exact hJ92 f_connectedInAll f_pairsInAll v10 g_pairs x1 f_connectedInAll (1 : Int32) H locs ls ⟨hP, hD, hS⟩ (lv_sub hl [0, 1] rfl) hf
        have hJ67 : ∀ (f_connectedInAll : Int32) (f_pairsInAll : Int32) (g_connected : Nat → Int32) (g_pairs : Nat → Int32) (x1 : Int32) (z1 : Int32) (H : Heap) (locs : List Loc) (ls : Array Slot), PDS G.1 classes A s [(h0, O_S f_known f_paired f_cappedInAll f_connectedInAll f_pairsInAll a_sizes a_capped a_connected f_end a_leftIn a_rightIn a_pairs), (a_connected, aZ G 256 g_connected), (a_leftIn, aI G 256 g_leftIn), (a_pairs, aI G 256 g_pairs), (a_rightIn, aI G 256 g_rightIn)] H locs → lv_has ls 2 [(0, .ref h0), (1, .int x1)] → S_findPairs_67 N f_paired f_connectedInAll f_pairsInAll f_end g_connected g_leftIn g_pairs g_rightIn x1 z1 = some r12 → W p l e (rmk 3) s m args below meth c H locs 0 0 Q (F0 m 67 ls [.int z1, .ref a_connected]) := by
          intro f_connectedInAll f_pairsInAll g_connected g_pairs x1 z1 H locs ls wq hl hf
          obtain ⟨hP, hD, hS⟩ := wq
          refine lv_iconst (v := (1 : Int32)) hx hb d_S_findPairs_67 (by decide) ?_
          refine lv_goto (tgt := 72) hx hb d_S_findPairs_68 (by decide) ?_
          exact hJ72 f_connectedInAll f_pairsInAll g_connected g_pairs x1 z1 (1 : Int32) H locs ls ⟨hP, hD, hS⟩ (lv_sub hl [0, 1] rfl) hf
        refine lv_iload_n hx hb d_S_findPairs_12 rfl (lv_at hl 1 rfl) ?_
        refine lv_aload_n hx hb d_S_findPairs_13 rfl (lv_at hl 0 rfl) ?_
        refine va_get (D := G.1) (ci := 8) (v := .int f_end) (C := n_S) (T := T_S) (N := 12) hx hb htl iw_S hown hK hP 0 rfl rfl 8 (by decide) (htl _ k_361) (fun _ h9 => h9) rfl d_S_findPairs_14 ?_
        refine lv_icmp_ge (tgt := 102) hx hb d_S_findPairs_17 (by decide) (fun c1 => ?_) (fun c1 => ?_)
        · have hf := di_t c1 hf
          have hq12 := lpk_x hf hk12
          have hf := ex_y (f := fun y => S_findPairs_a12 N f_paired f_end g_leftIn g_rightIn y) hq12 hfo12
          have hf : S_findPairs_102 N f_paired f_connectedInAll f_pairsInAll f_end g_connected g_leftIn g_pairs g_rightIn = some res := hf
          exact hJ102 f_paired f_connectedInAll f_pairsInAll g_connected g_pairs H locs ls ⟨hP, hD, hS⟩ (lv_sub hl [0] rfl) hf
        · have hf := di_f c1 hf
          refine lv_aload_n hx hb d_S_findPairs_20 rfl (lv_at hl 0 rfl) ?_
          refine va_get (D := G.1) (ci := 8) (v := .ref a_pairs) (C := n_S) (T := T_S) (N := 12) hx hb htl iw_S hown hK hP 0 rfl rfl 11 (by decide) (htl _ k_364) (fun _ h9 => h9) rfl d_S_findPairs_21 ?_
          refine lv_iload_n hx hb d_S_findPairs_24 rfl (lv_at hl 1 rfl) ?_
          refine lv_aload_n hx hb d_S_findPairs_25 rfl (lv_at hl 0 rfl) ?_
          refine lv_iload_n hx hb d_S_findPairs_26 rfl (lv_at hl 1 rfl) ?_
          obtain ⟨t2, hv3, hf⟩ := db_e hf
          refine call_i (isC := [0, 1, 2, 4]) (run_V (As := [.int x1]) (rest := [.int x1, .ref a_pairs]) (ci := 8) (q0 := 0) hx hb hml hown htl (c_S_countPairs l G Y  h0 a_sizes a_capped a_connected a_leftIn a_rightIn a_pairs f_known f_paired f_cappedInAll f_connectedInAll f_pairsInAll f_end g_connected g_leftIn g_rightIn x1 N t2 hv3) mv_S_countPairs k_871 (hRk (by decide) (by decide)) hK hsk hS hP hD (isC := [0, 1, 2, 4]) rfl (by decide) rfl rfl rfl hl.1 rfl (lv_room (Nat.le_of_ble_eq_true rfl)) d_S_findPairs_27) hP hD hS rfl rfl (fun H locs hP hD hS => ?_)
          have hP : va_P G.1 classes [(h0, O_S f_known f_paired f_cappedInAll f_connectedInAll f_pairsInAll a_sizes a_capped a_connected f_end a_leftIn a_rightIn a_pairs), (a_connected, aZ G 256 g_connected), (a_leftIn, aI G 256 g_leftIn), (a_pairs, aI G 256 g_pairs), (a_rightIn, aI G 256 g_rightIn)] H := hP
          have hD : va_D A [(h0, O_S f_known f_paired f_cappedInAll f_connectedInAll f_pairsInAll a_sizes a_capped a_connected f_end a_leftIn a_rightIn a_pairs), (a_connected, aZ G 256 g_connected), (a_leftIn, aI G 256 g_leftIn), (a_pairs, aI G 256 g_pairs), (a_rightIn, aI G 256 g_rightIn)] := hD
          obtain ⟨c4, hf⟩ := dk_e hf
          refine nx_iast hx hb hK hP hD hS 3 1 rfl rfl c4 d_S_findPairs_30 (fun v5 ev5 H locs hP hD hS => ?_)
          have hf := dn_e ev5 hf
          have hP : va_P G.1 classes [(h0, O_S f_known f_paired f_cappedInAll f_connectedInAll f_pairsInAll a_sizes a_capped a_connected f_end a_leftIn a_rightIn a_pairs), (a_connected, aZ G 256 g_connected), (a_leftIn, aI G 256 g_leftIn), (a_pairs, aI G 256 v5), (a_rightIn, aI G 256 g_rightIn)] H := hP
          have hD : va_D A [(h0, O_S f_known f_paired f_cappedInAll f_connectedInAll f_pairsInAll a_sizes a_capped a_connected f_end a_leftIn a_rightIn a_pairs), (a_connected, aZ G 256 g_connected), (a_leftIn, aI G 256 g_leftIn), (a_pairs, aI G 256 v5), (a_rightIn, aI G 256 g_rightIn)] := hD
          refine lv_aload_n hx hb d_S_findPairs_31 rfl (lv_at hl 0 rfl) ?_
          refine lv_dup hx hb d_S_findPairs_32 rfl ?_
          refine va_get (D := G.1) (ci := 8) (v := .int f_pairsInAll) (C := n_S) (T := T_S) (N := 12) hx hb htl iw_S hown hK hP 0 rfl rfl 4 (by decide) (htl _ k_350) (fun _ h9 => h9) rfl d_S_findPairs_33 ?_
          refine lv_aload_n hx hb d_S_findPairs_36 rfl (lv_at hl 0 rfl) ?_
          refine va_get (D := G.1) (ci := 8) (v := .ref a_pairs) (C := n_S) (T := T_S) (N := 12) hx hb htl iw_S hown hK hP 0 rfl rfl 11 (by decide) (htl _ k_364) (fun _ h9 => h9) rfl d_S_findPairs_37 ?_
          refine lv_iload_n hx hb d_S_findPairs_40 rfl (lv_at hl 1 rfl) ?_
          refine va_iald hx hb hK hP 3 1 rfl rfl c4 d_S_findPairs_41 ?_
          refine lv_iadd hx hb d_S_findPairs_42 ?_
          refine lv_topi (fun v6 ev6 => ?_)
          have hf := dn_e ev6 hf
          refine va_put (D := G.1) (ci := 8) (v := .int v6) (ty := .int) (C := n_S) (T := T_S) (N := 12) hx hb htl iw_S ty_S ty_S_ok nm_S hown hK hP hD hS 0 rfl rfl 4 (by decide) (htl _ k_350) (fun _ h9 => h9) rfl (by decide +kernel) rfl rfl (Nat.le_of_ble_eq_true rfl) d_S_findPairs_43 (fun H locs hP hD hS => ?_)
          have hP : va_P G.1 classes [(h0, O_S f_known f_paired f_cappedInAll f_connectedInAll v6 a_sizes a_capped a_connected f_end a_leftIn a_rightIn a_pairs), (a_connected, aZ G 256 g_connected), (a_leftIn, aI G 256 g_leftIn), (a_pairs, aI G 256 v5), (a_rightIn, aI G 256 g_rightIn)] H := hP
          have hD : va_D A [(h0, O_S f_known f_paired f_cappedInAll f_connectedInAll v6 a_sizes a_capped a_connected f_end a_leftIn a_rightIn a_pairs), (a_connected, aZ G 256 g_connected), (a_leftIn, aI G 256 g_leftIn), (a_pairs, aI G 256 v5), (a_rightIn, aI G 256 g_rightIn)] := hD
          refine lv_aload_n hx hb d_S_findPairs_46 rfl (lv_at hl 0 rfl) ?_
          refine va_get (D := G.1) (ci := 8) (v := .ref a_connected) (C := n_S) (T := T_S) (N := 12) hx hb htl iw_S hown hK hP 0 rfl rfl 7 (by decide) (htl _ k_358) (fun _ h9 => h9) rfl d_S_findPairs_47 ?_
          refine lv_iload_n hx hb d_S_findPairs_50 rfl (lv_at hl 1 rfl) ?_
          refine lv_aload_n hx hb d_S_findPairs_51 rfl (lv_at hl 0 rfl) ?_
          refine va_get (D := G.1) (ci := 8) (v := .ref a_pairs) (C := n_S) (T := T_S) (N := 12) hx hb htl iw_S hown hK hP 0 rfl rfl 11 (by decide) (htl _ k_364) (fun _ h9 => h9) rfl d_S_findPairs_52 ?_
          refine lv_iload_n hx hb d_S_findPairs_55 rfl (lv_at hl 1 rfl) ?_
          refine va_iald hx hb hK hP 3 1 rfl rfl c4 d_S_findPairs_56 ?_
          refine lv_if_gt (tgt := 67) hx hb d_S_findPairs_57 (by decide) (fun c7 => ?_) (fun c7 => ?_)
          · have hf := di_t c7 hf
            exact hJ67 f_connectedInAll v6 g_connected v5 x1 x1 H locs ls ⟨hP, hD, hS⟩ (lv_sub hl [0, 1] rfl) hf
          · have hf := di_f c7 hf
            refine lv_iload_n hx hb d_S_findPairs_60 rfl (lv_at hl 1 rfl) ?_
            refine call_i (isC := []) (run_SN (As := [.int x1]) (rest := [.int x1, .ref a_connected]) hx hb hml hown htl (c_J_isOne l G Y  x1 _ rfl) ms_J_isOne k_891 (hRk (by decide) (by decide)) hK hsk hS hP hD (isC := []) rfl (by decide) rfl hl.1 rfl (lv_room (Nat.le_of_ble_eq_true rfl)) d_S_findPairs_61) hP hD hS rfl rfl (fun H locs hP hD hS => ?_)
            have hP : va_P G.1 classes [(h0, O_S f_known f_paired f_cappedInAll f_connectedInAll v6 a_sizes a_capped a_connected f_end a_leftIn a_rightIn a_pairs), (a_connected, aZ G 256 g_connected), (a_leftIn, aI G 256 g_leftIn), (a_pairs, aI G 256 v5), (a_rightIn, aI G 256 g_rightIn)] H := hP
            have hD : va_D A [(h0, O_S f_known f_paired f_cappedInAll f_connectedInAll v6 a_sizes a_capped a_connected f_end a_leftIn a_rightIn a_pairs), (a_connected, aZ G 256 g_connected), (a_leftIn, aI G 256 g_leftIn), (a_pairs, aI G 256 v5), (a_rightIn, aI G 256 g_rightIn)] := hD
            refine lv_if_eq (tgt := 71) hx hb d_S_findPairs_64 (by decide) (fun c8 => ?_) (fun c8 => ?_)
            · have hf := di_t c8 hf
              refine lv_iconst (v := (0 : Int32)) hx hb d_S_findPairs_71 (by decide) ?_
              exact hJ72 f_connectedInAll v6 g_connected v5 x1 x1 (0 : Int32) H locs ls ⟨hP, hD, hS⟩ (lv_sub hl [0, 1] rfl) hf
            · have hf := di_f c8 hf
              exact hJ67 f_connectedInAll v6 g_connected v5 x1 x1 H locs ls ⟨hP, hD, hS⟩ (lv_sub hl [0, 1] rfl) hf
    exact hL12 N f_connectedInAll f_pairsInAll g_connected g_pairs x1 H locs ls hy12 ⟨hP, hD, hS⟩ hl
  refine lv_aload_n hx hb d_S_findPairs_0 rfl (lv_at hl 0 rfl) ?_
  refine lv_iconst (v := (0 : Int32)) hx hb d_S_findPairs_1 (by decide) ?_
  refine va_put (D := G.1) (ci := 8) (v := .int (0 : Int32)) (ty := .int) (C := n_S) (T := T_S) (N := 12) hx hb htl iw_S ty_S ty_S_ok nm_S hown hK hP hD hS 0 rfl rfl 3 (by decide) (htl _ k_348) (fun _ h9 => h9) rfl (by decide +kernel) rfl rfl (Nat.le_of_ble_eq_true rfl) d_S_findPairs_2 (fun H locs hP hD hS => ?_)
  have hP : va_P G.1 classes [(h0, O_S f_known f_paired f_cappedInAll (0 : Int32) f_pairsInAll a_sizes a_capped a_connected f_end a_leftIn a_rightIn a_pairs), (a_connected, aZ G 256 g_connected), (a_leftIn, aI G 256 g_leftIn), (a_pairs, aI G 256 g_pairs), (a_rightIn, aI G 256 g_rightIn)] H := hP
  have hD : va_D A [(h0, O_S f_known f_paired f_cappedInAll (0 : Int32) f_pairsInAll a_sizes a_capped a_connected f_end a_leftIn a_rightIn a_pairs), (a_connected, aZ G 256 g_connected), (a_leftIn, aI G 256 g_leftIn), (a_pairs, aI G 256 g_pairs), (a_rightIn, aI G 256 g_rightIn)] := hD
  refine lv_aload_n hx hb d_S_findPairs_5 rfl (lv_at hl 0 rfl) ?_
  refine lv_iconst (v := (0 : Int32)) hx hb d_S_findPairs_6 (by decide) ?_
  refine va_put (D := G.1) (ci := 8) (v := .int (0 : Int32)) (ty := .int) (C := n_S) (T := T_S) (N := 12) hx hb htl iw_S ty_S ty_S_ok nm_S hown hK hP hD hS 0 rfl rfl 4 (by decide) (htl _ k_350) (fun _ h9 => h9) rfl (by decide +kernel) rfl rfl (Nat.le_of_ble_eq_true rfl) d_S_findPairs_7 (fun H locs hP hD hS => ?_)
  have hP : va_P G.1 classes [(h0, O_S f_known f_paired f_cappedInAll (0 : Int32) (0 : Int32) a_sizes a_capped a_connected f_end a_leftIn a_rightIn a_pairs), (a_connected, aZ G 256 g_connected), (a_leftIn, aI G 256 g_leftIn), (a_pairs, aI G 256 g_pairs), (a_rightIn, aI G 256 g_rightIn)] H := hP
  have hD : va_D A [(h0, O_S f_known f_paired f_cappedInAll (0 : Int32) (0 : Int32) a_sizes a_capped a_connected f_end a_leftIn a_rightIn a_pairs), (a_connected, aZ G 256 g_connected), (a_leftIn, aI G 256 g_leftIn), (a_pairs, aI G 256 g_pairs), (a_rightIn, aI G 256 g_rightIn)] := hD
  refine lv_iconst (v := (1 : Int32)) hx hb d_S_findPairs_10 (by decide) ?_
  refine lv_istore_n (lv' := [(1, .int (1 : Int32)), (0, .ref h0)]) hx hb d_S_findPairs_11 rfl hl (by decide) rfl (fun ls hl => ?_)
  exact hJ12 f_paired (0 : Int32) (0 : Int32) g_connected g_pairs (1 : Int32) H locs ls ⟨hP, hD, hS⟩ (lv_sub hl [1, 0] rfl) hf
set_option maxHeartbeats 4000000 in
set_option maxRecDepth 100000 in
theorem c_S_firstOfPair (l : Launch) (G : va_G × (Nat → ClassId)) (Y : (Nat → Nat) × (Nat → Nat)) (h0 : Nat) (a_sizes : Nat) (a_capped : Nat) (a_connected : Nat) (a_leftIn : Nat) (a_rightIn : Nat) (a_pairs : Nat) (f_known : Int32) (f_paired : Int32) (f_cappedInAll : Int32) (f_connectedInAll : Int32) (f_pairsInAll : Int32) (f_end : Int32) (g_connected : Nat → Int32) (g_leftIn : Nat → Int32) (g_rightIn : Nat → Int32) (x1 : Int32) (x2 : Int32) (N : Nat) (res : Int32) (hf : S_firstOfPair N g_connected g_leftIn g_rightIn x1 x2 = some res) : Ci l classes y_S_firstOfPair b_S_firstOfPair 7 (some .int) (rmk 2) G.1 (tyL G) Y [.ref h0, .int x1, .int x2] [(h0, O_S f_known f_paired f_cappedInAll f_connectedInAll f_pairsInAll a_sizes a_capped a_connected f_end a_leftIn a_rightIn a_pairs), (a_connected, aZ G 256 g_connected), (a_leftIn, aI G 256 g_leftIn), (a_rightIn, aI G 256 g_rightIn)] [(h0, O_S f_known f_paired f_cappedInAll f_connectedInAll f_pairsInAll a_sizes a_capped a_connected f_end a_leftIn a_rightIn a_pairs), (a_connected, aZ G 256 g_connected), (a_leftIn, aI G 256 g_leftIn), (a_rightIn, aI G 256 g_rightIn)] res := by
  refine entI (by decide) (Nat.le_of_ble_eq_true rfl) ?_
  intro p e s m args below meth c ls A Q hx hb hml hown htl hK hsk wq hl hret
  obtain ⟨hP, hD, hS⟩ := wq
  have hl : lv_has ls 7 [(0, .ref h0), (1, .int x1), (2, .int x2)] := hl
  have hS : va_S A s.heap s.heap [] := hS
  obtain ⟨H, hH⟩ : ∃ H : Heap, H = s.heap := ⟨_, rfl⟩
  obtain ⟨locs, hlocs⟩ : ∃ z : List Loc, z = [] := ⟨_, rfl⟩
  rw [← hH] at hP
  replace hS : va_S A s.heap H locs := by rw [hH, hlocs]; exact hS
  suffices hgo : W p l e (rmk 2) s m args below meth c H locs 0 0 Q (F0 m 0 ls []) by rw [hH, hlocs] at hgo; exact hgo
  have hJ61 : ∀ (x5 : Int32) (H : Heap) (locs : List Loc) (ls : Array Slot), PDS G.1 classes A s [(h0, O_S f_known f_paired f_cappedInAll f_connectedInAll f_pairsInAll a_sizes a_capped a_connected f_end a_leftIn a_rightIn a_pairs), (a_connected, aZ G 256 g_connected), (a_leftIn, aI G 256 g_leftIn), (a_rightIn, aI G 256 g_rightIn)] H locs → lv_has ls 7 [(5, .int x5)] → S_firstOfPair_61 N g_connected g_leftIn g_rightIn x5 = some res → W p l e (rmk 2) s m args below meth c H locs 0 0 Q (F0 m 61 ls []) := by
    intro x5 H locs ls wq hl hf
    obtain ⟨hP, hD, hS⟩ := wq
    refine lv_iload hx hb d_S_firstOfPair_61 (lv_at hl 0 rfl) ?_
    cases hf
    exact hret 63 ls H locs hP hS d_S_firstOfPair_63
  have hJ41 : ∀ (x5 : Int32) (H : Heap) (locs : List Loc) (ls : Array Slot), PDS G.1 classes A s [(h0, O_S f_known f_paired f_cappedInAll f_connectedInAll f_pairsInAll a_sizes a_capped a_connected f_end a_leftIn a_rightIn a_pairs), (a_connected, aZ G 256 g_connected), (a_leftIn, aI G 256 g_leftIn), (a_rightIn, aI G 256 g_rightIn)] H locs → lv_has ls 7 [(5, .int x5)] → S_firstOfPair_41 N g_connected g_leftIn g_rightIn x5 = some res → W p l e (rmk 2) s m args below meth c H locs 0 0 Q (F0 m 41 ls []) := by
    intro x5 H locs ls wq hl hf
    obtain ⟨hP, hD, hS⟩ := wq
    refine lv_iload hx hb d_S_firstOfPair_41 (lv_at hl 0 rfl) ?_
    cases hf
    exact hret 43 ls H locs hP hS d_S_firstOfPair_43
  have hJ17 : ∀ (x3 : Int32) (x4 : Int32) (x5 : Int32) (x6 : Int32) (H : Heap) (locs : List Loc) (ls : Array Slot), PDS G.1 classes A s [(h0, O_S f_known f_paired f_cappedInAll f_connectedInAll f_pairsInAll a_sizes a_capped a_connected f_end a_leftIn a_rightIn a_pairs), (a_connected, aZ G 256 g_connected), (a_leftIn, aI G 256 g_leftIn), (a_rightIn, aI G 256 g_rightIn)] H locs → lv_has ls 7 [(0, .ref h0), (1, .int x1), (3, .int x3), (4, .int x4), (5, .int x5), (6, .int x6)] → S_firstOfPair_17 N g_connected g_leftIn g_rightIn x1 x3 x4 x5 x6 = some res → W p l e (rmk 2) s m args below meth c H locs 0 0 Q (F0 m 17 ls []) := by
    intro x3 x4 x5 x6 H locs ls wq hl hf
    obtain ⟨hP, hD, hS⟩ := wq
    obtain ⟨y17, hy17, hfo17⟩ := db_e hf
    have hL17 : ∀ (n : Nat) (x3 : Int32) (x5 : Int32) (x6 : Int32) (H : Heap) (locs : List Loc) (ls : Array Slot), lp (fun x => S_firstOfPair_b17 N g_connected g_leftIn g_rightIn x1 x.1 x4 x.2.1 x.2.2) n (x3, x5, x6) = some y17 → PDS G.1 classes A s [(h0, O_S f_known f_paired f_cappedInAll f_connectedInAll f_pairsInAll a_sizes a_capped a_connected f_end a_leftIn a_rightIn a_pairs), (a_connected, aZ G 256 g_connected), (a_leftIn, aI G 256 g_leftIn), (a_rightIn, aI G 256 g_rightIn)] H locs → lv_has ls 7 [(0, .ref h0), (1, .int x1), (3, .int x3), (4, .int x4), (5, .int x5), (6, .int x6)] → W p l e (rmk 2) s m args below meth c H locs 0 0 Q (F0 m 17 ls []) := by
      intro n
      induction n with
      | zero =>
        intro x3 x5 x6 H locs ls hf
        exact lp_0 hf
      | succ n ih17 =>
        intro x3 x5 x6 H locs ls hf wq hl
        obtain ⟨hP, hD, hS⟩ := wq
        obtain ⟨r17, hf, hk17⟩ := lp_s hf
        have hf : S_firstOfPair_b17 N g_connected g_leftIn g_rightIn x1 x3 x4 x5 x6 = some r17 := hf
        have hJ47 : ∀ (x3 : Int32) (x5 : Int32) (x6 : Int32) (H : Heap) (locs : List Loc) (ls : Array Slot), PDS G.1 classes A s [(h0, O_S f_known f_paired f_cappedInAll f_connectedInAll f_pairsInAll a_sizes a_capped a_connected f_end a_leftIn a_rightIn a_pairs), (a_connected, aZ G 256 g_connected), (a_leftIn, aI G 256 g_leftIn), (a_rightIn, aI G 256 g_rightIn)] H locs → lv_has ls 7 [(0, .ref h0), (1, .int x1), (3, .int x3), (4, .int x4), (5, .int x5), (6, .int x6)] → S_firstOfPair_47 N g_connected g_leftIn g_rightIn x1 x3 x4 x5 x6 = some r17 → W p l e (rmk 2) s m args below meth c H locs 0 0 Q (F0 m 47 ls []) := by
          intro x3 x5 x6 H locs ls wq hl hf
          obtain ⟨hP, hD, hS⟩ := wq
          refine lv_iload_n hx hb d_S_firstOfPair_47 rfl (lv_at hl 1 rfl) ?_
          refine lv_iload hx hb d_S_firstOfPair_48 (lv_at hl 4 rfl) ?_
          refine call_i (isC := []) (run_SN (As := [.int x1, .int x5]) (rest := []) hx hb hml hown htl (c_J_nextPart l G Y  x1 x5 _ rfl) ms_J_nextPart k_888 (hRk (by decide) (by decide)) hK hsk hS hP hD (isC := []) rfl (by decide) rfl hl.1 rfl (lv_room (Nat.le_of_ble_eq_true rfl)) d_S_firstOfPair_50) hP hD hS rfl rfl (fun H locs hP hD hS => ?_)
          have hP : va_P G.1 classes [(h0, O_S f_known f_paired f_cappedInAll f_connectedInAll f_pairsInAll a_sizes a_capped a_connected f_end a_leftIn a_rightIn a_pairs), (a_connected, aZ G 256 g_connected), (a_leftIn, aI G 256 g_leftIn), (a_rightIn, aI G 256 g_rightIn)] H := hP
          have hD : va_D A [(h0, O_S f_known f_paired f_cappedInAll f_connectedInAll f_pairsInAll a_sizes a_capped a_connected f_end a_leftIn a_rightIn a_pairs), (a_connected, aZ G 256 g_connected), (a_leftIn, aI G 256 g_leftIn), (a_rightIn, aI G 256 g_rightIn)] := hD
          refine lv_topi (fun v9 ev9 => ?_)
          have hf := dn_e ev9 hf
          refine lv_istore (lv' := [(5, .int v9), (0, .ref h0), (1, .int x1), (3, .int x3), (4, .int x4), (6, .int x6)]) hx hb d_S_firstOfPair_53 hl (by decide) rfl (fun ls hl => ?_)
          obtain ⟨v10, ev10⟩ : ∃ z : Int32, z = x6 + (1 : Int32) := ⟨_, rfl⟩
          have hf := dn_e ev10 hf
          refine lv_iinc (v := v10) (lv' := [(6, .int v10), (5, .int v9), (0, .ref h0), (1, .int x1), (3, .int x3), (4, .int x4)]) hx hb d_S_firstOfPair_55 hl (k := 5) rfl (by rw [ev10]; rfl) (by decide) rfl (fun ls hl => ?_)
          refine lv_goto (tgt := 17) hx hb d_S_firstOfPair_58 (by decide) ?_
          exact ih17 x3 v9 v10 H locs ls (lpk_i hf hk17) ⟨hP, hD, hS⟩ (lv_sub hl [2, 3, 4, 5, 1, 0] rfl)
        refine lv_iload hx hb d_S_firstOfPair_17 (lv_at hl 5 rfl) ?_
        refine lv_iload hx hb d_S_firstOfPair_19 (lv_at hl 3 rfl) ?_
        refine lv_icmp_ge (tgt := 61) hx hb d_S_firstOfPair_21 (by decide) (fun c3 => ?_) (fun c3 => ?_)
        · have hf := di_t c3 hf
          have hq17 := lpk_x hf hk17
          have hf := ex_y (f := fun y => S_firstOfPair_a17 N g_connected g_leftIn g_rightIn x1 x4 y) hq17 hfo17
          have hf : S_firstOfPair_61 N g_connected g_leftIn g_rightIn x5 = some res := hf
          exact hJ61 x5 H locs ls ⟨hP, hD, hS⟩ (lv_sub hl [4] rfl) hf
        · have hf := di_f c3 hf
          refine lv_aload_n hx hb d_S_firstOfPair_24 rfl (lv_at hl 0 rfl) ?_
          refine lv_iload hx hb d_S_firstOfPair_25 (lv_at hl 4 rfl) ?_
          refine lv_iload_n hx hb d_S_firstOfPair_27 rfl (lv_at hl 1 rfl) ?_
          refine lv_iload hx hb d_S_firstOfPair_28 (lv_at hl 4 rfl) ?_
          refine lv_ixor hx hb d_S_firstOfPair_30 ?_
          obtain ⟨t4, hv5, hf⟩ := db_e hf
          refine call_i (isC := [0, 1, 2, 3]) (run_V (As := [.int x5, .int (x1 ^^^ x5)]) (rest := []) (ci := 8) (q0 := 0) hx hb hml hown htl (c_S_isPair l G Y  h0 a_sizes a_capped a_connected a_leftIn a_rightIn a_pairs f_known f_paired f_cappedInAll f_connectedInAll f_pairsInAll f_end g_connected g_leftIn g_rightIn x5 (x1 ^^^ x5) t4 hv5) mv_S_isPair k_880 (hRk (by decide) (by decide)) hK hsk hS hP hD (isC := [0, 1, 2, 3]) rfl (by decide) rfl rfl rfl hl.1 rfl (lv_room (Nat.le_of_ble_eq_true rfl)) d_S_firstOfPair_31) hP hD hS rfl rfl (fun H locs hP hD hS => ?_)
          have hP : va_P G.1 classes [(h0, O_S f_known f_paired f_cappedInAll f_connectedInAll f_pairsInAll a_sizes a_capped a_connected f_end a_leftIn a_rightIn a_pairs), (a_connected, aZ G 256 g_connected), (a_leftIn, aI G 256 g_leftIn), (a_rightIn, aI G 256 g_rightIn)] H := hP
          have hD : va_D A [(h0, O_S f_known f_paired f_cappedInAll f_connectedInAll f_pairsInAll a_sizes a_capped a_connected f_end a_leftIn a_rightIn a_pairs), (a_connected, aZ G 256 g_connected), (a_leftIn, aI G 256 g_leftIn), (a_rightIn, aI G 256 g_rightIn)] := hD
          refine lv_if_eq (tgt := 47) hx hb d_S_firstOfPair_34 (by decide) (fun c6 => ?_) (fun c6 => ?_)
          · have hf := di_t c6 hf
            exact hJ47 x3 x5 x6 H locs ls ⟨hP, hD, hS⟩ (lv_sub hl [0, 1, 2, 3, 4, 5] rfl) hf
          · have hf := di_f c6 hf
            refine lv_iload_n hx hb d_S_firstOfPair_37 rfl (lv_at hl 2 rfl) ?_
            refine lv_if_ne (tgt := 44) hx hb d_S_firstOfPair_38 (by decide) (fun c7 => ?_) (fun c7 => ?_)
            · have hf := di_f c7 hf
              obtain ⟨v8, ev8⟩ : ∃ z : Int32, z = x3 + (-1 : Int32) := ⟨_, rfl⟩
              have hf := dn_e ev8 hf
              refine lv_iinc (v := v8) (lv' := [(3, .int v8), (0, .ref h0), (1, .int x1), (4, .int x4), (5, .int x5), (6, .int x6)]) hx hb d_S_firstOfPair_44 hl (k := 2) rfl (by rw [ev8]; rfl) (by decide) rfl (fun ls hl => ?_)
              exact hJ47 v8 x5 x6 H locs ls ⟨hP, hD, hS⟩ (lv_sub hl [1, 2, 0, 3, 4, 5] rfl) hf
            · have hf := di_t c7 hf
              have hq17 := lpk_x hf hk17
              have hf := ex_y (f := fun y => S_firstOfPair_a17 N g_connected g_leftIn g_rightIn x1 x4 y) hq17 hfo17
              have hf : S_firstOfPair_41 N g_connected g_leftIn g_rightIn x5 = some res := hf
              exact hJ41 x5 H locs ls ⟨hP, hD, hS⟩ (lv_sub hl [4] rfl) hf
    exact hL17 N x3 x5 x6 H locs ls hy17 ⟨hP, hD, hS⟩ hl
  refine lv_iload_n hx hb d_S_firstOfPair_0 rfl (lv_at hl 2 rfl) ?_
  refine lv_istore_n (lv' := [(3, .int x2), (0, .ref h0), (1, .int x1), (2, .int x2)]) hx hb d_S_firstOfPair_1 rfl hl (by decide) rfl (fun ls hl => ?_)
  refine lv_iload_n hx hb d_S_firstOfPair_2 rfl (lv_at hl 2 rfl) ?_
  refine call_i (isC := []) (run_SN (As := [.int x1]) (rest := []) hx hb hml hown htl (c_J_splitsOf l G Y  x1 _ rfl) ms_J_splitsOf k_875 (hRk (by decide) (by decide)) hK hsk hS hP hD (isC := []) rfl (by decide) rfl hl.1 rfl (lv_room (Nat.le_of_ble_eq_true rfl)) d_S_firstOfPair_3) hP hD hS rfl rfl (fun H locs hP hD hS => ?_)
  have hP : va_P G.1 classes [(h0, O_S f_known f_paired f_cappedInAll f_connectedInAll f_pairsInAll a_sizes a_capped a_connected f_end a_leftIn a_rightIn a_pairs), (a_connected, aZ G 256 g_connected), (a_leftIn, aI G 256 g_leftIn), (a_rightIn, aI G 256 g_rightIn)] H := hP
  have hD : va_D A [(h0, O_S f_known f_paired f_cappedInAll f_connectedInAll f_pairsInAll a_sizes a_capped a_connected f_end a_leftIn a_rightIn a_pairs), (a_connected, aZ G 256 g_connected), (a_leftIn, aI G 256 g_leftIn), (a_rightIn, aI G 256 g_rightIn)] := hD
  refine lv_topi (fun v1 ev1 => ?_)
  have hf := dn_e ev1 hf
  refine lv_istore (lv' := [(4, .int v1), (3, .int x2), (0, .ref h0), (1, .int x1), (2, .int x2)]) hx hb d_S_firstOfPair_6 hl (by decide) rfl (fun ls hl => ?_)
  refine lv_iload_n hx hb d_S_firstOfPair_8 rfl (lv_at hl 3 rfl) ?_
  refine call_i (isC := []) (run_SN (As := [.int x1]) (rest := []) hx hb hml hown htl (c_J_least l G Y  x1 _ rfl) ms_J_least k_879 (hRk (by decide) (by decide)) hK hsk hS hP hD (isC := []) rfl (by decide) rfl hl.1 rfl (lv_room (Nat.le_of_ble_eq_true rfl)) d_S_firstOfPair_9) hP hD hS rfl rfl (fun H locs hP hD hS => ?_)
  have hP : va_P G.1 classes [(h0, O_S f_known f_paired f_cappedInAll f_connectedInAll f_pairsInAll a_sizes a_capped a_connected f_end a_leftIn a_rightIn a_pairs), (a_connected, aZ G 256 g_connected), (a_leftIn, aI G 256 g_leftIn), (a_rightIn, aI G 256 g_rightIn)] H := hP
  have hD : va_D A [(h0, O_S f_known f_paired f_cappedInAll f_connectedInAll f_pairsInAll a_sizes a_capped a_connected f_end a_leftIn a_rightIn a_pairs), (a_connected, aZ G 256 g_connected), (a_leftIn, aI G 256 g_leftIn), (a_rightIn, aI G 256 g_rightIn)] := hD
  refine lv_topi (fun v2 ev2 => ?_)
  have hf := dn_e ev2 hf
  refine lv_istore (lv' := [(5, .int v2), (4, .int v1), (3, .int x2), (0, .ref h0), (1, .int x1), (2, .int x2)]) hx hb d_S_firstOfPair_12 hl (by decide) rfl (fun ls hl => ?_)
  refine lv_iconst (v := (0 : Int32)) hx hb d_S_firstOfPair_14 (by decide) ?_
  refine lv_istore (lv' := [(6, .int (0 : Int32)), (5, .int v2), (4, .int v1), (3, .int x2), (0, .ref h0), (1, .int x1), (2, .int x2)]) hx hb d_S_firstOfPair_15 hl (by decide) rfl (fun ls hl => ?_)
  exact hJ17 x2 v1 v2 (0 : Int32) H locs ls ⟨hP, hD, hS⟩ (lv_sub hl [4, 5, 3, 2, 1, 0] rfl) hf
set_option maxHeartbeats 4000000 in
set_option maxRecDepth 100000 in
theorem c_S_partOfPair (l : Launch) (G : va_G × (Nat → ClassId)) (Y : (Nat → Nat) × (Nat → Nat)) (h0 : Nat) (a_sizes : Nat) (a_capped : Nat) (a_connected : Nat) (a_leftIn : Nat) (a_rightIn : Nat) (a_pairs : Nat) (f_known : Int32) (f_paired : Int32) (f_cappedInAll : Int32) (f_connectedInAll : Int32) (f_pairsInAll : Int32) (f_end : Int32) (g_connected : Nat → Int32) (g_leftIn : Nat → Int32) (g_pairs : Nat → Int32) (g_rightIn : Nat → Int32) (x1 : Int32) (x2 : Int32) (N : Nat) (res : Int32) (hf : S_partOfPair N f_end g_connected g_leftIn g_pairs g_rightIn x1 x2 = some res) : Ci l classes y_S_partOfPair b_S_partOfPair 6 (some .int) (rmk 3) G.1 (tyL G) Y [.ref h0, .int x1, .int x2] [(h0, O_S f_known f_paired f_cappedInAll f_connectedInAll f_pairsInAll a_sizes a_capped a_connected f_end a_leftIn a_rightIn a_pairs), (a_connected, aZ G 256 g_connected), (a_leftIn, aI G 256 g_leftIn), (a_pairs, aI G 256 g_pairs), (a_rightIn, aI G 256 g_rightIn)] [(h0, O_S f_known f_paired f_cappedInAll f_connectedInAll f_pairsInAll a_sizes a_capped a_connected f_end a_leftIn a_rightIn a_pairs), (a_connected, aZ G 256 g_connected), (a_leftIn, aI G 256 g_leftIn), (a_pairs, aI G 256 g_pairs), (a_rightIn, aI G 256 g_rightIn)] res := by
  refine entI (by decide) (Nat.le_of_ble_eq_true rfl) ?_
  intro p e s m args below meth c ls A Q hx hb hml hown htl hK hsk wq hl hret
  obtain ⟨hP, hD, hS⟩ := wq
  have hl : lv_has ls 6 [(0, .ref h0), (1, .int x1), (2, .int x2)] := hl
  have hS : va_S A s.heap s.heap [] := hS
  obtain ⟨H, hH⟩ : ∃ H : Heap, H = s.heap := ⟨_, rfl⟩
  obtain ⟨locs, hlocs⟩ : ∃ z : List Loc, z = [] := ⟨_, rfl⟩
  rw [← hH] at hP
  replace hS : va_S A s.heap H locs := by rw [hH, hlocs]; exact hS
  suffices hgo : W p l e (rmk 3) s m args below meth c H locs 0 0 Q (F0 m 0 ls []) by rw [hH, hlocs] at hgo; exact hgo
  have hJ65 : ∀ (H : Heap) (locs : List Loc) (ls : Array Slot), PDS G.1 classes A s [(h0, O_S f_known f_paired f_cappedInAll f_connectedInAll f_pairsInAll a_sizes a_capped a_connected f_end a_leftIn a_rightIn a_pairs), (a_connected, aZ G 256 g_connected), (a_leftIn, aI G 256 g_leftIn), (a_pairs, aI G 256 g_pairs), (a_rightIn, aI G 256 g_rightIn)] H locs → lv_has ls 6 [] → S_partOfPair_65 N f_end g_connected g_leftIn g_pairs g_rightIn = some res → W p l e (rmk 3) s m args below meth c H locs 0 0 Q (F0 m 65 ls []) := by
    intro H locs ls wq hl hf
    obtain ⟨hP, hD, hS⟩ := wq
    refine lv_iconst (v := (-1 : Int32)) hx hb d_S_partOfPair_65 (by decide) ?_
    cases hf
    exact hret 66 ls H locs hP hS d_S_partOfPair_66
  have hJ25 : ∀ (x3 : Int32) (x4 : Int32) (H : Heap) (locs : List Loc) (ls : Array Slot), PDS G.1 classes A s [(h0, O_S f_known f_paired f_cappedInAll f_connectedInAll f_pairsInAll a_sizes a_capped a_connected f_end a_leftIn a_rightIn a_pairs), (a_connected, aZ G 256 g_connected), (a_leftIn, aI G 256 g_leftIn), (a_pairs, aI G 256 g_pairs), (a_rightIn, aI G 256 g_rightIn)] H locs → lv_has ls 6 [(0, .ref h0), (2, .int x2), (3, .int x3), (4, .int x4)] → S_partOfPair_25 N f_end g_connected g_leftIn g_pairs g_rightIn x2 x3 x4 = some res → W p l e (rmk 3) s m args below meth c H locs 0 0 Q (F0 m 25 ls []) := by
    intro x3 x4 H locs ls wq hl hf
    obtain ⟨hP, hD, hS⟩ := wq
    refine lv_aload_n hx hb d_S_partOfPair_25 rfl (lv_at hl 0 rfl) ?_
    refine lv_iload hx hb d_S_partOfPair_26 (lv_at hl 3 rfl) ?_
    refine lv_iload_n hx hb d_S_partOfPair_28 rfl (lv_at hl 2 rfl) ?_
    obtain ⟨t6, hv7, hf⟩ := db_e hf
    refine call_i (isC := [0, 1, 2, 4]) (run_V (As := [.int x4, .int x3]) (rest := []) (ci := 8) (q0 := 0) hx hb hml hown htl (c_S_firstOfPair l G Y  h0 a_sizes a_capped a_connected a_leftIn a_rightIn a_pairs f_known f_paired f_cappedInAll f_connectedInAll f_pairsInAll f_end g_connected g_leftIn g_rightIn x4 x3 N t6 hv7) mv_S_firstOfPair k_1026 (hRk (by decide) (by decide)) hK hsk hS hP hD (isC := [0, 1, 2, 4]) rfl (by decide) rfl rfl rfl hl.1 rfl (lv_room (Nat.le_of_ble_eq_true rfl)) d_S_partOfPair_29) hP hD hS rfl rfl (fun H locs hP hD hS => ?_)
    have hP : va_P G.1 classes [(h0, O_S f_known f_paired f_cappedInAll f_connectedInAll f_pairsInAll a_sizes a_capped a_connected f_end a_leftIn a_rightIn a_pairs), (a_connected, aZ G 256 g_connected), (a_leftIn, aI G 256 g_leftIn), (a_pairs, aI G 256 g_pairs), (a_rightIn, aI G 256 g_rightIn)] H := hP
    have hD : va_D A [(h0, O_S f_known f_paired f_cappedInAll f_connectedInAll f_pairsInAll a_sizes a_capped a_connected f_end a_leftIn a_rightIn a_pairs), (a_connected, aZ G 256 g_connected), (a_leftIn, aI G 256 g_leftIn), (a_pairs, aI G 256 g_pairs), (a_rightIn, aI G 256 g_rightIn)] := hD
    refine lv_istore (lv' := [(5, .int t6), (0, .ref h0), (2, .int x2), (3, .int x3), (4, .int x4)]) hx hb d_S_partOfPair_32 hl (by decide) rfl (fun ls hl => ?_)
    refine lv_iload_n hx hb d_S_partOfPair_34 rfl (lv_at hl 2 rfl) ?_
    refine lv_if_eq (tgt := 46) hx hb d_S_partOfPair_35 (by decide) (fun c8 => ?_) (fun c8 => ?_)
    · have hf := di_t c8 hf
      refine lv_iload hx hb d_S_partOfPair_46 (lv_at hl 0 rfl) ?_
      cases hf
      exact hret 48 ls H locs hP hS d_S_partOfPair_48
    · have hf := di_f c8 hf
      refine lv_iload hx hb d_S_partOfPair_38 (lv_at hl 4 rfl) ?_
      refine lv_iload hx hb d_S_partOfPair_40 (lv_at hl 0 rfl) ?_
      refine lv_ixor hx hb d_S_partOfPair_42 ?_
      refine lv_goto (tgt := 48) hx hb d_S_partOfPair_43 (by decide) ?_
      cases hf
      exact hret 48 ls H locs hP hS d_S_partOfPair_48
  have hJ5 : ∀ (x3 : Int32) (x4 : Int32) (H : Heap) (locs : List Loc) (ls : Array Slot), PDS G.1 classes A s [(h0, O_S f_known f_paired f_cappedInAll f_connectedInAll f_pairsInAll a_sizes a_capped a_connected f_end a_leftIn a_rightIn a_pairs), (a_connected, aZ G 256 g_connected), (a_leftIn, aI G 256 g_leftIn), (a_pairs, aI G 256 g_pairs), (a_rightIn, aI G 256 g_rightIn)] H locs → lv_has ls 6 [(0, .ref h0), (2, .int x2), (3, .int x3), (4, .int x4)] → S_partOfPair_5 N f_end g_connected g_leftIn g_pairs g_rightIn x2 x3 x4 = some res → W p l e (rmk 3) s m args below meth c H locs 0 0 Q (F0 m 5 ls []) := by
    intro x3 x4 H locs ls wq hl hf
    obtain ⟨hP, hD, hS⟩ := wq
    obtain ⟨y5, hy5, hfo5⟩ := db_e hf
    have hL5 : ∀ (n : Nat) (x3 : Int32) (x4 : Int32) (H : Heap) (locs : List Loc) (ls : Array Slot), lp (fun x => S_partOfPair_b5 N f_end g_connected g_leftIn g_pairs g_rightIn x2 x.1 x.2) n (x3, x4) = some y5 → PDS G.1 classes A s [(h0, O_S f_known f_paired f_cappedInAll f_connectedInAll f_pairsInAll a_sizes a_capped a_connected f_end a_leftIn a_rightIn a_pairs), (a_connected, aZ G 256 g_connected), (a_leftIn, aI G 256 g_leftIn), (a_pairs, aI G 256 g_pairs), (a_rightIn, aI G 256 g_rightIn)] H locs → lv_has ls 6 [(0, .ref h0), (2, .int x2), (3, .int x3), (4, .int x4)] → W p l e (rmk 3) s m args below meth c H locs 0 0 Q (F0 m 5 ls []) := by
      intro n
      induction n with
      | zero =>
        intro x3 x4 H locs ls hf
        exact lp_0 hf
      | succ n ih5 =>
        intro x3 x4 H locs ls hf wq hl
        obtain ⟨hP, hD, hS⟩ := wq
        obtain ⟨r5, hf, hk5⟩ := lp_s hf
        have hf : S_partOfPair_b5 N f_end g_connected g_leftIn g_pairs g_rightIn x2 x3 x4 = some r5 := hf
        refine lv_iload hx hb d_S_partOfPair_5 (lv_at hl 3 rfl) ?_
        refine lv_aload_n hx hb d_S_partOfPair_7 rfl (lv_at hl 0 rfl) ?_
        refine va_get (D := G.1) (ci := 8) (v := .int f_end) (C := n_S) (T := T_S) (N := 12) hx hb htl iw_S hown hK hP 0 rfl rfl 8 (by decide) (htl _ k_361) (fun _ h9 => h9) rfl d_S_partOfPair_8 ?_
        refine lv_icmp_ge (tgt := 65) hx hb d_S_partOfPair_11 (by decide) (fun c1 => ?_) (fun c1 => ?_)
        · have hf := di_t c1 hf
          have hq5 := lpk_x hf hk5
          have hf := ex_y (f := fun y => S_partOfPair_a5 N f_end g_connected g_leftIn g_pairs g_rightIn x2 y) hq5 hfo5
          have hf : S_partOfPair_65 N f_end g_connected g_leftIn g_pairs g_rightIn = some res := hf
          exact hJ65  H locs ls ⟨hP, hD, hS⟩ (lv_sub hl [] rfl) hf
        · have hf := di_f c1 hf
          refine lv_iload_n hx hb d_S_partOfPair_14 rfl (lv_at hl 2 rfl) ?_
          refine lv_aload_n hx hb d_S_partOfPair_15 rfl (lv_at hl 0 rfl) ?_
          refine va_get (D := G.1) (ci := 8) (v := .ref a_pairs) (C := n_S) (T := T_S) (N := 12) hx hb htl iw_S hown hK hP 0 rfl rfl 11 (by decide) (htl _ k_364) (fun _ h9 => h9) rfl d_S_partOfPair_16 ?_
          refine lv_iload hx hb d_S_partOfPair_19 (lv_at hl 3 rfl) ?_
          obtain ⟨c2, hf⟩ := dk_e hf
          refine va_iald hx hb hK hP 3 1 rfl rfl c2 d_S_partOfPair_21 ?_
          refine lv_icmp_ge (tgt := 49) hx hb d_S_partOfPair_22 (by decide) (fun c3 => ?_) (fun c3 => ?_)
          · have hf := di_t c3 hf
            refine lv_iload_n hx hb d_S_partOfPair_49 rfl (lv_at hl 2 rfl) ?_
            refine lv_aload_n hx hb d_S_partOfPair_50 rfl (lv_at hl 0 rfl) ?_
            refine va_get (D := G.1) (ci := 8) (v := .ref a_pairs) (C := n_S) (T := T_S) (N := 12) hx hb htl iw_S hown hK hP 0 rfl rfl 11 (by decide) (htl _ k_364) (fun _ h9 => h9) rfl d_S_partOfPair_51 ?_
            refine lv_iload hx hb d_S_partOfPair_54 (lv_at hl 3 rfl) ?_
            refine va_iald hx hb hK hP 3 1 rfl rfl c2 d_S_partOfPair_56 ?_
            refine lv_isub hx hb d_S_partOfPair_57 ?_
            refine lv_topi (fun v4 ev4 => ?_)
            have hf := dn_e ev4 hf
            refine lv_istore_n (lv' := [(3, .int v4), (0, .ref h0), (2, .int x2), (4, .int x4)]) hx hb d_S_partOfPair_58 rfl hl (by decide) rfl (fun ls hl => ?_)
            obtain ⟨v5, ev5⟩ : ∃ z : Int32, z = x4 + (1 : Int32) := ⟨_, rfl⟩
            have hf := dn_e ev5 hf
            refine lv_iinc (v := v5) (lv' := [(4, .int v5), (3, .int v4), (0, .ref h0), (2, .int x2)]) hx hb d_S_partOfPair_59 hl (k := 3) rfl (by rw [ev5]; rfl) (by decide) rfl (fun ls hl => ?_)
            refine lv_goto (tgt := 5) hx hb d_S_partOfPair_62 (by decide) ?_
            exact ih5 v4 v5 H locs ls (lpk_i hf hk5) ⟨hP, hD, hS⟩ (lv_sub hl [2, 3, 1, 0] rfl)
          · have hf := di_f c3 hf
            have hq5 := lpk_x hf hk5
            have hf := ex_y (f := fun y => S_partOfPair_a5 N f_end g_connected g_leftIn g_pairs g_rightIn x2 y) hq5 hfo5
            have hf : S_partOfPair_25 N f_end g_connected g_leftIn g_pairs g_rightIn x2 x3 x4 = some res := hf
            exact hJ25 x3 x4 H locs ls ⟨hP, hD, hS⟩ (lv_sub hl [0, 1, 2, 3] rfl) hf
    exact hL5 N x3 x4 H locs ls hy5 ⟨hP, hD, hS⟩ hl
  refine lv_iload_n hx hb d_S_partOfPair_0 rfl (lv_at hl 1 rfl) ?_
  refine lv_istore_n (lv' := [(3, .int x1), (0, .ref h0), (1, .int x1), (2, .int x2)]) hx hb d_S_partOfPair_1 rfl hl (by decide) rfl (fun ls hl => ?_)
  refine lv_iconst (v := (1 : Int32)) hx hb d_S_partOfPair_2 (by decide) ?_
  refine lv_istore (lv' := [(4, .int (1 : Int32)), (3, .int x1), (0, .ref h0), (1, .int x1), (2, .int x2)]) hx hb d_S_partOfPair_3 hl (by decide) rfl (fun ls hl => ?_)
  exact hJ5 x1 (1 : Int32) H locs ls ⟨hP, hD, hS⟩ (lv_sub hl [2, 4, 1, 0] rfl) hf
set_option maxHeartbeats 4000000 in
set_option maxRecDepth 100000 in
theorem c_S_isCross (l : Launch) (G : va_G × (Nat → ClassId)) (Y : (Nat → Nat) × (Nat → Nat)) (h0 : Nat) (a_p1 : Nat) (a_p1_set : Nat) (a_p1_part : Nat) (a_sizes : Nat) (a_capped : Nat) (a_connected : Nat) (a_leftIn : Nat) (a_rightIn : Nat) (a_pairs : Nat) (f_p1_root : Int32) (f_p1_joins : Int32) (f_known : Int32) (f_paired : Int32) (f_cappedInAll : Int32) (f_connectedInAll : Int32) (f_pairsInAll : Int32) (f_end : Int32) (g_p1_part : Nat → Int32) (g_p1_set : Nat → Int32) (g_leftIn : Nat → Int32) (g_rightIn : Nat → Int32) (x2 : Int32) (res : Int32) (hf : S_isCross g_p1_part g_p1_set g_leftIn g_rightIn x2 = some res) : Ci l classes y_S_isCross b_S_isCross 3 (some .boolean) (rmk 1) G.1 (tyL G) Y [.ref h0, .ref a_p1, .int x2] [(a_p1, O_P f_p1_root f_p1_joins a_p1_set a_p1_part), (h0, O_S f_known f_paired f_cappedInAll f_connectedInAll f_pairsInAll a_sizes a_capped a_connected f_end a_leftIn a_rightIn a_pairs), (a_p1_part, aI G 7 g_p1_part), (a_p1_set, aI G 7 g_p1_set), (a_leftIn, aI G 256 g_leftIn), (a_rightIn, aI G 256 g_rightIn)] [(a_p1, O_P f_p1_root f_p1_joins a_p1_set a_p1_part), (h0, O_S f_known f_paired f_cappedInAll f_connectedInAll f_pairsInAll a_sizes a_capped a_connected f_end a_leftIn a_rightIn a_pairs), (a_p1_part, aI G 7 g_p1_part), (a_p1_set, aI G 7 g_p1_set), (a_leftIn, aI G 256 g_leftIn), (a_rightIn, aI G 256 g_rightIn)] res := by
  refine entZ (by decide) (Nat.le_of_ble_eq_true rfl) ?_
  intro p e s m args below meth c ls A Q hx hb hml hown htl hK hsk wq hl hret
  obtain ⟨hP, hD, hS⟩ := wq
  have hl : lv_has ls 3 [(0, .ref h0), (1, .ref a_p1), (2, .int x2)] := hl
  have hS : va_S A s.heap s.heap [] := hS
  obtain ⟨H, hH⟩ : ∃ H : Heap, H = s.heap := ⟨_, rfl⟩
  obtain ⟨locs, hlocs⟩ : ∃ z : List Loc, z = [] := ⟨_, rfl⟩
  rw [← hH] at hP
  replace hS : va_S A s.heap H locs := by rw [hH, hlocs]; exact hS
  suffices hgo : W p l e (rmk 1) s m args below meth c H locs 0 0 Q (F0 m 0 ls []) by rw [hH, hlocs] at hgo; exact hgo
  refine lv_aload_n hx hb d_S_isCross_0 rfl (lv_at hl 0 rfl) ?_
  refine lv_aload_n hx hb d_S_isCross_1 rfl (lv_at hl 1 rfl) ?_
  refine va_get (D := G.1) (ci := 4) (v := .ref a_p1_part) (C := n_P) (T := T_P) (N := 4) hx hb htl iw_P hown hK hP 0 rfl rfl 3 (by decide) (htl _ k_197) (fun _ h9 => h9) rfl d_S_isCross_2 ?_
  refine lv_iload_n hx hb d_S_isCross_5 rfl (lv_at hl 2 rfl) ?_
  obtain ⟨c1, hf⟩ := dk_e hf
  refine va_iald hx hb hK hP 2 1 rfl rfl c1 d_S_isCross_6 ?_
  refine lv_aload_n hx hb d_S_isCross_7 rfl (lv_at hl 1 rfl) ?_
  refine va_get (D := G.1) (ci := 4) (v := .ref a_p1_set) (C := n_P) (T := T_P) (N := 4) hx hb htl iw_P hown hK hP 0 rfl rfl 2 (by decide) (htl _ k_193) (fun _ h9 => h9) rfl d_S_isCross_8 ?_
  refine lv_iload_n hx hb d_S_isCross_11 rfl (lv_at hl 2 rfl) ?_
  refine va_iald hx hb hK hP 3 1 rfl rfl c1 d_S_isCross_12 ?_
  refine lv_aload_n hx hb d_S_isCross_13 rfl (lv_at hl 1 rfl) ?_
  refine va_get (D := G.1) (ci := 4) (v := .ref a_p1_part) (C := n_P) (T := T_P) (N := 4) hx hb htl iw_P hown hK hP 0 rfl rfl 3 (by decide) (htl _ k_197) (fun _ h9 => h9) rfl d_S_isCross_14 ?_
  refine lv_iload_n hx hb d_S_isCross_17 rfl (lv_at hl 2 rfl) ?_
  refine va_iald hx hb hK hP 2 1 rfl rfl c1 d_S_isCross_18 ?_
  refine lv_ixor hx hb d_S_isCross_19 ?_
  obtain ⟨t2, hv3, hf⟩ := db_e hf
  refine call_i (isC := [1, 4, 5]) (run_V (As := [.int (g_p1_part x2.toNatClampNeg), .int ((g_p1_set x2.toNatClampNeg) ^^^ (g_p1_part x2.toNatClampNeg))]) (rest := []) (ci := 8) (q0 := 1) hx hb hml hown htl (c_S_areJoined l G Y  h0 a_sizes a_capped a_connected a_leftIn a_rightIn a_pairs f_known f_paired f_cappedInAll f_connectedInAll f_pairsInAll f_end g_leftIn g_rightIn (g_p1_part x2.toNatClampNeg) ((g_p1_set x2.toNatClampNeg) ^^^ (g_p1_part x2.toNatClampNeg)) t2 hv3) mv_S_areJoined k_884 (hRk (by decide) (by decide)) hK hsk hS hP hD (isC := [1, 4, 5]) rfl (by decide) rfl rfl rfl hl.1 rfl (lv_room (Nat.le_of_ble_eq_true rfl)) d_S_isCross_20) hP hD hS rfl rfl (fun H locs hP hD hS => ?_)
  have hP : va_P G.1 classes [(a_p1, O_P f_p1_root f_p1_joins a_p1_set a_p1_part), (h0, O_S f_known f_paired f_cappedInAll f_connectedInAll f_pairsInAll a_sizes a_capped a_connected f_end a_leftIn a_rightIn a_pairs), (a_p1_part, aI G 7 g_p1_part), (a_p1_set, aI G 7 g_p1_set), (a_leftIn, aI G 256 g_leftIn), (a_rightIn, aI G 256 g_rightIn)] H := hP
  have hD : va_D A [(a_p1, O_P f_p1_root f_p1_joins a_p1_set a_p1_part), (h0, O_S f_known f_paired f_cappedInAll f_connectedInAll f_pairsInAll a_sizes a_capped a_connected f_end a_leftIn a_rightIn a_pairs), (a_p1_part, aI G 7 g_p1_part), (a_p1_set, aI G 7 g_p1_set), (a_leftIn, aI G 256 g_leftIn), (a_rightIn, aI G 256 g_rightIn)] := hD
  refine lv_if_ne (tgt := 30) hx hb d_S_isCross_23 (by decide) (fun c4 => ?_) (fun c4 => ?_)
  · have hf := di_f c4 hf
    refine lv_iconst (v := (0 : Int32)) hx hb d_S_isCross_30 (by decide) ?_
    cases hf
    exact hret 31 ls H locs z_0 hP hS d_S_isCross_31
  · have hf := di_t c4 hf
    refine lv_iconst (v := (1 : Int32)) hx hb d_S_isCross_26 (by decide) ?_
    refine lv_goto (tgt := 31) hx hb d_S_isCross_27 (by decide) ?_
    cases hf
    exact hret 31 ls H locs z_1 hP hS d_S_isCross_31
set_option maxHeartbeats 4000000 in
set_option maxRecDepth 100000 in
theorem c_S_crossesOf (l : Launch) (G : va_G × (Nat → ClassId)) (Y : (Nat → Nat) × (Nat → Nat)) (h0 : Nat) (a_p1 : Nat) (a_p1_set : Nat) (a_p1_part : Nat) (a_sizes : Nat) (a_capped : Nat) (a_connected : Nat) (a_leftIn : Nat) (a_rightIn : Nat) (a_pairs : Nat) (f_p1_root : Int32) (f_p1_joins : Int32) (f_known : Int32) (f_paired : Int32) (f_cappedInAll : Int32) (f_connectedInAll : Int32) (f_pairsInAll : Int32) (f_end : Int32) (g_p1_part : Nat → Int32) (g_p1_set : Nat → Int32) (g_leftIn : Nat → Int32) (g_rightIn : Nat → Int32) (N : Nat) (res : Int32) (hf : S_crossesOf N f_p1_joins g_p1_part g_p1_set g_leftIn g_rightIn = some res) : Ci l classes y_S_crossesOf b_S_crossesOf 4 (some .int) (rmk 2) G.1 (tyL G) Y [.ref h0, .ref a_p1] [(a_p1, O_P f_p1_root f_p1_joins a_p1_set a_p1_part), (h0, O_S f_known f_paired f_cappedInAll f_connectedInAll f_pairsInAll a_sizes a_capped a_connected f_end a_leftIn a_rightIn a_pairs), (a_p1_part, aI G 7 g_p1_part), (a_p1_set, aI G 7 g_p1_set), (a_leftIn, aI G 256 g_leftIn), (a_rightIn, aI G 256 g_rightIn)] [(a_p1, O_P f_p1_root f_p1_joins a_p1_set a_p1_part), (h0, O_S f_known f_paired f_cappedInAll f_connectedInAll f_pairsInAll a_sizes a_capped a_connected f_end a_leftIn a_rightIn a_pairs), (a_p1_part, aI G 7 g_p1_part), (a_p1_set, aI G 7 g_p1_set), (a_leftIn, aI G 256 g_leftIn), (a_rightIn, aI G 256 g_rightIn)] res := by
  refine entI (by decide) (Nat.le_of_ble_eq_true rfl) ?_
  intro p e s m args below meth c ls A Q hx hb hml hown htl hK hsk wq hl hret
  obtain ⟨hP, hD, hS⟩ := wq
  have hl : lv_has ls 4 [(0, .ref h0), (1, .ref a_p1)] := hl
  have hS : va_S A s.heap s.heap [] := hS
  obtain ⟨H, hH⟩ : ∃ H : Heap, H = s.heap := ⟨_, rfl⟩
  obtain ⟨locs, hlocs⟩ : ∃ z : List Loc, z = [] := ⟨_, rfl⟩
  rw [← hH] at hP
  replace hS : va_S A s.heap H locs := by rw [hH, hlocs]; exact hS
  suffices hgo : W p l e (rmk 2) s m args below meth c H locs 0 0 Q (F0 m 0 ls []) by rw [hH, hlocs] at hgo; exact hgo
  have hJ35 : ∀ (x2 : Int32) (H : Heap) (locs : List Loc) (ls : Array Slot), PDS G.1 classes A s [(a_p1, O_P f_p1_root f_p1_joins a_p1_set a_p1_part), (h0, O_S f_known f_paired f_cappedInAll f_connectedInAll f_pairsInAll a_sizes a_capped a_connected f_end a_leftIn a_rightIn a_pairs), (a_p1_part, aI G 7 g_p1_part), (a_p1_set, aI G 7 g_p1_set), (a_leftIn, aI G 256 g_leftIn), (a_rightIn, aI G 256 g_rightIn)] H locs → lv_has ls 4 [(2, .int x2)] → S_crossesOf_35 N f_p1_joins g_p1_part g_p1_set g_leftIn g_rightIn x2 = some res → W p l e (rmk 2) s m args below meth c H locs 0 0 Q (F0 m 35 ls []) := by
    intro x2 H locs ls wq hl hf
    obtain ⟨hP, hD, hS⟩ := wq
    refine lv_iload_n hx hb d_S_crossesOf_35 rfl (lv_at hl 0 rfl) ?_
    cases hf
    exact hret 36 ls H locs hP hS d_S_crossesOf_36
  have hJ4 : ∀ (x2 : Int32) (x3 : Int32) (H : Heap) (locs : List Loc) (ls : Array Slot), PDS G.1 classes A s [(a_p1, O_P f_p1_root f_p1_joins a_p1_set a_p1_part), (h0, O_S f_known f_paired f_cappedInAll f_connectedInAll f_pairsInAll a_sizes a_capped a_connected f_end a_leftIn a_rightIn a_pairs), (a_p1_part, aI G 7 g_p1_part), (a_p1_set, aI G 7 g_p1_set), (a_leftIn, aI G 256 g_leftIn), (a_rightIn, aI G 256 g_rightIn)] H locs → lv_has ls 4 [(0, .ref h0), (1, .ref a_p1), (2, .int x2), (3, .int x3)] → S_crossesOf_4 N f_p1_joins g_p1_part g_p1_set g_leftIn g_rightIn x2 x3 = some res → W p l e (rmk 2) s m args below meth c H locs 0 0 Q (F0 m 4 ls []) := by
    intro x2 x3 H locs ls wq hl hf
    obtain ⟨hP, hD, hS⟩ := wq
    obtain ⟨y4, hy4, hfo4⟩ := db_e hf
    have hL4 : ∀ (n : Nat) (x2 : Int32) (x3 : Int32) (H : Heap) (locs : List Loc) (ls : Array Slot), lp (fun x => S_crossesOf_b4 N f_p1_joins g_p1_part g_p1_set g_leftIn g_rightIn x.1 x.2) n (x2, x3) = some y4 → PDS G.1 classes A s [(a_p1, O_P f_p1_root f_p1_joins a_p1_set a_p1_part), (h0, O_S f_known f_paired f_cappedInAll f_connectedInAll f_pairsInAll a_sizes a_capped a_connected f_end a_leftIn a_rightIn a_pairs), (a_p1_part, aI G 7 g_p1_part), (a_p1_set, aI G 7 g_p1_set), (a_leftIn, aI G 256 g_leftIn), (a_rightIn, aI G 256 g_rightIn)] H locs → lv_has ls 4 [(0, .ref h0), (1, .ref a_p1), (2, .int x2), (3, .int x3)] → W p l e (rmk 2) s m args below meth c H locs 0 0 Q (F0 m 4 ls []) := by
      intro n
      induction n with
      | zero =>
        intro x2 x3 H locs ls hf
        exact lp_0 hf
      | succ n ih4 =>
        intro x2 x3 H locs ls hf wq hl
        obtain ⟨hP, hD, hS⟩ := wq
        obtain ⟨r4, hf, hk4⟩ := lp_s hf
        have hf : S_crossesOf_b4 N f_p1_joins g_p1_part g_p1_set g_leftIn g_rightIn x2 x3 = some r4 := hf
        have hJ27 : ∀ (x3 : Int32) (z0 : Int32) (z1 : Int32) (H : Heap) (locs : List Loc) (ls : Array Slot), PDS G.1 classes A s [(a_p1, O_P f_p1_root f_p1_joins a_p1_set a_p1_part), (h0, O_S f_known f_paired f_cappedInAll f_connectedInAll f_pairsInAll a_sizes a_capped a_connected f_end a_leftIn a_rightIn a_pairs), (a_p1_part, aI G 7 g_p1_part), (a_p1_set, aI G 7 g_p1_set), (a_leftIn, aI G 256 g_leftIn), (a_rightIn, aI G 256 g_rightIn)] H locs → lv_has ls 4 [(0, .ref h0), (1, .ref a_p1), (3, .int x3)] → S_crossesOf_27 N f_p1_joins g_p1_part g_p1_set g_leftIn g_rightIn x3 z0 z1 = some r4 → W p l e (rmk 2) s m args below meth c H locs 0 0 Q (F0 m 27 ls [.int z1, .int z0]) := by
          intro x3 z0 z1 H locs ls wq hl hf
          obtain ⟨hP, hD, hS⟩ := wq
          refine lv_iadd hx hb d_S_crossesOf_27 ?_
          refine lv_topi (fun v5 ev5 => ?_)
          have hf := dn_e ev5 hf
          refine lv_istore_n (lv' := [(2, .int v5), (0, .ref h0), (1, .ref a_p1), (3, .int x3)]) hx hb d_S_crossesOf_28 rfl hl (by decide) rfl (fun ls hl => ?_)
          obtain ⟨v6, ev6⟩ : ∃ z : Int32, z = x3 + (1 : Int32) := ⟨_, rfl⟩
          have hf := dn_e ev6 hf
          refine lv_iinc (v := v6) (lv' := [(3, .int v6), (2, .int v5), (0, .ref h0), (1, .ref a_p1)]) hx hb d_S_crossesOf_29 hl (k := 3) rfl (by rw [ev6]; rfl) (by decide) rfl (fun ls hl => ?_)
          refine lv_goto (tgt := 4) hx hb d_S_crossesOf_32 (by decide) ?_
          exact ih4 v5 v6 H locs ls (lpk_i hf hk4) ⟨hP, hD, hS⟩ (lv_sub hl [2, 3, 1, 0] rfl)
        refine lv_iload_n hx hb d_S_crossesOf_4 rfl (lv_at hl 3 rfl) ?_
        refine lv_aload_n hx hb d_S_crossesOf_5 rfl (lv_at hl 1 rfl) ?_
        refine va_get (D := G.1) (ci := 4) (v := .int f_p1_joins) (C := n_P) (T := T_P) (N := 4) hx hb htl iw_P hown hK hP 0 rfl rfl 1 (by decide) (htl _ k_190) (fun _ h9 => h9) rfl d_S_crossesOf_6 ?_
        refine lv_icmp_ge (tgt := 35) hx hb d_S_crossesOf_9 (by decide) (fun c1 => ?_) (fun c1 => ?_)
        · have hf := di_t c1 hf
          have hq4 := lpk_x hf hk4
          have hf := ex_y (f := fun y => S_crossesOf_a4 N f_p1_joins g_p1_part g_p1_set g_leftIn g_rightIn y) hq4 hfo4
          have hf : S_crossesOf_35 N f_p1_joins g_p1_part g_p1_set g_leftIn g_rightIn x2 = some res := hf
          exact hJ35 x2 H locs ls ⟨hP, hD, hS⟩ (lv_sub hl [2] rfl) hf
        · have hf := di_f c1 hf
          refine lv_iload_n hx hb d_S_crossesOf_12 rfl (lv_at hl 2 rfl) ?_
          refine lv_aload_n hx hb d_S_crossesOf_13 rfl (lv_at hl 0 rfl) ?_
          refine lv_aload_n hx hb d_S_crossesOf_14 rfl (lv_at hl 1 rfl) ?_
          refine lv_iload_n hx hb d_S_crossesOf_15 rfl (lv_at hl 3 rfl) ?_
          obtain ⟨t2, hv3, hf⟩ := db_e hf
          refine call_i (isC := [0, 1, 2, 3, 4, 5]) (run_V (As := [.ref a_p1, .int x3]) (rest := [.int x2]) (ci := 8) (q0 := 1) hx hb hml hown htl (c_S_isCross l G Y  h0 a_p1 a_p1_set a_p1_part a_sizes a_capped a_connected a_leftIn a_rightIn a_pairs f_p1_root f_p1_joins f_known f_paired f_cappedInAll f_connectedInAll f_pairsInAll f_end g_p1_part g_p1_set g_leftIn g_rightIn x3 t2 hv3) mv_S_isCross k_960 (hRk (by decide) (by decide)) hK hsk hS hP hD (isC := [0, 1, 2, 3, 4, 5]) rfl (by decide) rfl rfl rfl hl.1 rfl (lv_room (Nat.le_of_ble_eq_true rfl)) d_S_crossesOf_16) hP hD hS rfl rfl (fun H locs hP hD hS => ?_)
          have hP : va_P G.1 classes [(a_p1, O_P f_p1_root f_p1_joins a_p1_set a_p1_part), (h0, O_S f_known f_paired f_cappedInAll f_connectedInAll f_pairsInAll a_sizes a_capped a_connected f_end a_leftIn a_rightIn a_pairs), (a_p1_part, aI G 7 g_p1_part), (a_p1_set, aI G 7 g_p1_set), (a_leftIn, aI G 256 g_leftIn), (a_rightIn, aI G 256 g_rightIn)] H := hP
          have hD : va_D A [(a_p1, O_P f_p1_root f_p1_joins a_p1_set a_p1_part), (h0, O_S f_known f_paired f_cappedInAll f_connectedInAll f_pairsInAll a_sizes a_capped a_connected f_end a_leftIn a_rightIn a_pairs), (a_p1_part, aI G 7 g_p1_part), (a_p1_set, aI G 7 g_p1_set), (a_leftIn, aI G 256 g_leftIn), (a_rightIn, aI G 256 g_rightIn)] := hD
          refine lv_if_eq (tgt := 26) hx hb d_S_crossesOf_19 (by decide) (fun c4 => ?_) (fun c4 => ?_)
          · have hf := di_t c4 hf
            refine lv_iconst (v := (0 : Int32)) hx hb d_S_crossesOf_26 (by decide) ?_
            exact hJ27 x3 x2 (0 : Int32) H locs ls ⟨hP, hD, hS⟩ (lv_sub hl [0, 1, 3] rfl) hf
          · have hf := di_f c4 hf
            refine lv_iconst (v := (1 : Int32)) hx hb d_S_crossesOf_22 (by decide) ?_
            refine lv_goto (tgt := 27) hx hb d_S_crossesOf_23 (by decide) ?_
            exact hJ27 x3 x2 (1 : Int32) H locs ls ⟨hP, hD, hS⟩ (lv_sub hl [0, 1, 3] rfl) hf
    exact hL4 N x2 x3 H locs ls hy4 ⟨hP, hD, hS⟩ hl
  refine lv_iconst (v := (0 : Int32)) hx hb d_S_crossesOf_0 (by decide) ?_
  refine lv_istore_n (lv' := [(2, .int (0 : Int32)), (0, .ref h0), (1, .ref a_p1)]) hx hb d_S_crossesOf_1 rfl hl (by decide) rfl (fun ls hl => ?_)
  refine lv_iconst (v := (0 : Int32)) hx hb d_S_crossesOf_2 (by decide) ?_
  refine lv_istore_n (lv' := [(3, .int (0 : Int32)), (2, .int (0 : Int32)), (0, .ref h0), (1, .ref a_p1)]) hx hb d_S_crossesOf_3 rfl hl (by decide) rfl (fun ls hl => ?_)
  exact hJ4 (0 : Int32) (0 : Int32) H locs ls ⟨hP, hD, hS⟩ (lv_sub hl [2, 3, 1, 0] rfl) hf
set_option maxHeartbeats 4000000 in
set_option maxRecDepth 100000 in
theorem c_S_costOf (l : Launch) (G : va_G × (Nat → ClassId)) (Y : (Nat → Nat) × (Nat → Nat)) (h0 : Nat) (a_p1 : Nat) (a_p1_set : Nat) (a_p1_part : Nat) (a_sizes : Nat) (a_capped : Nat) (a_connected : Nat) (a_leftIn : Nat) (a_rightIn : Nat) (a_pairs : Nat) (f_p1_root : Int32) (f_p1_joins : Int32) (f_known : Int32) (f_paired : Int32) (f_cappedInAll : Int32) (f_connectedInAll : Int32) (f_pairsInAll : Int32) (f_end : Int32) (g_p1_set : Nat → Int32) (g_sizes : Nat → Int64) (x2 : Int32) (N : Nat) (res : Int64) (hf : S_costOf N f_p1_joins g_p1_set g_sizes x2 = some res) : Cl l classes y_S_costOf b_S_costOf 6 (some .long) (rmk 1) G.1 (tyL G) Y [.ref h0, .ref a_p1, .int x2] [(a_p1, O_P f_p1_root f_p1_joins a_p1_set a_p1_part), (h0, O_S f_known f_paired f_cappedInAll f_connectedInAll f_pairsInAll a_sizes a_capped a_connected f_end a_leftIn a_rightIn a_pairs), (a_p1_set, aI G 7 g_p1_set), (a_sizes, aJ G 256 g_sizes)] [(a_p1, O_P f_p1_root f_p1_joins a_p1_set a_p1_part), (h0, O_S f_known f_paired f_cappedInAll f_connectedInAll f_pairsInAll a_sizes a_capped a_connected f_end a_leftIn a_rightIn a_pairs), (a_p1_set, aI G 7 g_p1_set), (a_sizes, aJ G 256 g_sizes)] res := by
  refine entL (by decide) (Nat.le_of_ble_eq_true rfl) ?_
  intro p e s m args below meth c ls A Q hx hb hml hown htl hK hsk wq hl hret
  obtain ⟨hP, hD, hS⟩ := wq
  have hl : lv_has ls 6 [(0, .ref h0), (1, .ref a_p1), (2, .int x2)] := hl
  have hS : va_S A s.heap s.heap [] := hS
  obtain ⟨H, hH⟩ : ∃ H : Heap, H = s.heap := ⟨_, rfl⟩
  obtain ⟨locs, hlocs⟩ : ∃ z : List Loc, z = [] := ⟨_, rfl⟩
  rw [← hH] at hP
  replace hS : va_S A s.heap H locs := by rw [hH, hlocs]; exact hS
  suffices hgo : W p l e (rmk 1) s m args below meth c H locs 0 0 Q (F0 m 0 ls []) by rw [hH, hlocs] at hgo; exact hgo
  have hJ49 : ∀ (x3 : Int64) (H : Heap) (locs : List Loc) (ls : Array Slot), PDS G.1 classes A s [(a_p1, O_P f_p1_root f_p1_joins a_p1_set a_p1_part), (h0, O_S f_known f_paired f_cappedInAll f_connectedInAll f_pairsInAll a_sizes a_capped a_connected f_end a_leftIn a_rightIn a_pairs), (a_p1_set, aI G 7 g_p1_set), (a_sizes, aJ G 256 g_sizes)] H locs → lv_has ls 6 [(3, .long x3)] → S_costOf_49 N f_p1_joins g_p1_set g_sizes x3 = some res → W p l e (rmk 1) s m args below meth c H locs 0 0 Q (F0 m 49 ls []) := by
    intro x3 H locs ls wq hl hf
    obtain ⟨hP, hD, hS⟩ := wq
    refine lv_ldc2 (v := (1000000000000000 : Int64)) hx hb hown (htl _ k_859) d_S_costOf_49 ?_
    refine lv_lload_n hx hb d_S_costOf_52 rfl (lv_at hl 0 rfl) ?_
    refine va_mmin_long hx hb (hml.trans hl.1.symm) hown (htl _ k_968) (htl _ k_916) (htl _ k_111) (htl _ k_917) (Nat.le_of_ble_eq_true rfl) (Nat.le_of_ble_eq_true rfl) (Nat.zero_le _) (Nat.zero_le _) d_S_costOf_53 ?_
    cases hf
    exact hret 56 ls H locs hP hS d_S_costOf_56
  have hJ5 : ∀ (x3 : Int64) (x5 : Int32) (H : Heap) (locs : List Loc) (ls : Array Slot), PDS G.1 classes A s [(a_p1, O_P f_p1_root f_p1_joins a_p1_set a_p1_part), (h0, O_S f_known f_paired f_cappedInAll f_connectedInAll f_pairsInAll a_sizes a_capped a_connected f_end a_leftIn a_rightIn a_pairs), (a_p1_set, aI G 7 g_p1_set), (a_sizes, aJ G 256 g_sizes)] H locs → lv_has ls 6 [(0, .ref h0), (1, .ref a_p1), (2, .int x2), (3, .long x3), (5, .int x5)] → S_costOf_5 N f_p1_joins g_p1_set g_sizes x2 x3 x5 = some res → W p l e (rmk 1) s m args below meth c H locs 0 0 Q (F0 m 5 ls []) := by
    intro x3 x5 H locs ls wq hl hf
    obtain ⟨hP, hD, hS⟩ := wq
    obtain ⟨y5, hy5, hfo5⟩ := db_e hf
    have hL5 : ∀ (n : Nat) (x3 : Int64) (x5 : Int32) (H : Heap) (locs : List Loc) (ls : Array Slot), lp (fun x => S_costOf_b5 N f_p1_joins g_p1_set g_sizes x2 x.1 x.2) n (x3, x5) = some y5 → PDS G.1 classes A s [(a_p1, O_P f_p1_root f_p1_joins a_p1_set a_p1_part), (h0, O_S f_known f_paired f_cappedInAll f_connectedInAll f_pairsInAll a_sizes a_capped a_connected f_end a_leftIn a_rightIn a_pairs), (a_p1_set, aI G 7 g_p1_set), (a_sizes, aJ G 256 g_sizes)] H locs → lv_has ls 6 [(0, .ref h0), (1, .ref a_p1), (2, .int x2), (3, .long x3), (5, .int x5)] → W p l e (rmk 1) s m args below meth c H locs 0 0 Q (F0 m 5 ls []) := by
      intro n
      induction n with
      | zero =>
        intro x3 x5 H locs ls hf
        exact lp_0 hf
      | succ n ih5 =>
        intro x3 x5 H locs ls hf wq hl
        obtain ⟨hP, hD, hS⟩ := wq
        obtain ⟨r5, hf, hk5⟩ := lp_s hf
        have hf : S_costOf_b5 N f_p1_joins g_p1_set g_sizes x2 x3 x5 = some r5 := hf
        refine lv_iload hx hb d_S_costOf_5 (lv_at hl 4 rfl) ?_
        refine lv_aload_n hx hb d_S_costOf_7 rfl (lv_at hl 1 rfl) ?_
        refine va_get (D := G.1) (ci := 4) (v := .int f_p1_joins) (C := n_P) (T := T_P) (N := 4) hx hb htl iw_P hown hK hP 0 rfl rfl 1 (by decide) (htl _ k_190) (fun _ h9 => h9) rfl d_S_costOf_8 ?_
        refine lv_icmp_ge (tgt := 49) hx hb d_S_costOf_11 (by decide) (fun c1 => ?_) (fun c1 => ?_)
        · have hf := di_t c1 hf
          have hq5 := lpk_x hf hk5
          have hf := ex_y (f := fun y => S_costOf_a5 N f_p1_joins g_p1_set g_sizes x2 y) hq5 hfo5
          have hf : S_costOf_49 N f_p1_joins g_p1_set g_sizes x3 = some res := hf
          exact hJ49 x3 H locs ls ⟨hP, hD, hS⟩ (lv_sub hl [3] rfl) hf
        · have hf := di_f c1 hf
          refine lv_aload_n hx hb d_S_costOf_14 rfl (lv_at hl 1 rfl) ?_
          refine va_get (D := G.1) (ci := 4) (v := .ref a_p1_set) (C := n_P) (T := T_P) (N := 4) hx hb htl iw_P hown hK hP 0 rfl rfl 2 (by decide) (htl _ k_193) (fun _ h9 => h9) rfl d_S_costOf_15 ?_
          refine lv_iload hx hb d_S_costOf_18 (lv_at hl 4 rfl) ?_
          obtain ⟨c2, hf⟩ := dk_e hf
          refine va_iald hx hb hK hP 2 1 rfl rfl c2 d_S_costOf_20 ?_
          refine lv_iload_n hx hb d_S_costOf_21 rfl (lv_at hl 2 rfl) ?_
          refine lv_iconst (v := (-1 : Int32)) hx hb d_S_costOf_22 (by decide) ?_
          refine lv_ixor hx hb d_S_costOf_23 ?_
          refine lv_iand hx hb d_S_costOf_24 ?_
          refine lv_if_ne (tgt := 43) hx hb d_S_costOf_25 (by decide) (fun c3 => ?_) (fun c3 => ?_)
          · have hf := di_f c3 hf
            obtain ⟨v4, ev4⟩ : ∃ z : Int32, z = x5 + (1 : Int32) := ⟨_, rfl⟩
            have hf := dn_e ev4 hf
            refine lv_iinc (v := v4) (lv' := [(5, .int v4), (0, .ref h0), (1, .ref a_p1), (2, .int x2), (3, .long x3)]) hx hb d_S_costOf_43 hl (k := 4) rfl (by rw [ev4]; rfl) (by decide) rfl (fun ls hl => ?_)
            refine lv_goto (tgt := 5) hx hb d_S_costOf_46 (by decide) ?_
            exact ih5 x3 v4 H locs ls (lpk_i hf hk5) ⟨hP, hD, hS⟩ (lv_sub hl [1, 2, 3, 4, 0] rfl)
          · have hf := di_t c3 hf
            refine lv_lload_n hx hb d_S_costOf_28 rfl (lv_at hl 3 rfl) ?_
            refine lv_aload_n hx hb d_S_costOf_29 rfl (lv_at hl 0 rfl) ?_
            refine va_get (D := G.1) (ci := 8) (v := .ref a_sizes) (C := n_S) (T := T_S) (N := 12) hx hb htl iw_S hown hK hP 1 rfl rfl 5 (by decide) (htl _ k_352) (fun _ h9 => h9) rfl d_S_costOf_30 ?_
            refine lv_aload_n hx hb d_S_costOf_33 rfl (lv_at hl 1 rfl) ?_
            refine va_get (D := G.1) (ci := 4) (v := .ref a_p1_set) (C := n_P) (T := T_P) (N := 4) hx hb htl iw_P hown hK hP 0 rfl rfl 2 (by decide) (htl _ k_193) (fun _ h9 => h9) rfl d_S_costOf_34 ?_
            refine lv_iload hx hb d_S_costOf_37 (lv_at hl 4 rfl) ?_
            refine va_iald hx hb hK hP 2 1 rfl rfl c2 d_S_costOf_39 ?_
            obtain ⟨c5, hf⟩ := dk_e hf
            refine va_lald hx hb hK hP 3 2 rfl rfl c5 d_S_costOf_40 ?_
            refine lv_ladd hx hb d_S_costOf_41 ?_
            refine lv_topl (fun v6 ev6 => ?_)
            have hf := dn_e ev6 hf
            refine lv_lstore_n (lv' := [(3, .long v6), (0, .ref h0), (1, .ref a_p1), (2, .int x2), (5, .int x5)]) hx hb d_S_costOf_42 rfl hl (by decide) rfl (fun ls hl => ?_)
            obtain ⟨v7, ev7⟩ : ∃ z : Int32, z = x5 + (1 : Int32) := ⟨_, rfl⟩
            have hf := dn_e ev7 hf
            refine lv_iinc (v := v7) (lv' := [(5, .int v7), (3, .long v6), (0, .ref h0), (1, .ref a_p1), (2, .int x2)]) hx hb d_S_costOf_43 hl (k := 4) rfl (by rw [ev7]; rfl) (by decide) rfl (fun ls hl => ?_)
            refine lv_goto (tgt := 5) hx hb d_S_costOf_46 (by decide) ?_
            exact ih5 v6 v7 H locs ls (lpk_i hf hk5) ⟨hP, hD, hS⟩ (lv_sub hl [2, 3, 4, 1, 0] rfl)
    exact hL5 N x3 x5 H locs ls hy5 ⟨hP, hD, hS⟩ hl
  refine lv_lconst (v := (0 : Int64)) hx hb d_S_costOf_0 (by decide) ?_
  refine lv_lstore_n (lv' := [(3, .long (0 : Int64)), (0, .ref h0), (1, .ref a_p1), (2, .int x2)]) hx hb d_S_costOf_1 rfl hl (by decide) rfl (fun ls hl => ?_)
  refine lv_iconst (v := (0 : Int32)) hx hb d_S_costOf_2 (by decide) ?_
  refine lv_istore (lv' := [(5, .int (0 : Int32)), (3, .long (0 : Int64)), (0, .ref h0), (1, .ref a_p1), (2, .int x2)]) hx hb d_S_costOf_3 hl (by decide) rfl (fun ls hl => ?_)
  exact hJ5 (0 : Int64) (0 : Int32) H locs ls ⟨hP, hD, hS⟩ (lv_sub hl [2, 3, 4, 1, 0] rfl) hf
set_option maxHeartbeats 4000000 in
set_option maxRecDepth 100000 in
theorem c_T_copy (l : Launch) (G : va_G × (Nat → ClassId)) (Y : (Nat → Nat) × (Nat → Nat)) (h0 : Nat) (a_p1 : Nat) (a_p1_bytes : Nat) (a_bytes : Nat) (f_p1_length : Int32) (f_p1_kind : Int32) (f_p1_start : Int32) (f_p1_number : Int32) (f_p1_at : Int32) (f_length : Int32) (f_kind : Int32) (f_start : Int32) (f_number : Int32) (f_at : Int32) (g_p1_bytes : Nat → Int32) (g_bytes : Nat → Int32) (res : Int32 × (Nat → Int32)) (hf : T_copy f_p1_length f_length g_p1_bytes g_bytes = some res) : Cv l classes y_T_copy b_T_copy 2 none (rmk 1) G.1 (tyL G) Y [.ref h0, .ref a_p1] [(a_p1, O_T f_p1_length a_p1_bytes f_p1_kind f_p1_start f_p1_number f_p1_at), (h0, O_T f_length a_bytes f_kind f_start f_number f_at), (a_p1_bytes, aI G 500 g_p1_bytes), (a_bytes, aI G 500 g_bytes)] [(a_p1, O_T f_p1_length a_p1_bytes f_p1_kind f_p1_start f_p1_number f_p1_at), (h0, O_T res.1 a_bytes f_kind f_start f_number f_at), (a_p1_bytes, aI G 500 g_p1_bytes), (a_bytes, aI G 500 res.2)] := by
  refine entV (by decide) (Nat.le_of_ble_eq_true rfl) ?_
  intro p e s m args below meth c ls A Q hx hb hml hown htl hK hsk wq hl hret
  obtain ⟨hP, hD, hS⟩ := wq
  have hl : lv_has ls 2 [(0, .ref h0), (1, .ref a_p1)] := hl
  have hS : va_S A s.heap s.heap [] := hS
  obtain ⟨H, hH⟩ : ∃ H : Heap, H = s.heap := ⟨_, rfl⟩
  obtain ⟨locs, hlocs⟩ : ∃ z : List Loc, z = [] := ⟨_, rfl⟩
  rw [← hH] at hP
  replace hS : va_S A s.heap H locs := by rw [hH, hlocs]; exact hS
  suffices hgo : W p l e (rmk 1) s m args below meth c H locs 0 0 Q (F0 m 0 ls []) by rw [hH, hlocs] at hgo; exact hgo
  refine lv_aload_n hx hb d_T_copy_0 rfl (lv_at hl 0 rfl) ?_
  refine lv_aload_n hx hb d_T_copy_1 rfl (lv_at hl 1 rfl) ?_
  refine va_get (D := G.1) (ci := 10) (v := .int f_p1_length) (C := n_T) (T := T_T) (N := 6) hx hb htl iw_T hown hK hP 0 rfl rfl 0 (by decide) (htl _ k_214) (fun _ h9 => h9) rfl d_T_copy_2 ?_
  refine va_put (D := G.1) (ci := 10) (v := .int f_p1_length) (ty := .int) (C := n_T) (T := T_T) (N := 6) hx hb htl iw_T ty_T ty_T_ok nm_T hown hK hP hD hS 1 rfl rfl 0 (by decide) (htl _ k_214) (fun _ h9 => h9) rfl (by decide +kernel) rfl rfl (Nat.le_of_ble_eq_true rfl) d_T_copy_5 (fun H locs hP hD hS => ?_)
  have hP : va_P G.1 classes [(a_p1, O_T f_p1_length a_p1_bytes f_p1_kind f_p1_start f_p1_number f_p1_at), (h0, O_T f_p1_length a_bytes f_kind f_start f_number f_at), (a_p1_bytes, aI G 500 g_p1_bytes), (a_bytes, aI G 500 g_bytes)] H := hP
  have hD : va_D A [(a_p1, O_T f_p1_length a_p1_bytes f_p1_kind f_p1_start f_p1_number f_p1_at), (h0, O_T f_p1_length a_bytes f_kind f_start f_number f_at), (a_p1_bytes, aI G 500 g_p1_bytes), (a_bytes, aI G 500 g_bytes)] := hD
  refine lv_aload_n hx hb d_T_copy_8 rfl (lv_at hl 1 rfl) ?_
  refine va_get (D := G.1) (ci := 10) (v := .ref a_p1_bytes) (C := n_T) (T := T_T) (N := 6) hx hb htl iw_T hown hK hP 0 rfl rfl 1 (by decide) (htl _ k_216) (fun _ h9 => h9) rfl d_T_copy_9 ?_
  refine lv_iconst (v := (0 : Int32)) hx hb d_T_copy_12 (by decide) ?_
  refine lv_aload_n hx hb d_T_copy_13 rfl (lv_at hl 0 rfl) ?_
  refine va_get (D := G.1) (ci := 10) (v := .ref a_bytes) (C := n_T) (T := T_T) (N := 6) hx hb htl iw_T hown hK hP 1 rfl rfl 1 (by decide) (htl _ k_216) (fun _ h9 => h9) rfl d_T_copy_14 ?_
  refine lv_iconst (v := (0 : Int32)) hx hb d_T_copy_17 (by decide) ?_
  refine lv_sipush (v := (500 : Int32)) hx hb d_T_copy_18 (by decide) ?_
  refine nx_copy hx hb (hml.trans hl.1.symm) hown (htl _ k_1101) (htl _ k_725) (htl _ k_724) (htl _ k_110) hK hP hD hS 2 3 1 1 rfl rfl rfl rfl rfl (by decide) (by decide) (by decide) (by decide) (by decide) (fun _ _ => rfl) (Nat.le_of_ble_eq_true rfl) (Nat.le_of_ble_eq_true rfl) d_T_copy_21 (fun v1 ev1 H locs hP hD hS => ?_)
  have hf := dn_e ev1 hf
  have hP : va_P G.1 classes [(a_p1, O_T f_p1_length a_p1_bytes f_p1_kind f_p1_start f_p1_number f_p1_at), (h0, O_T f_p1_length a_bytes f_kind f_start f_number f_at), (a_p1_bytes, aI G 500 g_p1_bytes), (a_bytes, aI G 500 v1)] H := hP
  have hD : va_D A [(a_p1, O_T f_p1_length a_p1_bytes f_p1_kind f_p1_start f_p1_number f_p1_at), (h0, O_T f_p1_length a_bytes f_kind f_start f_number f_at), (a_p1_bytes, aI G 500 g_p1_bytes), (a_bytes, aI G 500 v1)] := hD
  cases hf
  exact hret 24 ls H locs hP hS d_T_copy_24
set_option maxHeartbeats 4000000 in
set_option maxRecDepth 100000 in
theorem c_U_copy (l : Launch) (G : va_G × (Nat → ClassId)) (Y : (Nat → Nat) × (Nat → Nat)) (h0 : Nat) (a_p1 : Nat) (a_p1_graph : Nat) (a_p1_plan : Nat) (a_p1_text : Nat) (a_graph : Nat) (a_plan : Nat) (a_text : Nat) (a_p1_graph_rows : Nat) (a_p1_graph_left : Nat) (a_p1_graph_right : Nat) (a_p1_graph_by : Nat) (a_p1_plan_set : Nat) (a_p1_plan_part : Nat) (a_p1_text_bytes : Nat) (a_graph_rows : Nat) (a_graph_left : Nat) (a_graph_right : Nat) (a_graph_by : Nat) (a_plan_set : Nat) (a_plan_part : Nat) (a_text_bytes : Nat) (f_p1_fault : Int32) (f_p1_place : Int32) (f_p1_kept : Int32) (f_fault : Int32) (f_place : Int32) (f_kept : Int32) (f_p1_graph_relations : Int32) (f_p1_graph_edges : Int32) (f_p1_graph_limit : Int32) (f_p1_plan_root : Int32) (f_p1_plan_joins : Int32) (f_p1_text_length : Int32) (f_p1_text_kind : Int32) (f_p1_text_start : Int32) (f_p1_text_number : Int32) (f_p1_text_at : Int32) (f_graph_relations : Int32) (f_graph_edges : Int32) (f_graph_limit : Int32) (f_plan_root : Int32) (f_plan_joins : Int32) (f_text_length : Int32) (f_text_kind : Int32) (f_text_start : Int32) (f_text_number : Int32) (f_text_at : Int32) (g_p1_graph_by : Nat → Int32) (g_p1_graph_left : Nat → Int32) (g_p1_graph_right : Nat → Int32) (g_p1_graph_rows : Nat → Int32) (g_p1_plan_part : Nat → Int32) (g_p1_plan_set : Nat → Int32) (g_p1_text_bytes : Nat → Int32) (g_graph_by : Nat → Int32) (g_graph_left : Nat → Int32) (g_graph_right : Nat → Int32) (g_graph_rows : Nat → Int32) (g_plan_part : Nat → Int32) (g_plan_set : Nat → Int32) (g_text_bytes : Nat → Int32) (res : Int32 × Int32 × Int32 × Int32 × Int32 × Int32 × Int32 × Int32 × (Nat → Int32) × (Nat → Int32) × (Nat → Int32) × (Nat → Int32) × (Nat → Int32) × (Nat → Int32) × (Nat → Int32)) (hf : U_copy f_p1_fault f_p1_place f_fault f_place f_p1_graph_relations f_p1_graph_edges f_p1_graph_limit f_p1_plan_root f_p1_plan_joins f_p1_text_length f_graph_relations f_graph_edges f_graph_limit f_plan_root f_plan_joins f_text_length g_p1_graph_by g_p1_graph_left g_p1_graph_right g_p1_graph_rows g_p1_plan_part g_p1_plan_set g_p1_text_bytes g_graph_by g_graph_left g_graph_right g_graph_rows g_plan_part g_plan_set g_text_bytes = some res) : Cv l classes y_U_copy b_U_copy 2 none (rmk 2) G.1 (tyL G) Y [.ref h0, .ref a_p1] [(a_p1, O_U a_p1_graph a_p1_plan a_p1_text f_p1_fault f_p1_place f_p1_kept), (h0, O_U a_graph a_plan a_text f_fault f_place f_kept), (a_p1_graph, O_G f_p1_graph_relations f_p1_graph_edges f_p1_graph_limit a_p1_graph_rows a_p1_graph_left a_p1_graph_right a_p1_graph_by), (a_p1_plan, O_P f_p1_plan_root f_p1_plan_joins a_p1_plan_set a_p1_plan_part), (a_p1_text, O_T f_p1_text_length a_p1_text_bytes f_p1_text_kind f_p1_text_start f_p1_text_number f_p1_text_at), (a_graph, O_G f_graph_relations f_graph_edges f_graph_limit a_graph_rows a_graph_left a_graph_right a_graph_by), (a_plan, O_P f_plan_root f_plan_joins a_plan_set a_plan_part), (a_text, O_T f_text_length a_text_bytes f_text_kind f_text_start f_text_number f_text_at), (a_p1_graph_by, aI G 16 g_p1_graph_by), (a_p1_graph_left, aI G 16 g_p1_graph_left), (a_p1_graph_right, aI G 16 g_p1_graph_right), (a_p1_graph_rows, aI G 8 g_p1_graph_rows), (a_p1_plan_part, aI G 7 g_p1_plan_part), (a_p1_plan_set, aI G 7 g_p1_plan_set), (a_p1_text_bytes, aI G 500 g_p1_text_bytes), (a_graph_by, aI G 16 g_graph_by), (a_graph_left, aI G 16 g_graph_left), (a_graph_right, aI G 16 g_graph_right), (a_graph_rows, aI G 8 g_graph_rows), (a_plan_part, aI G 7 g_plan_part), (a_plan_set, aI G 7 g_plan_set), (a_text_bytes, aI G 500 g_text_bytes)] [(a_p1, O_U a_p1_graph a_p1_plan a_p1_text f_p1_fault f_p1_place f_p1_kept), (h0, O_U a_graph a_plan a_text res.1 res.2.1 f_kept), (a_p1_graph, O_G f_p1_graph_relations f_p1_graph_edges f_p1_graph_limit a_p1_graph_rows a_p1_graph_left a_p1_graph_right a_p1_graph_by), (a_p1_plan, O_P f_p1_plan_root f_p1_plan_joins a_p1_plan_set a_p1_plan_part), (a_p1_text, O_T f_p1_text_length a_p1_text_bytes f_p1_text_kind f_p1_text_start f_p1_text_number f_p1_text_at), (a_graph, O_G res.2.2.1 res.2.2.2.1 res.2.2.2.2.1 a_graph_rows a_graph_left a_graph_right a_graph_by), (a_plan, O_P res.2.2.2.2.2.1 res.2.2.2.2.2.2.1 a_plan_set a_plan_part), (a_text, O_T res.2.2.2.2.2.2.2.1 a_text_bytes f_text_kind f_text_start f_text_number f_text_at), (a_p1_graph_by, aI G 16 g_p1_graph_by), (a_p1_graph_left, aI G 16 g_p1_graph_left), (a_p1_graph_right, aI G 16 g_p1_graph_right), (a_p1_graph_rows, aI G 8 g_p1_graph_rows), (a_p1_plan_part, aI G 7 g_p1_plan_part), (a_p1_plan_set, aI G 7 g_p1_plan_set), (a_p1_text_bytes, aI G 500 g_p1_text_bytes), (a_graph_by, aI G 16 res.2.2.2.2.2.2.2.2.1), (a_graph_left, aI G 16 res.2.2.2.2.2.2.2.2.2.1), (a_graph_right, aI G 16 res.2.2.2.2.2.2.2.2.2.2.1), (a_graph_rows, aI G 8 res.2.2.2.2.2.2.2.2.2.2.2.1), (a_plan_part, aI G 7 res.2.2.2.2.2.2.2.2.2.2.2.2.1), (a_plan_set, aI G 7 res.2.2.2.2.2.2.2.2.2.2.2.2.2.1), (a_text_bytes, aI G 500 res.2.2.2.2.2.2.2.2.2.2.2.2.2.2)] := by
  refine entV (by decide) (Nat.le_of_ble_eq_true rfl) ?_
  intro p e s m args below meth c ls A Q hx hb hml hown htl hK hsk wq hl hret
  obtain ⟨hP, hD, hS⟩ := wq
  have hl : lv_has ls 2 [(0, .ref h0), (1, .ref a_p1)] := hl
  have hS : va_S A s.heap s.heap [] := hS
  obtain ⟨H, hH⟩ : ∃ H : Heap, H = s.heap := ⟨_, rfl⟩
  obtain ⟨locs, hlocs⟩ : ∃ z : List Loc, z = [] := ⟨_, rfl⟩
  rw [← hH] at hP
  replace hS : va_S A s.heap H locs := by rw [hH, hlocs]; exact hS
  suffices hgo : W p l e (rmk 2) s m args below meth c H locs 0 0 Q (F0 m 0 ls []) by rw [hH, hlocs] at hgo; exact hgo
  refine lv_aload_n hx hb d_U_copy_0 rfl (lv_at hl 0 rfl) ?_
  refine va_get (D := G.1) (ci := 9) (v := .ref a_graph) (C := n_U) (T := T_U) (N := 6) hx hb htl iw_U hown hK hP 1 rfl rfl 0 (by decide) (htl _ k_240) (fun _ h9 => h9) rfl d_U_copy_1 ?_
  refine lv_aload_n hx hb d_U_copy_4 rfl (lv_at hl 1 rfl) ?_
  refine va_get (D := G.1) (ci := 9) (v := .ref a_p1_graph) (C := n_U) (T := T_U) (N := 6) hx hb htl iw_U hown hK hP 0 rfl rfl 0 (by decide) (htl _ k_240) (fun _ h9 => h9) rfl d_U_copy_5 ?_
  obtain ⟨t1, hv2, hf⟩ := db_e hf
  refine call_v (isC := [2, 5, 8, 9, 10, 11, 15, 16, 17, 18]) (run_V (As := [.ref a_p1_graph]) (rest := []) (ci := 1) (q0 := 5) hx hb hml hown htl (c_G_copy l G Y  a_graph a_p1_graph a_p1_graph_rows a_p1_graph_left a_p1_graph_right a_p1_graph_by a_graph_rows a_graph_left a_graph_right a_graph_by f_p1_graph_relations f_p1_graph_edges f_p1_graph_limit f_graph_relations f_graph_edges f_graph_limit g_p1_graph_by g_p1_graph_left g_p1_graph_right g_p1_graph_rows g_graph_by g_graph_left g_graph_right g_graph_rows t1 hv2) mv_G_copy k_1095 (hRk (by decide) (by decide)) hK hsk hS hP hD (isC := [2, 5, 8, 9, 10, 11, 15, 16, 17, 18]) rfl (by decide) rfl rfl rfl hl.1 rfl (lv_room (Nat.le_of_ble_eq_true rfl)) d_U_copy_8) hP hD hS rfl rfl (fun H locs hP hD hS => ?_)
  have hP : va_P G.1 classes [(a_p1, O_U a_p1_graph a_p1_plan a_p1_text f_p1_fault f_p1_place f_p1_kept), (h0, O_U a_graph a_plan a_text f_fault f_place f_kept), (a_p1_graph, O_G f_p1_graph_relations f_p1_graph_edges f_p1_graph_limit a_p1_graph_rows a_p1_graph_left a_p1_graph_right a_p1_graph_by), (a_p1_plan, O_P f_p1_plan_root f_p1_plan_joins a_p1_plan_set a_p1_plan_part), (a_p1_text, O_T f_p1_text_length a_p1_text_bytes f_p1_text_kind f_p1_text_start f_p1_text_number f_p1_text_at), (a_graph, O_G t1.1 t1.2.1 t1.2.2.1 a_graph_rows a_graph_left a_graph_right a_graph_by), (a_plan, O_P f_plan_root f_plan_joins a_plan_set a_plan_part), (a_text, O_T f_text_length a_text_bytes f_text_kind f_text_start f_text_number f_text_at), (a_p1_graph_by, aI G 16 g_p1_graph_by), (a_p1_graph_left, aI G 16 g_p1_graph_left), (a_p1_graph_right, aI G 16 g_p1_graph_right), (a_p1_graph_rows, aI G 8 g_p1_graph_rows), (a_p1_plan_part, aI G 7 g_p1_plan_part), (a_p1_plan_set, aI G 7 g_p1_plan_set), (a_p1_text_bytes, aI G 500 g_p1_text_bytes), (a_graph_by, aI G 16 t1.2.2.2.1), (a_graph_left, aI G 16 t1.2.2.2.2.1), (a_graph_right, aI G 16 t1.2.2.2.2.2.1), (a_graph_rows, aI G 8 t1.2.2.2.2.2.2), (a_plan_part, aI G 7 g_plan_part), (a_plan_set, aI G 7 g_plan_set), (a_text_bytes, aI G 500 g_text_bytes)] H := hP
  have hD : va_D A [(a_p1, O_U a_p1_graph a_p1_plan a_p1_text f_p1_fault f_p1_place f_p1_kept), (h0, O_U a_graph a_plan a_text f_fault f_place f_kept), (a_p1_graph, O_G f_p1_graph_relations f_p1_graph_edges f_p1_graph_limit a_p1_graph_rows a_p1_graph_left a_p1_graph_right a_p1_graph_by), (a_p1_plan, O_P f_p1_plan_root f_p1_plan_joins a_p1_plan_set a_p1_plan_part), (a_p1_text, O_T f_p1_text_length a_p1_text_bytes f_p1_text_kind f_p1_text_start f_p1_text_number f_p1_text_at), (a_graph, O_G t1.1 t1.2.1 t1.2.2.1 a_graph_rows a_graph_left a_graph_right a_graph_by), (a_plan, O_P f_plan_root f_plan_joins a_plan_set a_plan_part), (a_text, O_T f_text_length a_text_bytes f_text_kind f_text_start f_text_number f_text_at), (a_p1_graph_by, aI G 16 g_p1_graph_by), (a_p1_graph_left, aI G 16 g_p1_graph_left), (a_p1_graph_right, aI G 16 g_p1_graph_right), (a_p1_graph_rows, aI G 8 g_p1_graph_rows), (a_p1_plan_part, aI G 7 g_p1_plan_part), (a_p1_plan_set, aI G 7 g_p1_plan_set), (a_p1_text_bytes, aI G 500 g_p1_text_bytes), (a_graph_by, aI G 16 t1.2.2.2.1), (a_graph_left, aI G 16 t1.2.2.2.2.1), (a_graph_right, aI G 16 t1.2.2.2.2.2.1), (a_graph_rows, aI G 8 t1.2.2.2.2.2.2), (a_plan_part, aI G 7 g_plan_part), (a_plan_set, aI G 7 g_plan_set), (a_text_bytes, aI G 500 g_text_bytes)] := hD
  refine lv_aload_n hx hb d_U_copy_11 rfl (lv_at hl 0 rfl) ?_
  refine va_get (D := G.1) (ci := 9) (v := .ref a_plan) (C := n_U) (T := T_U) (N := 6) hx hb htl iw_U hown hK hP 1 rfl rfl 1 (by decide) (htl _ k_242) (fun _ h9 => h9) rfl d_U_copy_12 ?_
  refine lv_aload_n hx hb d_U_copy_15 rfl (lv_at hl 1 rfl) ?_
  refine va_get (D := G.1) (ci := 9) (v := .ref a_p1_plan) (C := n_U) (T := T_U) (N := 6) hx hb htl iw_U hown hK hP 0 rfl rfl 1 (by decide) (htl _ k_242) (fun _ h9 => h9) rfl d_U_copy_16 ?_
  obtain ⟨t3, hv4, hf⟩ := db_e hf
  refine call_v (isC := [3, 6, 12, 13, 19, 20]) (run_V (As := [.ref a_p1_plan]) (rest := []) (ci := 4) (q0 := 6) hx hb hml hown htl (c_P_copy l G Y  a_plan a_p1_plan a_p1_plan_set a_p1_plan_part a_plan_set a_plan_part f_p1_plan_root f_p1_plan_joins f_plan_root f_plan_joins g_p1_plan_part g_p1_plan_set g_plan_part g_plan_set t3 hv4) mv_P_copy k_1096 (hRk (by decide) (by decide)) hK hsk hS hP hD (isC := [3, 6, 12, 13, 19, 20]) rfl (by decide) rfl rfl rfl hl.1 rfl (lv_room (Nat.le_of_ble_eq_true rfl)) d_U_copy_19) hP hD hS rfl rfl (fun H locs hP hD hS => ?_)
  have hP : va_P G.1 classes [(a_p1, O_U a_p1_graph a_p1_plan a_p1_text f_p1_fault f_p1_place f_p1_kept), (h0, O_U a_graph a_plan a_text f_fault f_place f_kept), (a_p1_graph, O_G f_p1_graph_relations f_p1_graph_edges f_p1_graph_limit a_p1_graph_rows a_p1_graph_left a_p1_graph_right a_p1_graph_by), (a_p1_plan, O_P f_p1_plan_root f_p1_plan_joins a_p1_plan_set a_p1_plan_part), (a_p1_text, O_T f_p1_text_length a_p1_text_bytes f_p1_text_kind f_p1_text_start f_p1_text_number f_p1_text_at), (a_graph, O_G t1.1 t1.2.1 t1.2.2.1 a_graph_rows a_graph_left a_graph_right a_graph_by), (a_plan, O_P t3.1 t3.2.1 a_plan_set a_plan_part), (a_text, O_T f_text_length a_text_bytes f_text_kind f_text_start f_text_number f_text_at), (a_p1_graph_by, aI G 16 g_p1_graph_by), (a_p1_graph_left, aI G 16 g_p1_graph_left), (a_p1_graph_right, aI G 16 g_p1_graph_right), (a_p1_graph_rows, aI G 8 g_p1_graph_rows), (a_p1_plan_part, aI G 7 g_p1_plan_part), (a_p1_plan_set, aI G 7 g_p1_plan_set), (a_p1_text_bytes, aI G 500 g_p1_text_bytes), (a_graph_by, aI G 16 t1.2.2.2.1), (a_graph_left, aI G 16 t1.2.2.2.2.1), (a_graph_right, aI G 16 t1.2.2.2.2.2.1), (a_graph_rows, aI G 8 t1.2.2.2.2.2.2), (a_plan_part, aI G 7 t3.2.2.1), (a_plan_set, aI G 7 t3.2.2.2), (a_text_bytes, aI G 500 g_text_bytes)] H := hP
  have hD : va_D A [(a_p1, O_U a_p1_graph a_p1_plan a_p1_text f_p1_fault f_p1_place f_p1_kept), (h0, O_U a_graph a_plan a_text f_fault f_place f_kept), (a_p1_graph, O_G f_p1_graph_relations f_p1_graph_edges f_p1_graph_limit a_p1_graph_rows a_p1_graph_left a_p1_graph_right a_p1_graph_by), (a_p1_plan, O_P f_p1_plan_root f_p1_plan_joins a_p1_plan_set a_p1_plan_part), (a_p1_text, O_T f_p1_text_length a_p1_text_bytes f_p1_text_kind f_p1_text_start f_p1_text_number f_p1_text_at), (a_graph, O_G t1.1 t1.2.1 t1.2.2.1 a_graph_rows a_graph_left a_graph_right a_graph_by), (a_plan, O_P t3.1 t3.2.1 a_plan_set a_plan_part), (a_text, O_T f_text_length a_text_bytes f_text_kind f_text_start f_text_number f_text_at), (a_p1_graph_by, aI G 16 g_p1_graph_by), (a_p1_graph_left, aI G 16 g_p1_graph_left), (a_p1_graph_right, aI G 16 g_p1_graph_right), (a_p1_graph_rows, aI G 8 g_p1_graph_rows), (a_p1_plan_part, aI G 7 g_p1_plan_part), (a_p1_plan_set, aI G 7 g_p1_plan_set), (a_p1_text_bytes, aI G 500 g_p1_text_bytes), (a_graph_by, aI G 16 t1.2.2.2.1), (a_graph_left, aI G 16 t1.2.2.2.2.1), (a_graph_right, aI G 16 t1.2.2.2.2.2.1), (a_graph_rows, aI G 8 t1.2.2.2.2.2.2), (a_plan_part, aI G 7 t3.2.2.1), (a_plan_set, aI G 7 t3.2.2.2), (a_text_bytes, aI G 500 g_text_bytes)] := hD
  refine lv_aload_n hx hb d_U_copy_22 rfl (lv_at hl 0 rfl) ?_
  refine va_get (D := G.1) (ci := 9) (v := .ref a_text) (C := n_U) (T := T_U) (N := 6) hx hb htl iw_U hown hK hP 1 rfl rfl 2 (by decide) (htl _ k_244) (fun _ h9 => h9) rfl d_U_copy_23 ?_
  refine lv_aload_n hx hb d_U_copy_26 rfl (lv_at hl 1 rfl) ?_
  refine va_get (D := G.1) (ci := 9) (v := .ref a_p1_text) (C := n_U) (T := T_U) (N := 6) hx hb htl iw_U hown hK hP 0 rfl rfl 2 (by decide) (htl _ k_244) (fun _ h9 => h9) rfl d_U_copy_27 ?_
  obtain ⟨t5, hv6, hf⟩ := db_e hf
  refine call_v (isC := [4, 7, 14, 21]) (run_V (As := [.ref a_p1_text]) (rest := []) (ci := 10) (q0 := 7) hx hb hml hown htl (c_T_copy l G Y  a_text a_p1_text a_p1_text_bytes a_text_bytes f_p1_text_length f_p1_text_kind f_p1_text_start f_p1_text_number f_p1_text_at f_text_length f_text_kind f_text_start f_text_number f_text_at g_p1_text_bytes g_text_bytes t5 hv6) mv_T_copy k_1097 (hRk (by decide) (by decide)) hK hsk hS hP hD (isC := [4, 7, 14, 21]) rfl (by decide) rfl rfl rfl hl.1 rfl (lv_room (Nat.le_of_ble_eq_true rfl)) d_U_copy_30) hP hD hS rfl rfl (fun H locs hP hD hS => ?_)
  have hP : va_P G.1 classes [(a_p1, O_U a_p1_graph a_p1_plan a_p1_text f_p1_fault f_p1_place f_p1_kept), (h0, O_U a_graph a_plan a_text f_fault f_place f_kept), (a_p1_graph, O_G f_p1_graph_relations f_p1_graph_edges f_p1_graph_limit a_p1_graph_rows a_p1_graph_left a_p1_graph_right a_p1_graph_by), (a_p1_plan, O_P f_p1_plan_root f_p1_plan_joins a_p1_plan_set a_p1_plan_part), (a_p1_text, O_T f_p1_text_length a_p1_text_bytes f_p1_text_kind f_p1_text_start f_p1_text_number f_p1_text_at), (a_graph, O_G t1.1 t1.2.1 t1.2.2.1 a_graph_rows a_graph_left a_graph_right a_graph_by), (a_plan, O_P t3.1 t3.2.1 a_plan_set a_plan_part), (a_text, O_T t5.1 a_text_bytes f_text_kind f_text_start f_text_number f_text_at), (a_p1_graph_by, aI G 16 g_p1_graph_by), (a_p1_graph_left, aI G 16 g_p1_graph_left), (a_p1_graph_right, aI G 16 g_p1_graph_right), (a_p1_graph_rows, aI G 8 g_p1_graph_rows), (a_p1_plan_part, aI G 7 g_p1_plan_part), (a_p1_plan_set, aI G 7 g_p1_plan_set), (a_p1_text_bytes, aI G 500 g_p1_text_bytes), (a_graph_by, aI G 16 t1.2.2.2.1), (a_graph_left, aI G 16 t1.2.2.2.2.1), (a_graph_right, aI G 16 t1.2.2.2.2.2.1), (a_graph_rows, aI G 8 t1.2.2.2.2.2.2), (a_plan_part, aI G 7 t3.2.2.1), (a_plan_set, aI G 7 t3.2.2.2), (a_text_bytes, aI G 500 t5.2)] H := hP
  have hD : va_D A [(a_p1, O_U a_p1_graph a_p1_plan a_p1_text f_p1_fault f_p1_place f_p1_kept), (h0, O_U a_graph a_plan a_text f_fault f_place f_kept), (a_p1_graph, O_G f_p1_graph_relations f_p1_graph_edges f_p1_graph_limit a_p1_graph_rows a_p1_graph_left a_p1_graph_right a_p1_graph_by), (a_p1_plan, O_P f_p1_plan_root f_p1_plan_joins a_p1_plan_set a_p1_plan_part), (a_p1_text, O_T f_p1_text_length a_p1_text_bytes f_p1_text_kind f_p1_text_start f_p1_text_number f_p1_text_at), (a_graph, O_G t1.1 t1.2.1 t1.2.2.1 a_graph_rows a_graph_left a_graph_right a_graph_by), (a_plan, O_P t3.1 t3.2.1 a_plan_set a_plan_part), (a_text, O_T t5.1 a_text_bytes f_text_kind f_text_start f_text_number f_text_at), (a_p1_graph_by, aI G 16 g_p1_graph_by), (a_p1_graph_left, aI G 16 g_p1_graph_left), (a_p1_graph_right, aI G 16 g_p1_graph_right), (a_p1_graph_rows, aI G 8 g_p1_graph_rows), (a_p1_plan_part, aI G 7 g_p1_plan_part), (a_p1_plan_set, aI G 7 g_p1_plan_set), (a_p1_text_bytes, aI G 500 g_p1_text_bytes), (a_graph_by, aI G 16 t1.2.2.2.1), (a_graph_left, aI G 16 t1.2.2.2.2.1), (a_graph_right, aI G 16 t1.2.2.2.2.2.1), (a_graph_rows, aI G 8 t1.2.2.2.2.2.2), (a_plan_part, aI G 7 t3.2.2.1), (a_plan_set, aI G 7 t3.2.2.2), (a_text_bytes, aI G 500 t5.2)] := hD
  refine lv_aload_n hx hb d_U_copy_33 rfl (lv_at hl 0 rfl) ?_
  refine lv_aload_n hx hb d_U_copy_34 rfl (lv_at hl 1 rfl) ?_
  refine va_get (D := G.1) (ci := 9) (v := .int f_p1_fault) (C := n_U) (T := T_U) (N := 6) hx hb htl iw_U hown hK hP 0 rfl rfl 3 (by decide) (htl _ k_246) (fun _ h9 => h9) rfl d_U_copy_35 ?_
  refine va_put (D := G.1) (ci := 9) (v := .int f_p1_fault) (ty := .int) (C := n_U) (T := T_U) (N := 6) hx hb htl iw_U ty_U ty_U_ok nm_U hown hK hP hD hS 1 rfl rfl 3 (by decide) (htl _ k_246) (fun _ h9 => h9) rfl (by decide +kernel) rfl rfl (Nat.le_of_ble_eq_true rfl) d_U_copy_38 (fun H locs hP hD hS => ?_)
  have hP : va_P G.1 classes [(a_p1, O_U a_p1_graph a_p1_plan a_p1_text f_p1_fault f_p1_place f_p1_kept), (h0, O_U a_graph a_plan a_text f_p1_fault f_place f_kept), (a_p1_graph, O_G f_p1_graph_relations f_p1_graph_edges f_p1_graph_limit a_p1_graph_rows a_p1_graph_left a_p1_graph_right a_p1_graph_by), (a_p1_plan, O_P f_p1_plan_root f_p1_plan_joins a_p1_plan_set a_p1_plan_part), (a_p1_text, O_T f_p1_text_length a_p1_text_bytes f_p1_text_kind f_p1_text_start f_p1_text_number f_p1_text_at), (a_graph, O_G t1.1 t1.2.1 t1.2.2.1 a_graph_rows a_graph_left a_graph_right a_graph_by), (a_plan, O_P t3.1 t3.2.1 a_plan_set a_plan_part), (a_text, O_T t5.1 a_text_bytes f_text_kind f_text_start f_text_number f_text_at), (a_p1_graph_by, aI G 16 g_p1_graph_by), (a_p1_graph_left, aI G 16 g_p1_graph_left), (a_p1_graph_right, aI G 16 g_p1_graph_right), (a_p1_graph_rows, aI G 8 g_p1_graph_rows), (a_p1_plan_part, aI G 7 g_p1_plan_part), (a_p1_plan_set, aI G 7 g_p1_plan_set), (a_p1_text_bytes, aI G 500 g_p1_text_bytes), (a_graph_by, aI G 16 t1.2.2.2.1), (a_graph_left, aI G 16 t1.2.2.2.2.1), (a_graph_right, aI G 16 t1.2.2.2.2.2.1), (a_graph_rows, aI G 8 t1.2.2.2.2.2.2), (a_plan_part, aI G 7 t3.2.2.1), (a_plan_set, aI G 7 t3.2.2.2), (a_text_bytes, aI G 500 t5.2)] H := hP
  have hD : va_D A [(a_p1, O_U a_p1_graph a_p1_plan a_p1_text f_p1_fault f_p1_place f_p1_kept), (h0, O_U a_graph a_plan a_text f_p1_fault f_place f_kept), (a_p1_graph, O_G f_p1_graph_relations f_p1_graph_edges f_p1_graph_limit a_p1_graph_rows a_p1_graph_left a_p1_graph_right a_p1_graph_by), (a_p1_plan, O_P f_p1_plan_root f_p1_plan_joins a_p1_plan_set a_p1_plan_part), (a_p1_text, O_T f_p1_text_length a_p1_text_bytes f_p1_text_kind f_p1_text_start f_p1_text_number f_p1_text_at), (a_graph, O_G t1.1 t1.2.1 t1.2.2.1 a_graph_rows a_graph_left a_graph_right a_graph_by), (a_plan, O_P t3.1 t3.2.1 a_plan_set a_plan_part), (a_text, O_T t5.1 a_text_bytes f_text_kind f_text_start f_text_number f_text_at), (a_p1_graph_by, aI G 16 g_p1_graph_by), (a_p1_graph_left, aI G 16 g_p1_graph_left), (a_p1_graph_right, aI G 16 g_p1_graph_right), (a_p1_graph_rows, aI G 8 g_p1_graph_rows), (a_p1_plan_part, aI G 7 g_p1_plan_part), (a_p1_plan_set, aI G 7 g_p1_plan_set), (a_p1_text_bytes, aI G 500 g_p1_text_bytes), (a_graph_by, aI G 16 t1.2.2.2.1), (a_graph_left, aI G 16 t1.2.2.2.2.1), (a_graph_right, aI G 16 t1.2.2.2.2.2.1), (a_graph_rows, aI G 8 t1.2.2.2.2.2.2), (a_plan_part, aI G 7 t3.2.2.1), (a_plan_set, aI G 7 t3.2.2.2), (a_text_bytes, aI G 500 t5.2)] := hD
  refine lv_aload_n hx hb d_U_copy_41 rfl (lv_at hl 0 rfl) ?_
  refine lv_aload_n hx hb d_U_copy_42 rfl (lv_at hl 1 rfl) ?_
  refine va_get (D := G.1) (ci := 9) (v := .int f_p1_place) (C := n_U) (T := T_U) (N := 6) hx hb htl iw_U hown hK hP 0 rfl rfl 4 (by decide) (htl _ k_248) (fun _ h9 => h9) rfl d_U_copy_43 ?_
  refine va_put (D := G.1) (ci := 9) (v := .int f_p1_place) (ty := .int) (C := n_U) (T := T_U) (N := 6) hx hb htl iw_U ty_U ty_U_ok nm_U hown hK hP hD hS 1 rfl rfl 4 (by decide) (htl _ k_248) (fun _ h9 => h9) rfl (by decide +kernel) rfl rfl (Nat.le_of_ble_eq_true rfl) d_U_copy_46 (fun H locs hP hD hS => ?_)
  have hP : va_P G.1 classes [(a_p1, O_U a_p1_graph a_p1_plan a_p1_text f_p1_fault f_p1_place f_p1_kept), (h0, O_U a_graph a_plan a_text f_p1_fault f_p1_place f_kept), (a_p1_graph, O_G f_p1_graph_relations f_p1_graph_edges f_p1_graph_limit a_p1_graph_rows a_p1_graph_left a_p1_graph_right a_p1_graph_by), (a_p1_plan, O_P f_p1_plan_root f_p1_plan_joins a_p1_plan_set a_p1_plan_part), (a_p1_text, O_T f_p1_text_length a_p1_text_bytes f_p1_text_kind f_p1_text_start f_p1_text_number f_p1_text_at), (a_graph, O_G t1.1 t1.2.1 t1.2.2.1 a_graph_rows a_graph_left a_graph_right a_graph_by), (a_plan, O_P t3.1 t3.2.1 a_plan_set a_plan_part), (a_text, O_T t5.1 a_text_bytes f_text_kind f_text_start f_text_number f_text_at), (a_p1_graph_by, aI G 16 g_p1_graph_by), (a_p1_graph_left, aI G 16 g_p1_graph_left), (a_p1_graph_right, aI G 16 g_p1_graph_right), (a_p1_graph_rows, aI G 8 g_p1_graph_rows), (a_p1_plan_part, aI G 7 g_p1_plan_part), (a_p1_plan_set, aI G 7 g_p1_plan_set), (a_p1_text_bytes, aI G 500 g_p1_text_bytes), (a_graph_by, aI G 16 t1.2.2.2.1), (a_graph_left, aI G 16 t1.2.2.2.2.1), (a_graph_right, aI G 16 t1.2.2.2.2.2.1), (a_graph_rows, aI G 8 t1.2.2.2.2.2.2), (a_plan_part, aI G 7 t3.2.2.1), (a_plan_set, aI G 7 t3.2.2.2), (a_text_bytes, aI G 500 t5.2)] H := hP
  have hD : va_D A [(a_p1, O_U a_p1_graph a_p1_plan a_p1_text f_p1_fault f_p1_place f_p1_kept), (h0, O_U a_graph a_plan a_text f_p1_fault f_p1_place f_kept), (a_p1_graph, O_G f_p1_graph_relations f_p1_graph_edges f_p1_graph_limit a_p1_graph_rows a_p1_graph_left a_p1_graph_right a_p1_graph_by), (a_p1_plan, O_P f_p1_plan_root f_p1_plan_joins a_p1_plan_set a_p1_plan_part), (a_p1_text, O_T f_p1_text_length a_p1_text_bytes f_p1_text_kind f_p1_text_start f_p1_text_number f_p1_text_at), (a_graph, O_G t1.1 t1.2.1 t1.2.2.1 a_graph_rows a_graph_left a_graph_right a_graph_by), (a_plan, O_P t3.1 t3.2.1 a_plan_set a_plan_part), (a_text, O_T t5.1 a_text_bytes f_text_kind f_text_start f_text_number f_text_at), (a_p1_graph_by, aI G 16 g_p1_graph_by), (a_p1_graph_left, aI G 16 g_p1_graph_left), (a_p1_graph_right, aI G 16 g_p1_graph_right), (a_p1_graph_rows, aI G 8 g_p1_graph_rows), (a_p1_plan_part, aI G 7 g_p1_plan_part), (a_p1_plan_set, aI G 7 g_p1_plan_set), (a_p1_text_bytes, aI G 500 g_p1_text_bytes), (a_graph_by, aI G 16 t1.2.2.2.1), (a_graph_left, aI G 16 t1.2.2.2.2.1), (a_graph_right, aI G 16 t1.2.2.2.2.2.1), (a_graph_rows, aI G 8 t1.2.2.2.2.2.2), (a_plan_part, aI G 7 t3.2.2.1), (a_plan_set, aI G 7 t3.2.2.2), (a_text_bytes, aI G 500 t5.2)] := hD
  cases hf
  exact hret 49 ls H locs hP hS d_U_copy_49
set_option maxHeartbeats 4000000 in
set_option maxRecDepth 100000 in
theorem c_T_byteOf (l : Launch) (G : va_G × (Nat → ClassId)) (Y : (Nat → Nat) × (Nat → Nat)) (x0 : Int64) (x2 : Int32) (res : Int32) (hf : T_byteOf x0 x2 = res) : Ci l classes y_T_byteOf b_T_byteOf 3 (some .int) (rmk 0) G.1 (tyL G) Y [.long x0, .int x2] [] [] res := by
  refine entI (by decide) (Nat.le_of_ble_eq_true rfl) ?_
  intro p e s m args below meth c ls A Q hx hb hml hown htl hK hsk wq hl hret
  obtain ⟨hP, hD, hS⟩ := wq
  have hl : lv_has ls 3 [(0, .long x0), (2, .int x2)] := hl
  have hS : va_S A s.heap s.heap [] := hS
  obtain ⟨H, hH⟩ : ∃ H : Heap, H = s.heap := ⟨_, rfl⟩
  obtain ⟨locs, hlocs⟩ : ∃ z : List Loc, z = [] := ⟨_, rfl⟩
  rw [← hH] at hP
  replace hS : va_S A s.heap H locs := by rw [hH, hlocs]; exact hS
  suffices hgo : W p l e (rmk 0) s m args below meth c H locs 0 0 Q (F0 m 0 ls []) by rw [hH, hlocs] at hgo; exact hgo
  refine lv_lload_n hx hb d_T_byteOf_0 rfl (lv_at hl 0 rfl) ?_
  refine lv_bipush (v := (56 : Int32)) hx hb d_T_byteOf_1 (by decide) ?_
  refine lv_bipush (v := (8 : Int32)) hx hb d_T_byteOf_3 (by decide) ?_
  refine lv_iload_n hx hb d_T_byteOf_5 rfl (lv_at hl 1 rfl) ?_
  refine lv_imul hx hb d_T_byteOf_6 ?_
  refine lv_isub hx hb d_T_byteOf_7 ?_
  refine lv_lushr hx hb d_T_byteOf_8 rfl ?_
  refine lv_l2i hx hb d_T_byteOf_9 rfl ?_
  refine lv_sipush (v := (255 : Int32)) hx hb d_T_byteOf_10 (by decide) ?_
  refine lv_iand hx hb d_T_byteOf_13 ?_
  cases hf
  exact hret 14 ls H locs hP hS d_T_byteOf_14
set_option maxHeartbeats 4000000 in
set_option maxRecDepth 100000 in
theorem c_T_append (l : Launch) (G : va_G × (Nat → ClassId)) (Y : (Nat → Nat) × (Nat → Nat)) (h0 : Nat) (a_bytes : Nat) (f_length : Int32) (f_kind : Int32) (f_start : Int32) (f_number : Int32) (f_at : Int32) (g_bytes : Nat → Int32) (x1 : Int64) (N : Nat) (res : Int32 × Int32 × (Nat → Int32)) (hf : T_append N f_length g_bytes x1 = some res) : Ci l classes y_T_append b_T_append 5 (some .boolean) (rmk 1) G.1 (tyL G) Y [.ref h0, .long x1] [(h0, O_T f_length a_bytes f_kind f_start f_number f_at), (a_bytes, aI G 500 g_bytes)] [(h0, O_T res.2.1 a_bytes f_kind f_start f_number f_at), (a_bytes, aI G 500 res.2.2)] res.1 := by
  refine entZ (by decide) (Nat.le_of_ble_eq_true rfl) ?_
  intro p e s m args below meth c ls A Q hx hb hml hown htl hK hsk wq hl hret
  obtain ⟨hP, hD, hS⟩ := wq
  have hl : lv_has ls 5 [(0, .ref h0), (1, .long x1)] := hl
  have hS : va_S A s.heap s.heap [] := hS
  obtain ⟨H, hH⟩ : ∃ H : Heap, H = s.heap := ⟨_, rfl⟩
  obtain ⟨locs, hlocs⟩ : ∃ z : List Loc, z = [] := ⟨_, rfl⟩
  rw [← hH] at hP
  replace hS : va_S A s.heap H locs := by rw [hH, hlocs]; exact hS
  suffices hgo : W p l e (rmk 1) s m args below meth c H locs 0 0 Q (F0 m 0 ls []) by rw [hH, hlocs] at hgo; exact hgo
  have hJ76 : ∀ (f_length : Int32) (g_bytes : Nat → Int32) (H : Heap) (locs : List Loc) (ls : Array Slot), PDS G.1 classes A s [(h0, O_T f_length a_bytes f_kind f_start f_number f_at), (a_bytes, aI G 500 g_bytes)] H locs → lv_has ls 5 [] → T_append_76 N f_length g_bytes = some res → W p l e (rmk 1) s m args below meth c H locs 0 0 Q (F0 m 76 ls []) := by
    intro f_length g_bytes H locs ls wq hl hf
    obtain ⟨hP, hD, hS⟩ := wq
    refine lv_iconst (v := (1 : Int32)) hx hb d_T_append_76 (by decide) ?_
    cases hf
    exact hret 77 ls H locs z_1 hP hS d_T_append_77
  have hJ39 : ∀ (f_length : Int32) (g_bytes : Nat → Int32) (x3 : Int32) (x4 : Int32) (H : Heap) (locs : List Loc) (ls : Array Slot), PDS G.1 classes A s [(h0, O_T f_length a_bytes f_kind f_start f_number f_at), (a_bytes, aI G 500 g_bytes)] H locs → lv_has ls 5 [(0, .ref h0), (1, .long x1), (3, .int x3), (4, .int x4)] → T_append_39 N f_length g_bytes x1 x3 x4 = some res → W p l e (rmk 1) s m args below meth c H locs 0 0 Q (F0 m 39 ls []) := by
    intro f_length g_bytes x3 x4 H locs ls wq hl hf
    obtain ⟨hP, hD, hS⟩ := wq
    obtain ⟨y39, hy39, hfo39⟩ := db_e hf
    have hL39 : ∀ (n : Nat) (f_length : Int32) (g_bytes : Nat → Int32) (x4 : Int32) (H : Heap) (locs : List Loc) (ls : Array Slot), lp (fun x => T_append_b39 N x.1 x.2.1 x1 x3 x.2.2) n (f_length, g_bytes, x4) = some y39 → PDS G.1 classes A s [(h0, O_T f_length a_bytes f_kind f_start f_number f_at), (a_bytes, aI G 500 g_bytes)] H locs → lv_has ls 5 [(0, .ref h0), (1, .long x1), (3, .int x3), (4, .int x4)] → W p l e (rmk 1) s m args below meth c H locs 0 0 Q (F0 m 39 ls []) := by
      intro n
      induction n with
      | zero =>
        intro f_length g_bytes x4 H locs ls hf
        exact lp_0 hf
      | succ n ih39 =>
        intro f_length g_bytes x4 H locs ls hf wq hl
        obtain ⟨hP, hD, hS⟩ := wq
        obtain ⟨r39, hf, hk39⟩ := lp_s hf
        have hf : T_append_b39 N f_length g_bytes x1 x3 x4 = some r39 := hf
        refine lv_iload hx hb d_T_append_39 (lv_at hl 3 rfl) ?_
        refine lv_iload_n hx hb d_T_append_41 rfl (lv_at hl 2 rfl) ?_
        refine lv_icmp_ge (tgt := 76) hx hb d_T_append_42 (by decide) (fun c5 => ?_) (fun c5 => ?_)
        · have hf := di_t c5 hf
          have hq39 := lpk_x hf hk39
          have hf := ex_y (f := fun y => T_append_a39 N x1 x3 y) hq39 hfo39
          have hf : T_append_76 N f_length g_bytes = some res := hf
          exact hJ76 f_length g_bytes H locs ls ⟨hP, hD, hS⟩ (lv_sub hl [] rfl) hf
        · have hf := di_f c5 hf
          refine lv_aload_n hx hb d_T_append_45 rfl (lv_at hl 0 rfl) ?_
          refine va_get (D := G.1) (ci := 10) (v := .ref a_bytes) (C := n_T) (T := T_T) (N := 6) hx hb htl iw_T hown hK hP 0 rfl rfl 1 (by decide) (htl _ k_216) (fun _ h9 => h9) rfl d_T_append_46 ?_
          refine lv_aload_n hx hb d_T_append_49 rfl (lv_at hl 0 rfl) ?_
          refine va_get (D := G.1) (ci := 10) (v := .int f_length) (C := n_T) (T := T_T) (N := 6) hx hb htl iw_T hown hK hP 0 rfl rfl 0 (by decide) (htl _ k_214) (fun _ h9 => h9) rfl d_T_append_50 ?_
          refine lv_lload_n hx hb d_T_append_53 rfl (lv_at hl 1 rfl) ?_
          refine lv_iload hx hb d_T_append_54 (lv_at hl 3 rfl) ?_
          refine call_i (isC := []) (run_S (As := [.long x1, .int x4]) (rest := [.int f_length, .ref a_bytes]) hx hb hml hown htl (c_T_byteOf l G Y  x1 x4 _ rfl) ms_T_byteOf k_517 (hRk (by decide) (by decide)) hK hsk hS hP hD (isC := []) rfl (by decide) rfl hl.1 rfl (lv_room (Nat.le_of_ble_eq_true rfl)) d_T_append_56) hP hD hS rfl rfl (fun H locs hP hD hS => ?_)
          have hP : va_P G.1 classes [(h0, O_T f_length a_bytes f_kind f_start f_number f_at), (a_bytes, aI G 500 g_bytes)] H := hP
          have hD : va_D A [(h0, O_T f_length a_bytes f_kind f_start f_number f_at), (a_bytes, aI G 500 g_bytes)] := hD
          obtain ⟨c6, hf⟩ := dk_e hf
          refine nx_iast hx hb hK hP hD hS 1 1 rfl rfl c6 d_T_append_59 (fun v7 ev7 H locs hP hD hS => ?_)
          have hf := dn_e ev7 hf
          have hP : va_P G.1 classes [(h0, O_T f_length a_bytes f_kind f_start f_number f_at), (a_bytes, aI G 500 v7)] H := hP
          have hD : va_D A [(h0, O_T f_length a_bytes f_kind f_start f_number f_at), (a_bytes, aI G 500 v7)] := hD
          refine lv_aload_n hx hb d_T_append_60 rfl (lv_at hl 0 rfl) ?_
          refine lv_dup hx hb d_T_append_61 rfl ?_
          refine va_get (D := G.1) (ci := 10) (v := .int f_length) (C := n_T) (T := T_T) (N := 6) hx hb htl iw_T hown hK hP 0 rfl rfl 0 (by decide) (htl _ k_214) (fun _ h9 => h9) rfl d_T_append_62 ?_
          refine lv_iconst (v := (1 : Int32)) hx hb d_T_append_65 (by decide) ?_
          refine lv_iadd hx hb d_T_append_66 ?_
          refine lv_topi (fun v8 ev8 => ?_)
          have hf := dn_e ev8 hf
          refine va_put (D := G.1) (ci := 10) (v := .int v8) (ty := .int) (C := n_T) (T := T_T) (N := 6) hx hb htl iw_T ty_T ty_T_ok nm_T hown hK hP hD hS 0 rfl rfl 0 (by decide) (htl _ k_214) (fun _ h9 => h9) rfl (by decide +kernel) rfl rfl (Nat.le_of_ble_eq_true rfl) d_T_append_67 (fun H locs hP hD hS => ?_)
          have hP : va_P G.1 classes [(h0, O_T v8 a_bytes f_kind f_start f_number f_at), (a_bytes, aI G 500 v7)] H := hP
          have hD : va_D A [(h0, O_T v8 a_bytes f_kind f_start f_number f_at), (a_bytes, aI G 500 v7)] := hD
          obtain ⟨v9, ev9⟩ : ∃ z : Int32, z = x4 + (1 : Int32) := ⟨_, rfl⟩
          have hf := dn_e ev9 hf
          refine lv_iinc (v := v9) (lv' := [(4, .int v9), (0, .ref h0), (1, .long x1), (3, .int x3)]) hx hb d_T_append_70 hl (k := 3) rfl (by rw [ev9]; rfl) (by decide) rfl (fun ls hl => ?_)
          refine lv_goto (tgt := 39) hx hb d_T_append_73 (by decide) ?_
          exact ih39 v8 v7 v9 H locs ls (lpk_i hf hk39) ⟨hP, hD, hS⟩ (lv_sub hl [1, 2, 3, 0] rfl)
    exact hL39 N f_length g_bytes x4 H locs ls hy39 ⟨hP, hD, hS⟩ hl
  have hJ22 : ∀ (f_length : Int32) (g_bytes : Nat → Int32) (x3 : Int32) (H : Heap) (locs : List Loc) (ls : Array Slot), PDS G.1 classes A s [(h0, O_T f_length a_bytes f_kind f_start f_number f_at), (a_bytes, aI G 500 g_bytes)] H locs → lv_has ls 5 [(0, .ref h0), (1, .long x1), (3, .int x3)] → T_append_22 N f_length g_bytes x1 x3 = some res → W p l e (rmk 1) s m args below meth c H locs 0 0 Q (F0 m 22 ls []) := by
    intro f_length g_bytes x3 H locs ls wq hl hf
    obtain ⟨hP, hD, hS⟩ := wq
    refine lv_iload_n hx hb d_T_append_22 rfl (lv_at hl 2 rfl) ?_
    refine lv_sipush (v := (500 : Int32)) hx hb d_T_append_23 (by decide) ?_
    refine lv_aload_n hx hb d_T_append_26 rfl (lv_at hl 0 rfl) ?_
    refine va_get (D := G.1) (ci := 10) (v := .int f_length) (C := n_T) (T := T_T) (N := 6) hx hb htl iw_T hown hK hP 0 rfl rfl 0 (by decide) (htl _ k_214) (fun _ h9 => h9) rfl d_T_append_27 ?_
    refine lv_isub hx hb d_T_append_30 ?_
    refine lv_icmp_le (tgt := 36) hx hb d_T_append_31 (by decide) (fun c4 => ?_) (fun c4 => ?_)
    · have hf := di_t c4 hf
      refine lv_iconst (v := (0 : Int32)) hx hb d_T_append_36 (by decide) ?_
      refine lv_istore (lv' := [(4, .int (0 : Int32)), (0, .ref h0), (1, .long x1), (3, .int x3)]) hx hb d_T_append_37 hl (by decide) rfl (fun ls hl => ?_)
      exact hJ39 f_length g_bytes x3 (0 : Int32) H locs ls ⟨hP, hD, hS⟩ (lv_sub hl [1, 2, 3, 0] rfl) hf
    · have hf := di_f c4 hf
      refine lv_iconst (v := (0 : Int32)) hx hb d_T_append_34 (by decide) ?_
      cases hf
      exact hret 35 ls H locs z_0 hP hS d_T_append_35
  have hJ2 : ∀ (f_length : Int32) (g_bytes : Nat → Int32) (x3 : Int32) (H : Heap) (locs : List Loc) (ls : Array Slot), PDS G.1 classes A s [(h0, O_T f_length a_bytes f_kind f_start f_number f_at), (a_bytes, aI G 500 g_bytes)] H locs → lv_has ls 5 [(0, .ref h0), (1, .long x1), (3, .int x3)] → T_append_2 N f_length g_bytes x1 x3 = some res → W p l e (rmk 1) s m args below meth c H locs 0 0 Q (F0 m 2 ls []) := by
    intro f_length g_bytes x3 H locs ls wq hl hf
    obtain ⟨hP, hD, hS⟩ := wq
    obtain ⟨y2, hy2, hfo2⟩ := db_e hf
    have hL2 : ∀ (n : Nat) (x3 : Int32) (H : Heap) (locs : List Loc) (ls : Array Slot), lp (fun x => T_append_b2 N f_length g_bytes x1 x) n x3 = some y2 → PDS G.1 classes A s [(h0, O_T f_length a_bytes f_kind f_start f_number f_at), (a_bytes, aI G 500 g_bytes)] H locs → lv_has ls 5 [(0, .ref h0), (1, .long x1), (3, .int x3)] → W p l e (rmk 1) s m args below meth c H locs 0 0 Q (F0 m 2 ls []) := by
      intro n
      induction n with
      | zero =>
        intro x3 H locs ls hf
        exact lp_0 hf
      | succ n ih2 =>
        intro x3 H locs ls hf wq hl
        obtain ⟨hP, hD, hS⟩ := wq
        obtain ⟨r2, hf, hk2⟩ := lp_s hf
        have hf : T_append_b2 N f_length g_bytes x1 x3 = some r2 := hf
        refine lv_iload_n hx hb d_T_append_2 rfl (lv_at hl 2 rfl) ?_
        refine lv_bipush (v := (8 : Int32)) hx hb d_T_append_3 (by decide) ?_
        refine lv_icmp_ge (tgt := 22) hx hb d_T_append_5 (by decide) (fun c1 => ?_) (fun c1 => ?_)
        · have hf := di_t c1 hf
          have hq2 := lpk_x hf hk2
          have hf := ex_y (f := fun y => T_append_a2 N f_length g_bytes x1 y) hq2 hfo2
          have hf : T_append_22 N f_length g_bytes x1 x3 = some res := hf
          exact hJ22 f_length g_bytes x3 H locs ls ⟨hP, hD, hS⟩ (lv_sub hl [0, 1, 2] rfl) hf
        · have hf := di_f c1 hf
          refine lv_lload_n hx hb d_T_append_8 rfl (lv_at hl 1 rfl) ?_
          refine lv_iload_n hx hb d_T_append_9 rfl (lv_at hl 2 rfl) ?_
          refine call_i (isC := []) (run_S (As := [.long x1, .int x3]) (rest := []) hx hb hml hown htl (c_T_byteOf l G Y  x1 x3 _ rfl) ms_T_byteOf k_517 (hRk (by decide) (by decide)) hK hsk hS hP hD (isC := []) rfl (by decide) rfl hl.1 rfl (lv_room (Nat.le_of_ble_eq_true rfl)) d_T_append_10) hP hD hS rfl rfl (fun H locs hP hD hS => ?_)
          have hP : va_P G.1 classes [(h0, O_T f_length a_bytes f_kind f_start f_number f_at), (a_bytes, aI G 500 g_bytes)] H := hP
          have hD : va_D A [(h0, O_T f_length a_bytes f_kind f_start f_number f_at), (a_bytes, aI G 500 g_bytes)] := hD
          refine lv_if_eq (tgt := 22) hx hb d_T_append_13 (by decide) (fun c2 => ?_) (fun c2 => ?_)
          · have hf := di_t c2 hf
            have hq2 := lpk_x hf hk2
            have hf := ex_y (f := fun y => T_append_a2 N f_length g_bytes x1 y) hq2 hfo2
            have hf : T_append_22 N f_length g_bytes x1 x3 = some res := hf
            exact hJ22 f_length g_bytes x3 H locs ls ⟨hP, hD, hS⟩ (lv_sub hl [0, 1, 2] rfl) hf
          · have hf := di_f c2 hf
            obtain ⟨v3, ev3⟩ : ∃ z : Int32, z = x3 + (1 : Int32) := ⟨_, rfl⟩
            have hf := dn_e ev3 hf
            refine lv_iinc (v := v3) (lv' := [(3, .int v3), (0, .ref h0), (1, .long x1)]) hx hb d_T_append_16 hl (k := 2) rfl (by rw [ev3]; rfl) (by decide) rfl (fun ls hl => ?_)
            refine lv_goto (tgt := 2) hx hb d_T_append_19 (by decide) ?_
            exact ih2 v3 H locs ls (lpk_i hf hk2) ⟨hP, hD, hS⟩ (lv_sub hl [1, 2, 0] rfl)
    exact hL2 N x3 H locs ls hy2 ⟨hP, hD, hS⟩ hl
  refine lv_iconst (v := (0 : Int32)) hx hb d_T_append_0 (by decide) ?_
  refine lv_istore_n (lv' := [(3, .int (0 : Int32)), (0, .ref h0), (1, .long x1)]) hx hb d_T_append_1 rfl hl (by decide) rfl (fun ls hl => ?_)
  exact hJ2 f_length g_bytes (0 : Int32) H locs ls ⟨hP, hD, hS⟩ (lv_sub hl [1, 2, 0] rfl) hf
set_option maxHeartbeats 4000000 in
set_option maxRecDepth 100000 in
theorem c_T_startOver (l : Launch) (G : va_G × (Nat → ClassId)) (Y : (Nat → Nat) × (Nat → Nat)) (h0 : Nat) (a_bytes : Nat) (f_length : Int32) (f_kind : Int32) (f_start : Int32) (f_number : Int32) (f_at : Int32) (res : Int32) (hf : T_startOver f_at = some res) : Cv l classes y_T_startOver b_T_startOver 1 none (rmk 0) G.1 (tyL G) Y [.ref h0] [(h0, O_T f_length a_bytes f_kind f_start f_number f_at)] [(h0, O_T f_length a_bytes f_kind f_start f_number res)] := by
  refine entV (by decide) (Nat.le_of_ble_eq_true rfl) ?_
  intro p e s m args below meth c ls A Q hx hb hml hown htl hK hsk wq hl hret
  obtain ⟨hP, hD, hS⟩ := wq
  have hl : lv_has ls 1 [(0, .ref h0)] := hl
  have hS : va_S A s.heap s.heap [] := hS
  obtain ⟨H, hH⟩ : ∃ H : Heap, H = s.heap := ⟨_, rfl⟩
  obtain ⟨locs, hlocs⟩ : ∃ z : List Loc, z = [] := ⟨_, rfl⟩
  rw [← hH] at hP
  replace hS : va_S A s.heap H locs := by rw [hH, hlocs]; exact hS
  suffices hgo : W p l e (rmk 0) s m args below meth c H locs 0 0 Q (F0 m 0 ls []) by rw [hH, hlocs] at hgo; exact hgo
  refine lv_aload_n hx hb d_T_startOver_0 rfl (lv_at hl 0 rfl) ?_
  refine lv_iconst (v := (0 : Int32)) hx hb d_T_startOver_1 (by decide) ?_
  refine va_put (D := G.1) (ci := 10) (v := .int (0 : Int32)) (ty := .int) (C := n_T) (T := T_T) (N := 6) hx hb htl iw_T ty_T ty_T_ok nm_T hown hK hP hD hS 0 rfl rfl 5 (by decide) (htl _ k_226) (fun _ h9 => h9) rfl (by decide +kernel) rfl rfl (Nat.le_of_ble_eq_true rfl) d_T_startOver_2 (fun H locs hP hD hS => ?_)
  have hP : va_P G.1 classes [(h0, O_T f_length a_bytes f_kind f_start f_number (0 : Int32))] H := hP
  have hD : va_D A [(h0, O_T f_length a_bytes f_kind f_start f_number (0 : Int32))] := hD
  cases hf
  exact hret 5 ls H locs hP hS d_T_startOver_5
set_option maxHeartbeats 4000000 in
set_option maxRecDepth 100000 in
theorem c_T_isDigit (l : Launch) (G : va_G × (Nat → ClassId)) (Y : (Nat → Nat) × (Nat → Nat)) (x0 : Int32) (res : Int32) (hf : T_isDigit x0 = res) : Ci l classes y_T_isDigit b_T_isDigit 1 (some .boolean) (rmk 0) G.1 (tyL G) Y [.int x0] [] [] res := by
  refine entZ (by decide) (Nat.le_of_ble_eq_true rfl) ?_
  intro p e s m args below meth c ls A Q hx hb hml hown htl hK hsk wq hl hret
  obtain ⟨hP, hD, hS⟩ := wq
  have hl : lv_has ls 1 [(0, .int x0)] := hl
  have hS : va_S A s.heap s.heap [] := hS
  obtain ⟨H, hH⟩ : ∃ H : Heap, H = s.heap := ⟨_, rfl⟩
  obtain ⟨locs, hlocs⟩ : ∃ z : List Loc, z = [] := ⟨_, rfl⟩
  rw [← hH] at hP
  replace hS : va_S A s.heap H locs := by rw [hH, hlocs]; exact hS
  suffices hgo : W p l e (rmk 0) s m args below meth c H locs 0 0 Q (F0 m 0 ls []) by rw [hH, hlocs] at hgo; exact hgo
  refine lv_iload_n hx hb d_T_isDigit_0 rfl (lv_at hl 0 rfl) ?_
  refine lv_bipush (v := (48 : Int32)) hx hb d_T_isDigit_1 (by decide) ?_
  refine lv_icmp_lt (tgt := 16) hx hb d_T_isDigit_3 (by decide) (fun c1 => ?_) (fun c1 => ?_)
  · have hf := di_t c1 hf
    refine lv_iconst (v := (0 : Int32)) hx hb d_T_isDigit_16 (by decide) ?_
    cases hf
    exact hret 17 ls H locs z_0 hP hS d_T_isDigit_17
  · have hf := di_f c1 hf
    refine lv_iload_n hx hb d_T_isDigit_6 rfl (lv_at hl 0 rfl) ?_
    refine lv_bipush (v := (57 : Int32)) hx hb d_T_isDigit_7 (by decide) ?_
    refine lv_icmp_gt (tgt := 16) hx hb d_T_isDigit_9 (by decide) (fun c2 => ?_) (fun c2 => ?_)
    · have hf := di_t c2 hf
      refine lv_iconst (v := (0 : Int32)) hx hb d_T_isDigit_16 (by decide) ?_
      cases hf
      exact hret 17 ls H locs z_0 hP hS d_T_isDigit_17
    · have hf := di_f c2 hf
      refine lv_iconst (v := (1 : Int32)) hx hb d_T_isDigit_12 (by decide) ?_
      refine lv_goto (tgt := 17) hx hb d_T_isDigit_13 (by decide) ?_
      cases hf
      exact hret 17 ls H locs z_1 hP hS d_T_isDigit_17
set_option maxHeartbeats 4000000 in
set_option maxRecDepth 100000 in
theorem c_T_readNumber (l : Launch) (G : va_G × (Nat → ClassId)) (Y : (Nat → Nat) × (Nat → Nat)) (h0 : Nat) (a_bytes : Nat) (f_length : Int32) (f_kind : Int32) (f_start : Int32) (f_number : Int32) (f_at : Int32) (g_bytes : Nat → Int32) (N : Nat) (res : Int32 × Int32 × Int32) (hf : T_readNumber N f_length f_kind f_start f_number f_at g_bytes = some res) : Cv l classes y_T_readNumber b_T_readNumber 1 none (rmk 1) G.1 (tyL G) Y [.ref h0] [(h0, O_T f_length a_bytes f_kind f_start f_number f_at), (a_bytes, aI G 500 g_bytes)] [(h0, O_T f_length a_bytes res.1 f_start res.2.1 res.2.2), (a_bytes, aI G 500 g_bytes)] := by
  refine entV (by decide) (Nat.le_of_ble_eq_true rfl) ?_
  intro p e s m args below meth c ls A Q hx hb hml hown htl hK hsk wq hl hret
  obtain ⟨hP, hD, hS⟩ := wq
  have hl : lv_has ls 1 [(0, .ref h0)] := hl
  have hS : va_S A s.heap s.heap [] := hS
  obtain ⟨H, hH⟩ : ∃ H : Heap, H = s.heap := ⟨_, rfl⟩
  obtain ⟨locs, hlocs⟩ : ∃ z : List Loc, z = [] := ⟨_, rfl⟩
  rw [← hH] at hP
  replace hS : va_S A s.heap H locs := by rw [hH, hlocs]; exact hS
  suffices hgo : W p l e (rmk 1) s m args below meth c H locs 0 0 Q (F0 m 0 ls []) by rw [hH, hlocs] at hgo; exact hgo
  have hJ103 : ∀ (f_kind : Int32) (f_number : Int32) (f_at : Int32) (z1 : Int32) (H : Heap) (locs : List Loc) (ls : Array Slot), PDS G.1 classes A s [(h0, O_T f_length a_bytes f_kind f_start f_number f_at), (a_bytes, aI G 500 g_bytes)] H locs → lv_has ls 1 [] → T_readNumber_103 N f_length f_kind f_start f_number f_at g_bytes z1 = some res → W p l e (rmk 1) s m args below meth c H locs 0 0 Q (F0 m 103 ls [.int z1, .ref h0]) := by
    intro f_kind f_number f_at z1 H locs ls wq hl hf
    obtain ⟨hP, hD, hS⟩ := wq
    refine va_put (D := G.1) (ci := 10) (v := .int z1) (ty := .int) (C := n_T) (T := T_T) (N := 6) hx hb htl iw_T ty_T ty_T_ok nm_T hown hK hP hD hS 0 rfl rfl 2 (by decide) (htl _ k_219) (fun _ h9 => h9) rfl (by decide +kernel) rfl rfl (Nat.le_of_ble_eq_true rfl) d_T_readNumber_103 (fun H locs hP hD hS => ?_)
    have hP : va_P G.1 classes [(h0, O_T f_length a_bytes z1 f_start f_number f_at), (a_bytes, aI G 500 g_bytes)] H := hP
    have hD : va_D A [(h0, O_T f_length a_bytes z1 f_start f_number f_at), (a_bytes, aI G 500 g_bytes)] := hD
    cases hf
    exact hret 106 ls H locs hP hS d_T_readNumber_106
  have hJ82 : ∀ (f_kind : Int32) (f_number : Int32) (f_at : Int32) (H : Heap) (locs : List Loc) (ls : Array Slot), PDS G.1 classes A s [(h0, O_T f_length a_bytes f_kind f_start f_number f_at), (a_bytes, aI G 500 g_bytes)] H locs → lv_has ls 1 [(0, .ref h0)] → T_readNumber_82 N f_length f_kind f_start f_number f_at g_bytes = some res → W p l e (rmk 1) s m args below meth c H locs 0 0 Q (F0 m 82 ls []) := by
    intro f_kind f_number f_at H locs ls wq hl hf
    obtain ⟨hP, hD, hS⟩ := wq
    refine lv_aload_n hx hb d_T_readNumber_82 rfl (lv_at hl 0 rfl) ?_
    refine lv_aload_n hx hb d_T_readNumber_83 rfl (lv_at hl 0 rfl) ?_
    refine va_get (D := G.1) (ci := 10) (v := .int f_at) (C := n_T) (T := T_T) (N := 6) hx hb htl iw_T hown hK hP 0 rfl rfl 5 (by decide) (htl _ k_226) (fun _ h9 => h9) rfl d_T_readNumber_84 ?_
    refine lv_aload_n hx hb d_T_readNumber_87 rfl (lv_at hl 0 rfl) ?_
    refine va_get (D := G.1) (ci := 10) (v := .int f_start) (C := n_T) (T := T_T) (N := 6) hx hb htl iw_T hown hK hP 0 rfl rfl 3 (by decide) (htl _ k_222) (fun _ h9 => h9) rfl d_T_readNumber_88 ?_
    refine lv_isub hx hb d_T_readNumber_91 ?_
    refine lv_bipush (v := (7 : Int32)) hx hb d_T_readNumber_92 (by decide) ?_
    refine lv_icmp_le (tgt := 102) hx hb d_T_readNumber_94 (by decide) (fun c7 => ?_) (fun c7 => ?_)
    · have hf := di_t c7 hf
      refine lv_iconst (v := (1 : Int32)) hx hb d_T_readNumber_102 (by decide) ?_
      exact hJ103 f_kind f_number f_at (1 : Int32) H locs ls ⟨hP, hD, hS⟩ (lv_sub hl [] rfl) hf
    · have hf := di_f c7 hf
      refine lv_bipush (v := (10 : Int32)) hx hb d_T_readNumber_97 (by decide) ?_
      refine lv_goto (tgt := 103) hx hb d_T_readNumber_99 (by decide) ?_
      exact hJ103 f_kind f_number f_at (10 : Int32) H locs ls ⟨hP, hD, hS⟩ (lv_sub hl [] rfl) hf
  have hJ5 : ∀ (f_kind : Int32) (f_number : Int32) (f_at : Int32) (H : Heap) (locs : List Loc) (ls : Array Slot), PDS G.1 classes A s [(h0, O_T f_length a_bytes f_kind f_start f_number f_at), (a_bytes, aI G 500 g_bytes)] H locs → lv_has ls 1 [(0, .ref h0)] → T_readNumber_5 N f_length f_kind f_start f_number f_at g_bytes = some res → W p l e (rmk 1) s m args below meth c H locs 0 0 Q (F0 m 5 ls []) := by
    intro f_kind f_number f_at H locs ls wq hl hf
    obtain ⟨hP, hD, hS⟩ := wq
    obtain ⟨y5, hy5, hfo5⟩ := db_e hf
    have hL5 : ∀ (n : Nat) (f_number : Int32) (f_at : Int32) (H : Heap) (locs : List Loc) (ls : Array Slot), lp (fun x => T_readNumber_b5 N f_length f_kind f_start x.1 x.2 g_bytes) n (f_number, f_at) = some y5 → PDS G.1 classes A s [(h0, O_T f_length a_bytes f_kind f_start f_number f_at), (a_bytes, aI G 500 g_bytes)] H locs → lv_has ls 1 [(0, .ref h0)] → W p l e (rmk 1) s m args below meth c H locs 0 0 Q (F0 m 5 ls []) := by
      intro n
      induction n with
      | zero =>
        intro f_number f_at H locs ls hf
        exact lp_0 hf
      | succ n ih5 =>
        intro f_number f_at H locs ls hf wq hl
        obtain ⟨hP, hD, hS⟩ := wq
        obtain ⟨r5, hf, hk5⟩ := lp_s hf
        have hf : T_readNumber_b5 N f_length f_kind f_start f_number f_at g_bytes = some r5 := hf
        have hJ69 : ∀ (f_number : Int32) (f_at : Int32) (H : Heap) (locs : List Loc) (ls : Array Slot), PDS G.1 classes A s [(h0, O_T f_length a_bytes f_kind f_start f_number f_at), (a_bytes, aI G 500 g_bytes)] H locs → lv_has ls 1 [(0, .ref h0)] → T_readNumber_69 N f_length f_kind f_start f_number f_at g_bytes = some r5 → W p l e (rmk 1) s m args below meth c H locs 0 0 Q (F0 m 69 ls []) := by
          intro f_number f_at H locs ls wq hl hf
          obtain ⟨hP, hD, hS⟩ := wq
          refine lv_aload_n hx hb d_T_readNumber_69 rfl (lv_at hl 0 rfl) ?_
          refine lv_dup hx hb d_T_readNumber_70 rfl ?_
          refine va_get (D := G.1) (ci := 10) (v := .int f_at) (C := n_T) (T := T_T) (N := 6) hx hb htl iw_T hown hK hP 0 rfl rfl 5 (by decide) (htl _ k_226) (fun _ h9 => h9) rfl d_T_readNumber_71 ?_
          refine lv_iconst (v := (1 : Int32)) hx hb d_T_readNumber_74 (by decide) ?_
          refine lv_iadd hx hb d_T_readNumber_75 ?_
          refine lv_topi (fun v6 ev6 => ?_)
          have hf := dn_e ev6 hf
          refine va_put (D := G.1) (ci := 10) (v := .int v6) (ty := .int) (C := n_T) (T := T_T) (N := 6) hx hb htl iw_T ty_T ty_T_ok nm_T hown hK hP hD hS 0 rfl rfl 5 (by decide) (htl _ k_226) (fun _ h9 => h9) rfl (by decide +kernel) rfl rfl (Nat.le_of_ble_eq_true rfl) d_T_readNumber_76 (fun H locs hP hD hS => ?_)
          have hP : va_P G.1 classes [(h0, O_T f_length a_bytes f_kind f_start f_number v6), (a_bytes, aI G 500 g_bytes)] H := hP
          have hD : va_D A [(h0, O_T f_length a_bytes f_kind f_start f_number v6), (a_bytes, aI G 500 g_bytes)] := hD
          refine lv_goto (tgt := 5) hx hb d_T_readNumber_79 (by decide) ?_
          exact ih5 f_number v6 H locs ls (lpk_i hf hk5) ⟨hP, hD, hS⟩ (lv_sub hl [0] rfl)
        refine lv_aload_n hx hb d_T_readNumber_5 rfl (lv_at hl 0 rfl) ?_
        refine va_get (D := G.1) (ci := 10) (v := .int f_at) (C := n_T) (T := T_T) (N := 6) hx hb htl iw_T hown hK hP 0 rfl rfl 5 (by decide) (htl _ k_226) (fun _ h9 => h9) rfl d_T_readNumber_6 ?_
        refine lv_aload_n hx hb d_T_readNumber_9 rfl (lv_at hl 0 rfl) ?_
        refine va_get (D := G.1) (ci := 10) (v := .int f_length) (C := n_T) (T := T_T) (N := 6) hx hb htl iw_T hown hK hP 0 rfl rfl 0 (by decide) (htl _ k_214) (fun _ h9 => h9) rfl d_T_readNumber_10 ?_
        refine lv_icmp_ge (tgt := 82) hx hb d_T_readNumber_13 (by decide) (fun c1 => ?_) (fun c1 => ?_)
        · have hf := di_t c1 hf
          have hq5 := lpk_x hf hk5
          have hf := ex_y (f := fun y => T_readNumber_a5 N f_length f_kind f_start g_bytes y) hq5 hfo5
          have hf : T_readNumber_82 N f_length f_kind f_start f_number f_at g_bytes = some res := hf
          exact hJ82 f_kind f_number f_at H locs ls ⟨hP, hD, hS⟩ (lv_sub hl [0] rfl) hf
        · have hf := di_f c1 hf
          refine lv_aload_n hx hb d_T_readNumber_16 rfl (lv_at hl 0 rfl) ?_
          refine va_get (D := G.1) (ci := 10) (v := .ref a_bytes) (C := n_T) (T := T_T) (N := 6) hx hb htl iw_T hown hK hP 0 rfl rfl 1 (by decide) (htl _ k_216) (fun _ h9 => h9) rfl d_T_readNumber_17 ?_
          refine lv_aload_n hx hb d_T_readNumber_20 rfl (lv_at hl 0 rfl) ?_
          refine va_get (D := G.1) (ci := 10) (v := .int f_at) (C := n_T) (T := T_T) (N := 6) hx hb htl iw_T hown hK hP 0 rfl rfl 5 (by decide) (htl _ k_226) (fun _ h9 => h9) rfl d_T_readNumber_21 ?_
          obtain ⟨c2, hf⟩ := dk_e hf
          refine va_iald hx hb hK hP 1 1 rfl rfl c2 d_T_readNumber_24 ?_
          refine call_i (isC := []) (run_S (As := [.int (g_bytes f_at.toNatClampNeg)]) (rest := []) hx hb hml hown htl (c_T_isDigit l G Y  (g_bytes f_at.toNatClampNeg) _ rfl) ms_T_isDigit k_555 (hRk (by decide) (by decide)) hK hsk hS hP hD (isC := []) rfl (by decide) rfl hl.1 rfl (lv_room (Nat.le_of_ble_eq_true rfl)) d_T_readNumber_25) hP hD hS rfl rfl (fun H locs hP hD hS => ?_)
          have hP : va_P G.1 classes [(h0, O_T f_length a_bytes f_kind f_start f_number f_at), (a_bytes, aI G 500 g_bytes)] H := hP
          have hD : va_D A [(h0, O_T f_length a_bytes f_kind f_start f_number f_at), (a_bytes, aI G 500 g_bytes)] := hD
          refine lv_if_eq (tgt := 82) hx hb d_T_readNumber_28 (by decide) (fun c3 => ?_) (fun c3 => ?_)
          · have hf := di_t c3 hf
            have hq5 := lpk_x hf hk5
            have hf := ex_y (f := fun y => T_readNumber_a5 N f_length f_kind f_start g_bytes y) hq5 hfo5
            have hf : T_readNumber_82 N f_length f_kind f_start f_number f_at g_bytes = some res := hf
            exact hJ82 f_kind f_number f_at H locs ls ⟨hP, hD, hS⟩ (lv_sub hl [0] rfl) hf
          · have hf := di_f c3 hf
            refine lv_aload_n hx hb d_T_readNumber_31 rfl (lv_at hl 0 rfl) ?_
            refine va_get (D := G.1) (ci := 10) (v := .int f_at) (C := n_T) (T := T_T) (N := 6) hx hb htl iw_T hown hK hP 0 rfl rfl 5 (by decide) (htl _ k_226) (fun _ h9 => h9) rfl d_T_readNumber_32 ?_
            refine lv_aload_n hx hb d_T_readNumber_35 rfl (lv_at hl 0 rfl) ?_
            refine va_get (D := G.1) (ci := 10) (v := .int f_start) (C := n_T) (T := T_T) (N := 6) hx hb htl iw_T hown hK hP 0 rfl rfl 3 (by decide) (htl _ k_222) (fun _ h9 => h9) rfl d_T_readNumber_36 ?_
            refine lv_isub hx hb d_T_readNumber_39 ?_
            refine lv_bipush (v := (7 : Int32)) hx hb d_T_readNumber_40 (by decide) ?_
            refine lv_icmp_ge (tgt := 69) hx hb d_T_readNumber_42 (by decide) (fun c4 => ?_) (fun c4 => ?_)
            · have hf := di_t c4 hf
              exact hJ69 f_number f_at H locs ls ⟨hP, hD, hS⟩ (lv_sub hl [0] rfl) hf
            · have hf := di_f c4 hf
              refine lv_aload_n hx hb d_T_readNumber_45 rfl (lv_at hl 0 rfl) ?_
              refine lv_aload_n hx hb d_T_readNumber_46 rfl (lv_at hl 0 rfl) ?_
              refine va_get (D := G.1) (ci := 10) (v := .int f_number) (C := n_T) (T := T_T) (N := 6) hx hb htl iw_T hown hK hP 0 rfl rfl 4 (by decide) (htl _ k_224) (fun _ h9 => h9) rfl d_T_readNumber_47 ?_
              refine lv_bipush (v := (10 : Int32)) hx hb d_T_readNumber_50 (by decide) ?_
              refine lv_imul hx hb d_T_readNumber_52 ?_
              refine lv_aload_n hx hb d_T_readNumber_53 rfl (lv_at hl 0 rfl) ?_
              refine va_get (D := G.1) (ci := 10) (v := .ref a_bytes) (C := n_T) (T := T_T) (N := 6) hx hb htl iw_T hown hK hP 0 rfl rfl 1 (by decide) (htl _ k_216) (fun _ h9 => h9) rfl d_T_readNumber_54 ?_
              refine lv_aload_n hx hb d_T_readNumber_57 rfl (lv_at hl 0 rfl) ?_
              refine va_get (D := G.1) (ci := 10) (v := .int f_at) (C := n_T) (T := T_T) (N := 6) hx hb htl iw_T hown hK hP 0 rfl rfl 5 (by decide) (htl _ k_226) (fun _ h9 => h9) rfl d_T_readNumber_58 ?_
              refine va_iald hx hb hK hP 1 1 rfl rfl c2 d_T_readNumber_61 ?_
              refine lv_bipush (v := (48 : Int32)) hx hb d_T_readNumber_62 (by decide) ?_
              refine lv_isub hx hb d_T_readNumber_64 ?_
              refine lv_iadd hx hb d_T_readNumber_65 ?_
              refine lv_topi (fun v5 ev5 => ?_)
              have hf := dn_e ev5 hf
              refine va_put (D := G.1) (ci := 10) (v := .int v5) (ty := .int) (C := n_T) (T := T_T) (N := 6) hx hb htl iw_T ty_T ty_T_ok nm_T hown hK hP hD hS 0 rfl rfl 4 (by decide) (htl _ k_224) (fun _ h9 => h9) rfl (by decide +kernel) rfl rfl (Nat.le_of_ble_eq_true rfl) d_T_readNumber_66 (fun H locs hP hD hS => ?_)
              have hP : va_P G.1 classes [(h0, O_T f_length a_bytes f_kind f_start v5 f_at), (a_bytes, aI G 500 g_bytes)] H := hP
              have hD : va_D A [(h0, O_T f_length a_bytes f_kind f_start v5 f_at), (a_bytes, aI G 500 g_bytes)] := hD
              exact hJ69 v5 f_at H locs ls ⟨hP, hD, hS⟩ (lv_sub hl [0] rfl) hf
    exact hL5 N f_number f_at H locs ls hy5 ⟨hP, hD, hS⟩ hl
  refine lv_aload_n hx hb d_T_readNumber_0 rfl (lv_at hl 0 rfl) ?_
  refine lv_iconst (v := (0 : Int32)) hx hb d_T_readNumber_1 (by decide) ?_
  refine va_put (D := G.1) (ci := 10) (v := .int (0 : Int32)) (ty := .int) (C := n_T) (T := T_T) (N := 6) hx hb htl iw_T ty_T ty_T_ok nm_T hown hK hP hD hS 0 rfl rfl 4 (by decide) (htl _ k_224) (fun _ h9 => h9) rfl (by decide +kernel) rfl rfl (Nat.le_of_ble_eq_true rfl) d_T_readNumber_2 (fun H locs hP hD hS => ?_)
  have hP : va_P G.1 classes [(h0, O_T f_length a_bytes f_kind f_start (0 : Int32) f_at), (a_bytes, aI G 500 g_bytes)] H := hP
  have hD : va_D A [(h0, O_T f_length a_bytes f_kind f_start (0 : Int32) f_at), (a_bytes, aI G 500 g_bytes)] := hD
  exact hJ5 f_kind (0 : Int32) f_at H locs ls ⟨hP, hD, hS⟩ (lv_sub hl [0] rfl) hf
set_option maxHeartbeats 4000000 in
set_option maxRecDepth 100000 in
theorem c_T_signKind (l : Launch) (G : va_G × (Nat → ClassId)) (Y : (Nat → Nat) × (Nat → Nat)) (x0 : Int32) (res : Int32) (hf : T_signKind x0 = res) : Ci l classes y_T_signKind b_T_signKind 1 (some .int) (rmk 0) G.1 (tyL G) Y [.int x0] [] [] res := by
  refine entI (by decide) (Nat.le_of_ble_eq_true rfl) ?_
  intro p e s m args below meth c ls A Q hx hb hml hown htl hK hsk wq hl hret
  obtain ⟨hP, hD, hS⟩ := wq
  have hl : lv_has ls 1 [(0, .int x0)] := hl
  have hS : va_S A s.heap s.heap [] := hS
  obtain ⟨H, hH⟩ : ∃ H : Heap, H = s.heap := ⟨_, rfl⟩
  obtain ⟨locs, hlocs⟩ : ∃ z : List Loc, z = [] := ⟨_, rfl⟩
  rw [← hH] at hP
  replace hS : va_S A s.heap H locs := by rw [hH, hlocs]; exact hS
  suffices hgo : W p l e (rmk 0) s m args below meth c H locs 0 0 Q (F0 m 0 ls []) by rw [hH, hlocs] at hgo; exact hgo
  refine lv_iload_n hx hb d_T_signKind_0 rfl (lv_at hl 0 rfl) ?_
  by_cases c1 : x0 = (40 : Int32)
  · have hf := di_t c1 hf
    refine lv_lookup (tgt := 48) hx hb d_T_signKind_1 (by decide) (by rw [c1] <;> rfl) (by decide) ?_
    refine lv_iconst (v := (4 : Int32)) hx hb d_T_signKind_48 (by decide) ?_
    cases hf
    exact hret 49 ls H locs hP hS d_T_signKind_49
  have hf := di_f c1 hf
  by_cases c2 : x0 = (41 : Int32)
  · have hf := di_t c2 hf
    refine lv_lookup (tgt := 50) hx hb d_T_signKind_1 (by decide) (by rw [c2] <;> rfl) (by decide) ?_
    refine lv_iconst (v := (5 : Int32)) hx hb d_T_signKind_50 (by decide) ?_
    cases hf
    exact hret 51 ls H locs hP hS d_T_signKind_51
  have hf := di_f c2 hf
  by_cases c3 : x0 = (45 : Int32)
  · have hf := di_t c3 hf
    refine lv_lookup (tgt := 46) hx hb d_T_signKind_1 (by decide) (by rw [c3] <;> rfl) (by decide) ?_
    refine lv_iconst (v := (3 : Int32)) hx hb d_T_signKind_46 (by decide) ?_
    cases hf
    exact hret 47 ls H locs hP hS d_T_signKind_47
  have hf := di_f c3 hf
  by_cases c4 : x0 = (59 : Int32)
  · have hf := di_t c4 hf
    refine lv_lookup (tgt := 44) hx hb d_T_signKind_1 (by decide) (by rw [c4] <;> rfl) (by decide) ?_
    refine lv_iconst (v := (2 : Int32)) hx hb d_T_signKind_44 (by decide) ?_
    cases hf
    exact hret 45 ls H locs hP hS d_T_signKind_45
  have hf := di_f c4 hf
  refine lv_lookup (tgt := 52) hx hb d_T_signKind_1 (by decide) (sl_out_40_41_45_59 c1 c2 c3 c4) (by decide) ?_
  refine lv_bipush (v := (10 : Int32)) hx hb d_T_signKind_52 (by decide) ?_
  cases hf
  exact hret 54 ls H locs hP hS d_T_signKind_54
set_option maxHeartbeats 4000000 in
set_option maxRecDepth 100000 in
theorem c_T_isLetter (l : Launch) (G : va_G × (Nat → ClassId)) (Y : (Nat → Nat) × (Nat → Nat)) (x0 : Int32) (res : Int32) (hf : T_isLetter x0 = res) : Ci l classes y_T_isLetter b_T_isLetter 1 (some .boolean) (rmk 0) G.1 (tyL G) Y [.int x0] [] [] res := by
  refine entZ (by decide) (Nat.le_of_ble_eq_true rfl) ?_
  intro p e s m args below meth c ls A Q hx hb hml hown htl hK hsk wq hl hret
  obtain ⟨hP, hD, hS⟩ := wq
  have hl : lv_has ls 1 [(0, .int x0)] := hl
  have hS : va_S A s.heap s.heap [] := hS
  obtain ⟨H, hH⟩ : ∃ H : Heap, H = s.heap := ⟨_, rfl⟩
  obtain ⟨locs, hlocs⟩ : ∃ z : List Loc, z = [] := ⟨_, rfl⟩
  rw [← hH] at hP
  replace hS : va_S A s.heap H locs := by rw [hH, hlocs]; exact hS
  suffices hgo : W p l e (rmk 0) s m args below meth c H locs 0 0 Q (F0 m 0 ls []) by rw [hH, hlocs] at hgo; exact hgo
  refine lv_iload_n hx hb d_T_isLetter_0 rfl (lv_at hl 0 rfl) ?_
  refine lv_bipush (v := (97 : Int32)) hx hb d_T_isLetter_1 (by decide) ?_
  refine lv_icmp_lt (tgt := 16) hx hb d_T_isLetter_3 (by decide) (fun c1 => ?_) (fun c1 => ?_)
  · have hf := di_t c1 hf
    refine lv_iconst (v := (0 : Int32)) hx hb d_T_isLetter_16 (by decide) ?_
    cases hf
    exact hret 17 ls H locs z_0 hP hS d_T_isLetter_17
  · have hf := di_f c1 hf
    refine lv_iload_n hx hb d_T_isLetter_6 rfl (lv_at hl 0 rfl) ?_
    refine lv_bipush (v := (122 : Int32)) hx hb d_T_isLetter_7 (by decide) ?_
    refine lv_icmp_gt (tgt := 16) hx hb d_T_isLetter_9 (by decide) (fun c2 => ?_) (fun c2 => ?_)
    · have hf := di_t c2 hf
      refine lv_iconst (v := (0 : Int32)) hx hb d_T_isLetter_16 (by decide) ?_
      cases hf
      exact hret 17 ls H locs z_0 hP hS d_T_isLetter_17
    · have hf := di_f c2 hf
      refine lv_iconst (v := (1 : Int32)) hx hb d_T_isLetter_12 (by decide) ?_
      refine lv_goto (tgt := 17) hx hb d_T_isLetter_13 (by decide) ?_
      cases hf
      exact hret 17 ls H locs z_1 hP hS d_T_isLetter_17
