set_option maxHeartbeats 4000000 in
set_option maxRecDepth 100000 in
theorem CR_type (l : Launch) (G : va_G × (Nat → ClassId)) (Y : (Nat → Nat) × (Nat → Nat)) (a : Nat → Nat) (N : Nat) (t : SR) (x1 : Int64) (v : Int32) (t' : SR) (h : sR_type N t x1 = some (v, t')) : Ci l classes y_R_type b_R_type 5 (some .int) (rmk 0) G.1 (tyL G) Y [.ref (a 0), .long x1] (WR G a t) (WR G a t') v := by
  obtain ⟨r, hr, h⟩ := db_e h
  cases h
  exact Ci.mask [true, true, false, false, false, false, false, false, false, false, false, false, false, false, false, true, false, false, false] (c_R_type l G Y (a 0) (a 1) (a 15) (a 13) (a 18) (a 16) (a 12) (a 9) (a 14) (a 5) (a 6) (a 2) (a 3) (a 4) (a 11) (a 17) (a 8) (a 10) (a 7) (t.1 0) (t.1 1) (t.1 2) (t.1 3) (t.1 4) (t.1 5) (t.1 6) (t.1 7) (t.2.2 99 0) (t.1 8) (t.1 9) (t.1 10) (t.1 11) (t.1 12) (t.1 13) (t.1 14) (t.1 15) (t.1 16) (t.1 17) (t.1 18) (t.1 19) (t.1 20) (t.1 21) (t.1 22) (t.1 23) (t.1 24) (t.2.1 0) (t.2.1 12) x1 N _ hr) rfl rfl rfl rfl rfl rfl
set_option maxHeartbeats 4000000 in
set_option maxRecDepth 100000 in
theorem CR_query (l : Launch) (G : va_G × (Nat → ClassId)) (Y : (Nat → Nat) × (Nat → Nat)) (a : Nat → Nat) (N : Nat) (t : SR) (v : Int32) (t' : SR) (h : sR_query N t = some (v, t')) : Ci l classes y_R_query b_R_query 3 (some .int) (rmk 5) G.1 (tyL G) Y [.ref (a 0)] (WR G a t) (WR G a t') v := by
  obtain ⟨r, hr, h⟩ := db_e h
  cases h
  exact Ci.mask [true, true, false, false, false, false, false, false, false, false, false, false, false, false, false, true, true, false, false] (c_R_query l G Y (a 0) (a 1) (a 15) (a 13) (a 18) (a 16) (a 12) (a 9) (a 14) (a 5) (a 6) (a 2) (a 3) (a 4) (a 11) (a 17) (a 8) (a 10) (a 7) (t.1 0) (t.1 1) (t.1 2) (t.1 3) (t.1 4) (t.1 5) (t.1 6) (t.1 7) (t.2.2 99 0) (t.1 8) (t.1 9) (t.1 10) (t.1 11) (t.1 12) (t.1 13) (t.1 14) (t.1 15) (t.1 16) (t.1 17) (t.1 18) (t.1 19) (t.1 20) (t.1 21) (t.1 22) (t.1 23) (t.1 24) (t.2.1 0) (t.2.1 12) (t.2.1 13) N _ hr) rfl rfl rfl rfl rfl rfl
set_option maxHeartbeats 4000000 in
set_option maxRecDepth 100000 in
theorem CR_plan (l : Launch) (G : va_G × (Nat → ClassId)) (Y : (Nat → Nat) × (Nat → Nat)) (a : Nat → Nat) (N : Nat) (t : SR) (v : Int32) (t' : SR) (h : sR_plan N t = some (v, t')) : Ci l classes y_R_plan b_R_plan 2 (some .int) (rmk 5) G.1 (tyL G) Y [.ref (a 0)] (WR G a t) (WR G a t') v := by
  obtain ⟨r, hr, h⟩ := db_e h
  cases h
  exact Ci.mask [true, true, false, false, false, false, false, false, false, true, false, false, true, false, false, true, true, false, true] (c_R_plan l G Y (a 0) (a 1) (a 15) (a 13) (a 18) (a 16) (a 12) (a 9) (a 14) (a 5) (a 6) (a 2) (a 3) (a 4) (a 11) (a 17) (a 8) (a 10) (a 7) (t.1 0) (t.1 1) (t.1 2) (t.1 3) (t.1 4) (t.1 5) (t.1 6) (t.1 7) (t.2.2 99 0) (t.1 8) (t.1 9) (t.1 10) (t.1 11) (t.1 12) (t.1 13) (t.1 14) (t.1 15) (t.1 16) (t.1 17) (t.1 18) (t.1 19) (t.1 20) (t.1 21) (t.1 22) (t.1 23) (t.1 24) (t.2.1 0) (t.2.1 7) (t.2.1 10) (t.2.1 12) (t.2.1 13) (t.2.1 15) N _ hr) rfl rfl rfl rfl rfl rfl
set_option maxHeartbeats 4000000 in
set_option maxRecDepth 100000 in
theorem CR_fault (l : Launch) (G : va_G × (Nat → ClassId)) (Y : (Nat → Nat) × (Nat → Nat)) (a : Nat → Nat) (N : Nat) (t : SR) (x1 : Int32) (v : Int32) (t' : SR) (h : sR_fault t x1 = some (v, t')) : Ci l classes y_R_fault b_R_fault 2 (some .int) (rmk 0) G.1 (tyL G) Y [.ref (a 0), .int x1] (WR G a t) (WR G a t') v := by
  obtain ⟨r, hr, h⟩ := db_e h
  cases h
  exact Ci.mask [true, true, false, false, false, false, false, false, false, false, false, false, false, false, false, false, false, false, false] (c_R_fault l G Y (a 0) (a 1) (a 15) (a 13) (a 18) (a 16) (a 12) (a 9) (a 14) (a 5) (a 6) (a 2) (a 3) (a 4) (a 11) (a 17) (a 8) (a 10) (a 7) (t.1 0) (t.1 1) (t.1 2) (t.1 3) (t.1 4) (t.1 5) (t.1 6) (t.1 7) (t.2.2 99 0) (t.1 8) (t.1 9) (t.1 10) (t.1 11) (t.1 12) (t.1 13) (t.1 14) (t.1 15) (t.1 16) (t.1 17) (t.1 18) (t.1 19) (t.1 20) (t.1 21) (t.1 22) (t.1 23) (t.1 24) (t.2.1 0) x1 _ hr) rfl rfl rfl rfl rfl rfl
set_option maxHeartbeats 4000000 in
set_option maxRecDepth 100000 in
theorem CR_add (l : Launch) (G : va_G × (Nat → ClassId)) (Y : (Nat → Nat) × (Nat → Nat)) (a : Nat → Nat) (N : Nat) (t : SR) (x1 : Int32) (v : Int32) (t' : SR) (h : sR_add N t x1 = some (v, t')) : Ci l classes y_R_add b_R_add 2 (some .int) (rmk 1) G.1 (tyL G) Y [.ref (a 0), .int x1] (WR G a t) (WR G a t') v := by
  obtain ⟨r, hr, h⟩ := db_e h
  cases h
  exact Ci.mask [true, true, false, false, false, false, false, false, false, false, false, false, false, false, false, false, false, false, true] (c_R_add l G Y (a 0) (a 1) (a 15) (a 13) (a 18) (a 16) (a 12) (a 9) (a 14) (a 5) (a 6) (a 2) (a 3) (a 4) (a 11) (a 17) (a 8) (a 10) (a 7) (t.1 0) (t.1 1) (t.1 2) (t.1 3) (t.1 4) (t.1 5) (t.1 6) (t.1 7) (t.2.2 99 0) (t.1 8) (t.1 9) (t.1 10) (t.1 11) (t.1 12) (t.1 13) (t.1 14) (t.1 15) (t.1 16) (t.1 17) (t.1 18) (t.1 19) (t.1 20) (t.1 21) (t.1 22) (t.1 23) (t.1 24) (t.2.1 0) (t.2.1 15) x1 N _ hr) rfl rfl rfl rfl rfl rfl
set_option maxHeartbeats 4000000 in
set_option maxRecDepth 100000 in
theorem CR_rows (l : Launch) (G : va_G × (Nat → ClassId)) (Y : (Nat → Nat) × (Nat → Nat)) (a : Nat → Nat) (N : Nat) (t : SR) (x1 : Int32) (x2 : Int32) (v : Int32) (t' : SR) (h : sR_rows N t x1 x2 = some (v, t')) : Ci l classes y_R_rows b_R_rows 3 (some .boolean) (rmk 2) G.1 (tyL G) Y [.ref (a 0), .int x1, .int x2] (WR G a t) (WR G a t') v := by
  obtain ⟨r, hr, h⟩ := db_e h
  cases h
  exact Ci.mask [true, true, false, false, false, false, false, false, false, false, false, false, false, false, false, false, false, false, true] (c_R_rows l G Y (a 0) (a 1) (a 15) (a 13) (a 18) (a 16) (a 12) (a 9) (a 14) (a 5) (a 6) (a 2) (a 3) (a 4) (a 11) (a 17) (a 8) (a 10) (a 7) (t.1 0) (t.1 1) (t.1 2) (t.1 3) (t.1 4) (t.1 5) (t.1 6) (t.1 7) (t.2.2 99 0) (t.1 8) (t.1 9) (t.1 10) (t.1 11) (t.1 12) (t.1 13) (t.1 14) (t.1 15) (t.1 16) (t.1 17) (t.1 18) (t.1 19) (t.1 20) (t.1 21) (t.1 22) (t.1 23) (t.1 24) (t.2.1 0) (t.2.1 15) x1 x2 N _ hr) rfl rfl rfl rfl rfl rfl
set_option maxHeartbeats 4000000 in
set_option maxRecDepth 100000 in
theorem CR_link (l : Launch) (G : va_G × (Nat → ClassId)) (Y : (Nat → Nat) × (Nat → Nat)) (a : Nat → Nat) (N : Nat) (t : SR) (x1 : Int32) (x2 : Int32) (x3 : Int32) (v : Int32) (t' : SR) (h : sR_link N t x1 x2 x3 = some (v, t')) : Ci l classes y_R_link b_R_link 5 (some .int) (rmk 2) G.1 (tyL G) Y [.ref (a 0), .int x1, .int x2, .int x3] (WR G a t) (WR G a t') v := by
  obtain ⟨r, hr, h⟩ := db_e h
  cases h
  exact Ci.mask [true, true, false, false, false, false, false, false, false, false, false, false, false, false, false, false, false, false, true] (c_R_link l G Y (a 0) (a 1) (a 15) (a 13) (a 18) (a 16) (a 12) (a 9) (a 14) (a 5) (a 6) (a 2) (a 3) (a 4) (a 11) (a 17) (a 8) (a 10) (a 7) (t.1 0) (t.1 1) (t.1 2) (t.1 3) (t.1 4) (t.1 5) (t.1 6) (t.1 7) (t.2.2 99 0) (t.1 8) (t.1 9) (t.1 10) (t.1 11) (t.1 12) (t.1 13) (t.1 14) (t.1 15) (t.1 16) (t.1 17) (t.1 18) (t.1 19) (t.1 20) (t.1 21) (t.1 22) (t.1 23) (t.1 24) (t.2.1 0) (t.2.1 15) x1 x2 x3 N _ hr) rfl rfl rfl rfl rfl rfl
set_option maxHeartbeats 4000000 in
set_option maxRecDepth 100000 in
theorem CR_cut (l : Launch) (G : va_G × (Nat → ClassId)) (Y : (Nat → Nat) × (Nat → Nat)) (a : Nat → Nat) (N : Nat) (t : SR) (x1 : Int32) (v : Int32) (t' : SR) (h : sR_cut N t x1 = some (v, t')) : Ci l classes y_R_cut b_R_cut 3 (some .int) (rmk 2) G.1 (tyL G) Y [.ref (a 0), .int x1] (WR G a t) (WR G a t') v := by
  obtain ⟨r, hr, h⟩ := db_e h
  cases h
  exact Ci.mask [true, true, false, false, false, false, false, false, false, false, false, false, false, false, false, false, false, false, true] (c_R_cut l G Y (a 0) (a 1) (a 15) (a 13) (a 18) (a 16) (a 12) (a 9) (a 14) (a 5) (a 6) (a 2) (a 3) (a 4) (a 11) (a 17) (a 8) (a 10) (a 7) (t.1 0) (t.1 1) (t.1 2) (t.1 3) (t.1 4) (t.1 5) (t.1 6) (t.1 7) (t.2.2 99 0) (t.1 8) (t.1 9) (t.1 10) (t.1 11) (t.1 12) (t.1 13) (t.1 14) (t.1 15) (t.1 16) (t.1 17) (t.1 18) (t.1 19) (t.1 20) (t.1 21) (t.1 22) (t.1 23) (t.1 24) (t.2.1 0) (t.2.1 15) x1 N _ hr) rfl rfl rfl rfl rfl rfl
set_option maxHeartbeats 4000000 in
set_option maxRecDepth 100000 in
theorem CR_by (l : Launch) (G : va_G × (Nat → ClassId)) (Y : (Nat → Nat) × (Nat → Nat)) (a : Nat → Nat) (N : Nat) (t : SR) (x1 : Int32) (x2 : Int32) (v : Int32) (t' : SR) (h : sR_by N t x1 x2 = some (v, t')) : Ci l classes y_R_by b_R_by 3 (some .boolean) (rmk 2) G.1 (tyL G) Y [.ref (a 0), .int x1, .int x2] (WR G a t) (WR G a t') v := by
  obtain ⟨r, hr, h⟩ := db_e h
  cases h
  exact Ci.mask [true, true, false, false, false, false, false, false, false, false, false, false, false, false, false, false, false, false, true] (c_R_by l G Y (a 0) (a 1) (a 15) (a 13) (a 18) (a 16) (a 12) (a 9) (a 14) (a 5) (a 6) (a 2) (a 3) (a 4) (a 11) (a 17) (a 8) (a 10) (a 7) (t.1 0) (t.1 1) (t.1 2) (t.1 3) (t.1 4) (t.1 5) (t.1 6) (t.1 7) (t.2.2 99 0) (t.1 8) (t.1 9) (t.1 10) (t.1 11) (t.1 12) (t.1 13) (t.1 14) (t.1 15) (t.1 16) (t.1 17) (t.1 18) (t.1 19) (t.1 20) (t.1 21) (t.1 22) (t.1 23) (t.1 24) (t.2.1 0) (t.2.1 15) x1 x2 N _ hr) rfl rfl rfl rfl rfl rfl
set_option maxHeartbeats 4000000 in
set_option maxRecDepth 100000 in
theorem CR_limit (l : Launch) (G : va_G × (Nat → ClassId)) (Y : (Nat → Nat) × (Nat → Nat)) (a : Nat → Nat) (N : Nat) (t : SR) (x1 : Int32) (v : Int32) (t' : SR) (h : sR_limit N t x1 = some (v, t')) : Ci l classes y_R_limit b_R_limit 2 (some .boolean) (rmk 1) G.1 (tyL G) Y [.ref (a 0), .int x1] (WR G a t) (WR G a t') v := by
  obtain ⟨r, hr, h⟩ := db_e h
  cases h
  exact Ci.mask [true, true, false, false, false, false, false, false, false, false, false, false, false, false, false, false, false, false, true] (c_R_limit l G Y (a 0) (a 1) (a 15) (a 13) (a 18) (a 16) (a 12) (a 9) (a 14) (a 5) (a 6) (a 2) (a 3) (a 4) (a 11) (a 17) (a 8) (a 10) (a 7) (t.1 0) (t.1 1) (t.1 2) (t.1 3) (t.1 4) (t.1 5) (t.1 6) (t.1 7) (t.2.2 99 0) (t.1 8) (t.1 9) (t.1 10) (t.1 11) (t.1 12) (t.1 13) (t.1 14) (t.1 15) (t.1 16) (t.1 17) (t.1 18) (t.1 19) (t.1 20) (t.1 21) (t.1 22) (t.1 23) (t.1 24) (t.2.1 0) (t.2.1 15) x1 N _ hr) rfl rfl rfl rfl rfl rfl
set_option maxHeartbeats 4000000 in
set_option maxRecDepth 100000 in
theorem CR_choose (l : Launch) (G : va_G × (Nat → ClassId)) (Y : (Nat → Nat) × (Nat → Nat)) (a : Nat → Nat) (N : Nat) (t : SR) (v : Int32) (t' : SR) (h : sR_choose N t = some (v, t')) : Ci l classes y_R_choose b_R_choose 2 (some .int) (rmk 5) G.1 (tyL G) Y [.ref (a 0)] (WR G a t) (WR G a t') v := by
  obtain ⟨r, hr, h⟩ := db_e h
  cases h
  exact Ci.mask [true, true, true, true, true, true, true, false, false, false, false, true, false, false, true, false, false, true, true] (c_R_choose l G Y (a 0) (a 1) (a 15) (a 13) (a 18) (a 16) (a 12) (a 9) (a 14) (a 5) (a 6) (a 2) (a 3) (a 4) (a 11) (a 17) (a 8) (a 10) (a 7) (t.1 0) (t.1 1) (t.1 2) (t.1 3) (t.1 4) (t.1 5) (t.1 6) (t.1 7) (t.2.2 99 0) (t.1 8) (t.1 9) (t.1 10) (t.1 11) (t.1 12) (t.1 13) (t.1 14) (t.1 15) (t.1 16) (t.1 17) (t.1 18) (t.1 19) (t.1 20) (t.1 21) (t.1 22) (t.1 23) (t.1 24) (t.2.1 0) (t.2.2 0) (t.2.1 1) (t.2.1 2) (t.2.1 3) (t.2.1 4) (t.2.1 9) (t.2.2 1) (t.2.1 14) (t.2.1 15) N _ hr) rfl rfl rfl rfl rfl rfl
set_option maxHeartbeats 4000000 in
set_option maxRecDepth 100000 in
theorem CR_step (l : Launch) (G : va_G × (Nat → ClassId)) (Y : (Nat → Nat) × (Nat → Nat)) (a : Nat → Nat) (N : Nat) (t : SR) (v : Int32) (t' : SR) (h : sR_step N t = some (v, t')) : Ci l classes y_R_step b_R_step 4 (some .int) (rmk 5) G.1 (tyL G) Y [.ref (a 0)] (WR G a t) (WR G a t') v := by
  obtain ⟨r, hr, h⟩ := db_e h
  cases h
  exact Ci.mask [true, true, true, true, true, true, true, false, true, true, false, true, false, false, true, false, false, false, true] (c_R_step l G Y (a 0) (a 1) (a 15) (a 13) (a 18) (a 16) (a 12) (a 9) (a 14) (a 5) (a 6) (a 2) (a 3) (a 4) (a 11) (a 17) (a 8) (a 10) (a 7) (t.1 0) (t.1 1) (t.1 2) (t.1 3) (t.1 4) (t.1 5) (t.1 6) (t.1 7) (t.2.2 99 0) (t.1 8) (t.1 9) (t.1 10) (t.1 11) (t.1 12) (t.1 13) (t.1 14) (t.1 15) (t.1 16) (t.1 17) (t.1 18) (t.1 19) (t.1 20) (t.1 21) (t.1 22) (t.1 23) (t.1 24) (t.2.1 0) (t.2.2 0) (t.2.1 1) (t.2.1 2) (t.2.1 3) (t.2.1 4) (t.2.1 6) (t.2.1 7) (t.2.1 9) (t.2.2 1) (t.2.1 15) N _ hr) rfl rfl rfl rfl rfl rfl
set_option maxHeartbeats 4000000 in
set_option maxRecDepth 100000 in
theorem CR_undo (l : Launch) (G : va_G × (Nat → ClassId)) (Y : (Nat → Nat) × (Nat → Nat)) (a : Nat → Nat) (N : Nat) (t : SR) (v : Int32) (t' : SR) (h : sR_undo N t = some (v, t')) : Ci l classes y_R_undo b_R_undo 2 (some .int) (rmk 0) G.1 (tyL G) Y [.ref (a 0)] (WR G a t) (WR G a t') v := by
  obtain ⟨r, hr, h⟩ := db_e h
  cases h
  exact Ci.mask [true, true, false, false, false, false, false, false, false, false, false, false, false, false, false, false, false, false, true] (c_R_undo l G Y (a 0) (a 1) (a 15) (a 13) (a 18) (a 16) (a 12) (a 9) (a 14) (a 5) (a 6) (a 2) (a 3) (a 4) (a 11) (a 17) (a 8) (a 10) (a 7) (t.1 0) (t.1 1) (t.1 2) (t.1 3) (t.1 4) (t.1 5) (t.1 6) (t.1 7) (t.2.2 99 0) (t.1 8) (t.1 9) (t.1 10) (t.1 11) (t.1 12) (t.1 13) (t.1 14) (t.1 15) (t.1 16) (t.1 17) (t.1 18) (t.1 19) (t.1 20) (t.1 21) (t.1 22) (t.1 23) (t.1 24) (t.2.1 0) (t.2.1 15) N _ hr) rfl rfl rfl rfl rfl rfl
set_option maxHeartbeats 4000000 in
set_option maxRecDepth 100000 in
theorem CR_count (l : Launch) (G : va_G × (Nat → ClassId)) (Y : (Nat → Nat) × (Nat → Nat)) (a : Nat → Nat) (N : Nat) (t : SR) (x1 : Int32) (v : Int32) (t' : SR) (h : sR_count N t x1 = some (v, t')) : Ci l classes y_R_count b_R_count 3 (some .int) (rmk 5) G.1 (tyL G) Y [.ref (a 0), .int x1] (WR G a t) (WR G a t') v := by
  obtain ⟨r, hr, h⟩ := db_e h
  cases h
  exact Ci.mask [true, true, true, true, true, true, true, false, false, false, false, true, false, false, true, false, false, true, false] (c_R_count l G Y (a 0) (a 1) (a 15) (a 13) (a 18) (a 16) (a 12) (a 9) (a 14) (a 5) (a 6) (a 2) (a 3) (a 4) (a 11) (a 17) (a 8) (a 10) (a 7) (t.1 0) (t.1 1) (t.1 2) (t.1 3) (t.1 4) (t.1 5) (t.1 6) (t.1 7) (t.2.2 99 0) (t.1 8) (t.1 9) (t.1 10) (t.1 11) (t.1 12) (t.1 13) (t.1 14) (t.1 15) (t.1 16) (t.1 17) (t.1 18) (t.1 19) (t.1 20) (t.1 21) (t.1 22) (t.1 23) (t.1 24) (t.2.1 0) (t.2.2 0) (t.2.1 1) (t.2.1 2) (t.2.1 3) (t.2.1 4) (t.2.1 9) (t.2.2 1) (t.2.1 14) x1 N _ hr) rfl rfl rfl rfl rfl rfl
set_option maxHeartbeats 4000000 in
set_option maxRecDepth 100000 in
theorem CR_edge (l : Launch) (G : va_G × (Nat → ClassId)) (Y : (Nat → Nat) × (Nat → Nat)) (a : Nat → Nat) (N : Nat) (t : SR) (x1 : Int32) (x2 : Int32) (v : Int32) (t' : SR) (h : sR_edge t x1 x2 = some (v, t')) : Ci l classes y_R_edge b_R_edge 3 (some .int) (rmk 2) G.1 (tyL G) Y [.ref (a 0), .int x1, .int x2] (WR G a t) (WR G a t') v := by
  obtain ⟨r, hr, h⟩ := db_e h
  cases h
  exact Ci.mask [true, true, false, false, false, false, false, false, false, false, false, false, false, false, false, false, false, false, false] (c_R_edge l G Y (a 0) (a 1) (a 15) (a 13) (a 18) (a 16) (a 12) (a 9) (a 14) (a 5) (a 6) (a 2) (a 3) (a 4) (a 11) (a 17) (a 8) (a 10) (a 7) (t.1 0) (t.1 1) (t.1 2) (t.1 3) (t.1 4) (t.1 5) (t.1 6) (t.1 7) (t.2.2 99 0) (t.1 8) (t.1 9) (t.1 10) (t.1 11) (t.1 12) (t.1 13) (t.1 14) (t.1 15) (t.1 16) (t.1 17) (t.1 18) (t.1 19) (t.1 20) (t.1 21) (t.1 22) (t.1 23) (t.1 24) (t.2.1 0) x1 x2 _ hr) rfl rfl rfl rfl rfl rfl
set_option maxHeartbeats 4000000 in
set_option maxRecDepth 100000 in
theorem CR_size (l : Launch) (G : va_G × (Nat → ClassId)) (Y : (Nat → Nat) × (Nat → Nat)) (a : Nat → Nat) (N : Nat) (t : SR) (x1 : Int32) (x2 : Int32) (v : Int64) (t' : SR) (h : sR_size N t x1 x2 = some (v, t')) : Cl l classes y_R_size b_R_size 3 (some .long) (rmk 2) G.1 (tyL G) Y [.ref (a 0), .int x1, .int x2] (WR G a t) (WR G a t') v := by
  obtain ⟨r, hr, h⟩ := db_e h
  cases h
  exact Cl.mask [true, true, false, false, false, true, false, false, false, false, false, false, false, false, true, false, false, false, false] (c_R_size l G Y (a 0) (a 1) (a 15) (a 13) (a 18) (a 16) (a 12) (a 9) (a 14) (a 5) (a 6) (a 2) (a 3) (a 4) (a 11) (a 17) (a 8) (a 10) (a 7) (t.1 0) (t.1 1) (t.1 2) (t.1 3) (t.1 4) (t.1 5) (t.1 6) (t.1 7) (t.2.2 99 0) (t.1 8) (t.1 9) (t.1 10) (t.1 11) (t.1 12) (t.1 13) (t.1 14) (t.1 15) (t.1 16) (t.1 17) (t.1 18) (t.1 19) (t.1 20) (t.1 21) (t.1 22) (t.1 23) (t.1 24) (t.2.1 0) (t.2.1 3) (t.2.2 1) x1 x2 N _ hr) rfl rfl rfl rfl rfl rfl
set_option maxHeartbeats 4000000 in
set_option maxRecDepth 100000 in
theorem CR_connected (l : Launch) (G : va_G × (Nat → ClassId)) (Y : (Nat → Nat) × (Nat → Nat)) (a : Nat → Nat) (N : Nat) (t : SR) (x1 : Int32) (v : Int32) (t' : SR) (h : sR_connected N t x1 = some (v, t')) : Ci l classes y_R_connected b_R_connected 2 (some .boolean) (rmk 5) G.1 (tyL G) Y [.ref (a 0), .int x1] (WR G a t) (WR G a t') v := by
  obtain ⟨r, hr, h⟩ := db_e h
  cases h
  exact Ci.mask [true, true, true, true, true, true, true, false, false, false, false, false, false, false, true, false, false, false, false] (c_R_connected l G Y (a 0) (a 1) (a 15) (a 13) (a 18) (a 16) (a 12) (a 9) (a 14) (a 5) (a 6) (a 2) (a 3) (a 4) (a 11) (a 17) (a 8) (a 10) (a 7) (t.1 0) (t.1 1) (t.1 2) (t.1 3) (t.1 4) (t.1 5) (t.1 6) (t.1 7) (t.2.2 99 0) (t.1 8) (t.1 9) (t.1 10) (t.1 11) (t.1 12) (t.1 13) (t.1 14) (t.1 15) (t.1 16) (t.1 17) (t.1 18) (t.1 19) (t.1 20) (t.1 21) (t.1 22) (t.1 23) (t.1 24) (t.2.1 0) (t.2.2 0) (t.2.1 1) (t.2.1 2) (t.2.1 3) (t.2.1 4) (t.2.2 1) x1 N _ hr) rfl rfl rfl rfl rfl rfl
set_option maxHeartbeats 4000000 in
set_option maxRecDepth 100000 in
theorem CR_joined (l : Launch) (G : va_G × (Nat → ClassId)) (Y : (Nat → Nat) × (Nat → Nat)) (a : Nat → Nat) (N : Nat) (t : SR) (x1 : Int32) (x2 : Int32) (v : Int32) (t' : SR) (h : sR_joined N t x1 x2 = some (v, t')) : Ci l classes y_R_joined b_R_joined 3 (some .boolean) (rmk 2) G.1 (tyL G) Y [.ref (a 0), .int x1, .int x2] (WR G a t) (WR G a t') v := by
  obtain ⟨r, hr, h⟩ := db_e h
  cases h
  exact Ci.mask [true, true, false, false, false, false, false, false, false, false, false, false, false, false, false, false, false, false, false] (c_R_joined l G Y (a 0) (a 1) (a 15) (a 13) (a 18) (a 16) (a 12) (a 9) (a 14) (a 5) (a 6) (a 2) (a 3) (a 4) (a 11) (a 17) (a 8) (a 10) (a 7) (t.1 0) (t.1 1) (t.1 2) (t.1 3) (t.1 4) (t.1 5) (t.1 6) (t.1 7) (t.2.2 99 0) (t.1 8) (t.1 9) (t.1 10) (t.1 11) (t.1 12) (t.1 13) (t.1 14) (t.1 15) (t.1 16) (t.1 17) (t.1 18) (t.1 19) (t.1 20) (t.1 21) (t.1 22) (t.1 23) (t.1 24) (t.2.1 0) x1 x2 N _ hr) rfl rfl rfl rfl rfl rfl
set_option maxHeartbeats 4000000 in
set_option maxRecDepth 100000 in
theorem CR_pair (l : Launch) (G : va_G × (Nat → ClassId)) (Y : (Nat → Nat) × (Nat → Nat)) (a : Nat → Nat) (N : Nat) (t : SR) (x1 : Int32) (x2 : Int32) (v : Int32) (t' : SR) (h : sR_pair N t x1 x2 = some (v, t')) : Ci l classes y_R_pair b_R_pair 6 (some .int) (rmk 5) G.1 (tyL G) Y [.ref (a 0), .int x1, .int x2] (WR G a t) (WR G a t') v := by
  obtain ⟨r, hr, h⟩ := db_e h
  cases h
  exact Ci.mask [true, true, true, true, true, true, true, false, false, false, false, false, false, false, true, false, false, false, false] (c_R_pair l G Y (a 0) (a 1) (a 15) (a 13) (a 18) (a 16) (a 12) (a 9) (a 14) (a 5) (a 6) (a 2) (a 3) (a 4) (a 11) (a 17) (a 8) (a 10) (a 7) (t.1 0) (t.1 1) (t.1 2) (t.1 3) (t.1 4) (t.1 5) (t.1 6) (t.1 7) (t.2.2 99 0) (t.1 8) (t.1 9) (t.1 10) (t.1 11) (t.1 12) (t.1 13) (t.1 14) (t.1 15) (t.1 16) (t.1 17) (t.1 18) (t.1 19) (t.1 20) (t.1 21) (t.1 22) (t.1 23) (t.1 24) (t.2.1 0) (t.2.2 0) (t.2.1 1) (t.2.1 2) (t.2.1 3) (t.2.1 4) (t.2.2 1) x1 x2 N _ hr) rfl rfl rfl rfl rfl rfl
set_option maxHeartbeats 4000000 in
set_option maxRecDepth 100000 in
theorem CR_best (l : Launch) (G : va_G × (Nat → ClassId)) (Y : (Nat → Nat) × (Nat → Nat)) (a : Nat → Nat) (N : Nat) (t : SR) (x1 : Int32) (x2 : Int32) (x3 : Int32) (v : Int64) (t' : SR) (h : sR_best N t x1 x2 x3 = some (v, t')) : Cl l classes y_R_best b_R_best 5 (some .long) (rmk 5) G.1 (tyL G) Y [.ref (a 0), .int x1, .int x2, .int x3] (WR G a t) (WR G a t') v := by
  obtain ⟨r, hr, h⟩ := db_e h
  cases h
  exact Cl.mask [true, true, true, true, true, true, true, false, false, false, false, false, false, false, true, false, false, false, false] (c_R_best l G Y (a 0) (a 1) (a 15) (a 13) (a 18) (a 16) (a 12) (a 9) (a 14) (a 5) (a 6) (a 2) (a 3) (a 4) (a 11) (a 17) (a 8) (a 10) (a 7) (t.1 0) (t.1 1) (t.1 2) (t.1 3) (t.1 4) (t.1 5) (t.1 6) (t.1 7) (t.2.2 99 0) (t.1 8) (t.1 9) (t.1 10) (t.1 11) (t.1 12) (t.1 13) (t.1 14) (t.1 15) (t.1 16) (t.1 17) (t.1 18) (t.1 19) (t.1 20) (t.1 21) (t.1 22) (t.1 23) (t.1 24) (t.2.1 0) (t.2.2 0) (t.2.1 1) (t.2.1 2) (t.2.1 3) (t.2.1 4) (t.2.2 1) x1 x2 x3 N _ hr) rfl rfl rfl rfl rfl rfl
set_option maxHeartbeats 4000000 in
set_option maxRecDepth 100000 in
theorem CR_greedy (l : Launch) (G : va_G × (Nat → ClassId)) (Y : (Nat → Nat) × (Nat → Nat)) (a : Nat → Nat) (N : Nat) (t : SR) (x1 : Int32) (v : Int64) (t' : SR) (h : sR_greedy N t x1 = some (v, t')) : Cl l classes y_R_greedy b_R_greedy 2 (some .long) (rmk 5) G.1 (tyL G) Y [.ref (a 0), .int x1] (WR G a t) (WR G a t') v := by
  obtain ⟨r, hr, h⟩ := db_e h
  cases h
  exact Cl.mask [true, true, true, true, true, true, true, false, false, false, false, true, false, false, true, false, false, true, false] (c_R_greedy l G Y (a 0) (a 1) (a 15) (a 13) (a 18) (a 16) (a 12) (a 9) (a 14) (a 5) (a 6) (a 2) (a 3) (a 4) (a 11) (a 17) (a 8) (a 10) (a 7) (t.1 0) (t.1 1) (t.1 2) (t.1 3) (t.1 4) (t.1 5) (t.1 6) (t.1 7) (t.2.2 99 0) (t.1 8) (t.1 9) (t.1 10) (t.1 11) (t.1 12) (t.1 13) (t.1 14) (t.1 15) (t.1 16) (t.1 17) (t.1 18) (t.1 19) (t.1 20) (t.1 21) (t.1 22) (t.1 23) (t.1 24) (t.2.1 0) (t.2.2 0) (t.2.1 1) (t.2.1 2) (t.2.1 3) (t.2.1 4) (t.2.1 9) (t.2.2 1) (t.2.1 14) x1 N _ hr) rfl rfl rfl rfl rfl rfl
set_option maxHeartbeats 4000000 in
set_option maxRecDepth 100000 in
theorem CR_node (l : Launch) (G : va_G × (Nat → ClassId)) (Y : (Nat → Nat) × (Nat → Nat)) (a : Nat → Nat) (N : Nat) (t : SR) (x1 : Int32) (x2 : Int32) (v : Int64) (t' : SR) (h : sR_node N t x1 x2 = some (v, t')) : Cl l classes y_R_node b_R_node 4 (some .long) (rmk 5) G.1 (tyL G) Y [.ref (a 0), .int x1, .int x2] (WR G a t) (WR G a t') v := by
  obtain ⟨r, hr, h⟩ := db_e h
  cases h
  exact Cl.mask [true, true, true, true, true, true, true, false, true, true, false, true, false, false, true, false, false, false, false] (c_R_node l G Y (a 0) (a 1) (a 15) (a 13) (a 18) (a 16) (a 12) (a 9) (a 14) (a 5) (a 6) (a 2) (a 3) (a 4) (a 11) (a 17) (a 8) (a 10) (a 7) (t.1 0) (t.1 1) (t.1 2) (t.1 3) (t.1 4) (t.1 5) (t.1 6) (t.1 7) (t.2.2 99 0) (t.1 8) (t.1 9) (t.1 10) (t.1 11) (t.1 12) (t.1 13) (t.1 14) (t.1 15) (t.1 16) (t.1 17) (t.1 18) (t.1 19) (t.1 20) (t.1 21) (t.1 22) (t.1 23) (t.1 24) (t.2.1 0) (t.2.2 0) (t.2.1 1) (t.2.1 2) (t.2.1 3) (t.2.1 4) (t.2.1 6) (t.2.1 7) (t.2.1 9) (t.2.2 1) x1 x2 N _ hr) rfl rfl rfl rfl rfl rfl
set_option maxHeartbeats 4000000 in
set_option maxRecDepth 100000 in
theorem CR_cost (l : Launch) (G : va_G × (Nat → ClassId)) (Y : (Nat → Nat) × (Nat → Nat)) (a : Nat → Nat) (N : Nat) (t : SR) (v : Int64) (t' : SR) (h : sR_cost N t = some (v, t')) : Cl l classes y_R_cost b_R_cost 1 (some .long) (rmk 5) G.1 (tyL G) Y [.ref (a 0)] (WR G a t) (WR G a t') v := by
  obtain ⟨r, hr, h⟩ := db_e h
  cases h
  exact Cl.mask [true, true, true, true, true, true, true, false, false, false, false, true, false, false, true, false, false, false, false] (c_R_cost l G Y (a 0) (a 1) (a 15) (a 13) (a 18) (a 16) (a 12) (a 9) (a 14) (a 5) (a 6) (a 2) (a 3) (a 4) (a 11) (a 17) (a 8) (a 10) (a 7) (t.1 0) (t.1 1) (t.1 2) (t.1 3) (t.1 4) (t.1 5) (t.1 6) (t.1 7) (t.2.2 99 0) (t.1 8) (t.1 9) (t.1 10) (t.1 11) (t.1 12) (t.1 13) (t.1 14) (t.1 15) (t.1 16) (t.1 17) (t.1 18) (t.1 19) (t.1 20) (t.1 21) (t.1 22) (t.1 23) (t.1 24) (t.2.1 0) (t.2.2 0) (t.2.1 1) (t.2.1 2) (t.2.1 3) (t.2.1 4) (t.2.1 9) (t.2.2 1) N _ hr) rfl rfl rfl rfl rfl rfl
set_option maxHeartbeats 4000000 in
set_option maxRecDepth 100000 in
theorem CR_told (l : Launch) (G : va_G × (Nat → ClassId)) (Y : (Nat → Nat) × (Nat → Nat)) (a : Nat → Nat) (N : Nat) (t : SR) (x1 : Int32) (v : Int32) (t' : SR) (h : sR_told N t x1 = some (v, t')) : Ci l classes y_R_told b_R_told 2 (some .int) (rmk 2) G.1 (tyL G) Y [.ref (a 0), .int x1] (WR G a t) (WR G a t') v := by
  obtain ⟨r, hr, h⟩ := db_e h
  cases h
  exact Ci.mask [true, true, false, false, false, false, false, false, false, true, true, true, false, false, false, false, false, false, false] (c_R_told l G Y (a 0) (a 1) (a 15) (a 13) (a 18) (a 16) (a 12) (a 9) (a 14) (a 5) (a 6) (a 2) (a 3) (a 4) (a 11) (a 17) (a 8) (a 10) (a 7) (t.1 0) (t.1 1) (t.1 2) (t.1 3) (t.1 4) (t.1 5) (t.1 6) (t.1 7) (t.2.2 99 0) (t.1 8) (t.1 9) (t.1 10) (t.1 11) (t.1 12) (t.1 13) (t.1 14) (t.1 15) (t.1 16) (t.1 17) (t.1 18) (t.1 19) (t.1 20) (t.1 21) (t.1 22) (t.1 23) (t.1 24) (t.2.1 0) (t.2.1 7) (t.2.1 8) (t.2.1 9) x1 N _ hr) rfl rfl rfl rfl rfl rfl
set_option maxHeartbeats 4000000 in
set_option maxRecDepth 100000 in
theorem CR_move (l : Launch) (G : va_G × (Nat → ClassId)) (Y : (Nat → Nat) × (Nat → Nat)) (a : Nat → Nat) (N : Nat) (t : SR) (x1 : Int32) (v : Int64) (t' : SR) (h : sR_move N t x1 = some (v, t')) : Cl l classes y_R_move b_R_move 3 (some .long) (rmk 5) G.1 (tyL G) Y [.ref (a 0), .int x1] (WR G a t) (WR G a t') v := by
  obtain ⟨r, hr, h⟩ := db_e h
  cases h
  exact Cl.mask [true, true, true, true, true, true, true, false, true, true, false, true, false, false, true, false, false, false, false] (c_R_move l G Y (a 0) (a 1) (a 15) (a 13) (a 18) (a 16) (a 12) (a 9) (a 14) (a 5) (a 6) (a 2) (a 3) (a 4) (a 11) (a 17) (a 8) (a 10) (a 7) (t.1 0) (t.1 1) (t.1 2) (t.1 3) (t.1 4) (t.1 5) (t.1 6) (t.1 7) (t.2.2 99 0) (t.1 8) (t.1 9) (t.1 10) (t.1 11) (t.1 12) (t.1 13) (t.1 14) (t.1 15) (t.1 16) (t.1 17) (t.1 18) (t.1 19) (t.1 20) (t.1 21) (t.1 22) (t.1 23) (t.1 24) (t.2.1 0) (t.2.2 0) (t.2.1 1) (t.2.1 2) (t.2.1 3) (t.2.1 4) (t.2.1 6) (t.2.1 7) (t.2.1 9) (t.2.2 1) x1 N _ hr) rfl rfl rfl rfl rfl rfl
set_option maxHeartbeats 4000000 in
set_option maxRecDepth 100000 in
theorem CR_steps (l : Launch) (G : va_G × (Nat → ClassId)) (Y : (Nat → Nat) × (Nat → Nat)) (a : Nat → Nat) (N : Nat) (t : SR) (v : Int32) (t' : SR) (h : sR_steps N t = some (v, t')) : Ci l classes y_R_steps b_R_steps 5 (some .int) (rmk 5) G.1 (tyL G) Y [.ref (a 0)] (WR G a t) (WR G a t') v := by
  obtain ⟨r, hr, h⟩ := db_e h
  cases h
  exact Ci.mask [true, true, true, true, true, true, true, false, true, true, false, true, false, false, true, false, false, false, false] (c_R_steps l G Y (a 0) (a 1) (a 15) (a 13) (a 18) (a 16) (a 12) (a 9) (a 14) (a 5) (a 6) (a 2) (a 3) (a 4) (a 11) (a 17) (a 8) (a 10) (a 7) (t.1 0) (t.1 1) (t.1 2) (t.1 3) (t.1 4) (t.1 5) (t.1 6) (t.1 7) (t.2.2 99 0) (t.1 8) (t.1 9) (t.1 10) (t.1 11) (t.1 12) (t.1 13) (t.1 14) (t.1 15) (t.1 16) (t.1 17) (t.1 18) (t.1 19) (t.1 20) (t.1 21) (t.1 22) (t.1 23) (t.1 24) (t.2.1 0) (t.2.2 0) (t.2.1 1) (t.2.1 2) (t.2.1 3) (t.2.1 4) (t.2.1 6) (t.2.1 7) (t.2.1 9) (t.2.2 1) N _ hr) rfl rfl rfl rfl rfl rfl
set_option maxHeartbeats 4000000 in
set_option maxRecDepth 100000 in
theorem CR_would (l : Launch) (G : va_G × (Nat → ClassId)) (Y : (Nat → Nat) × (Nat → Nat)) (a : Nat → Nat) (N : Nat) (t : SR) (x1 : Int32) (x2 : Int32) (x3 : Int32) (v : Int64) (t' : SR) (h : sR_would N t x1 x2 x3 = some (v, t')) : Cl l classes y_R_would b_R_would 8 (some .long) (rmk 6) G.1 (tyL G) Y [.ref (a 0), .int x1, .int x2, .int x3] (WR G a t) (WR G a t') v := by
  obtain ⟨r, hr, h⟩ := db_e h
  cases h
  exact Cl.mask [true, true, true, true, true, true, true, false, false, false, false, false, false, false, true, false, false, false, false] (c_R_would l G Y (a 0) (a 1) (a 15) (a 13) (a 18) (a 16) (a 12) (a 9) (a 14) (a 5) (a 6) (a 2) (a 3) (a 4) (a 11) (a 17) (a 8) (a 10) (a 7) (t.1 0) (t.1 1) (t.1 2) (t.1 3) (t.1 4) (t.1 5) (t.1 6) (t.1 7) (t.2.2 99 0) (t.1 8) (t.1 9) (t.1 10) (t.1 11) (t.1 12) (t.1 13) (t.1 14) (t.1 15) (t.1 16) (t.1 17) (t.1 18) (t.1 19) (t.1 20) (t.1 21) (t.1 22) (t.1 23) (t.1 24) (t.2.1 0) (t.2.2 0) (t.2.1 1) (t.2.1 2) (t.2.1 3) (t.2.1 4) (t.2.2 1) x1 x2 x3 N _ hr) rfl rfl rfl rfl rfl rfl
set_option maxHeartbeats 4000000 in
set_option maxRecDepth 100000 in
theorem CR_needed (l : Launch) (G : va_G × (Nat → ClassId)) (Y : (Nat → Nat) × (Nat → Nat)) (a : Nat → Nat) (N : Nat) (t : SR) (x1 : Int32) (v : Int64) (t' : SR) (h : sR_needed N t x1 = some (v, t')) : Cl l classes y_R_needed b_R_needed 10 (some .long) (rmk 6) G.1 (tyL G) Y [.ref (a 0), .int x1] (WR G a t) (WR G a t') v := by
  obtain ⟨r, hr, h⟩ := db_e h
  cases h
  exact Cl.mask [true, true, true, true, true, true, true, true, false, false, false, false, false, false, true, false, false, false, false] (c_R_needed l G Y (a 0) (a 1) (a 15) (a 13) (a 18) (a 16) (a 12) (a 9) (a 14) (a 5) (a 6) (a 2) (a 3) (a 4) (a 11) (a 17) (a 8) (a 10) (a 7) (t.1 0) (t.1 1) (t.1 2) (t.1 3) (t.1 4) (t.1 5) (t.1 6) (t.1 7) (t.2.2 99 0) (t.1 8) (t.1 9) (t.1 10) (t.1 11) (t.1 12) (t.1 13) (t.1 14) (t.1 15) (t.1 16) (t.1 17) (t.1 18) (t.1 19) (t.1 20) (t.1 21) (t.1 22) (t.1 23) (t.1 24) (t.2.1 0) (t.2.2 0) (t.2.1 1) (t.2.1 2) (t.2.1 3) (t.2.1 4) (t.2.1 5) (t.2.2 1) x1 N _ hr) rfl rfl rfl rfl rfl rfl
set_option maxHeartbeats 4000000 in
set_option maxRecDepth 100000 in
theorem CR_image (l : Launch) (G : va_G × (Nat → ClassId)) (Y : (Nat → Nat) × (Nat → Nat)) (a : Nat → Nat) (N : Nat) (t : SR) (x1 : Int32) (v : Int32) (t' : SR) (h : sR_image N t x1 = some (v, t')) : Ci l classes y_R_image b_R_image 2 (some .boolean) (rmk 2) G.1 (tyL G) Y [.ref (a 0), .int x1] (WR G a t) (WR G a t') v := by
  obtain ⟨r, hr, h⟩ := db_e h
  cases h
  exact Ci.mask [true, true, false, false, false, false, false, false, false, false, false, false, false, true, false, true, false, false, false] (c_R_image l G Y (a 0) (a 1) (a 15) (a 13) (a 18) (a 16) (a 12) (a 9) (a 14) (a 5) (a 6) (a 2) (a 3) (a 4) (a 11) (a 17) (a 8) (a 10) (a 7) (t.1 0) (t.1 1) (t.1 2) (t.1 3) (t.1 4) (t.1 5) (t.1 6) (t.1 7) (t.2.2 99 0) (t.1 8) (t.1 9) (t.1 10) (t.1 11) (t.1 12) (t.1 13) (t.1 14) (t.1 15) (t.1 16) (t.1 17) (t.1 18) (t.1 19) (t.1 20) (t.1 21) (t.1 22) (t.1 23) (t.1 24) (t.2.1 0) (t.2.1 11) (t.2.1 12) x1 N _ hr) rfl rfl rfl rfl rfl rfl
set_option maxHeartbeats 4000000 in
set_option maxRecDepth 100000 in
theorem CR_again (l : Launch) (G : va_G × (Nat → ClassId)) (Y : (Nat → Nat) × (Nat → Nat)) (a : Nat → Nat) (N : Nat) (t : SR) (x1 : Int32) (v : Int32) (t' : SR) (h : sR_again N t x1 = some (v, t')) : Ci l classes y_R_again b_R_again 2 (some .boolean) (rmk 2) G.1 (tyL G) Y [.ref (a 0), .int x1] (WR G a t) (WR G a t') v := by
  obtain ⟨r, hr, h⟩ := db_e h
  cases h
  exact Ci.mask [true, true, false, false, false, false, false, false, false, false, false, false, false, true, false, true, false, false, false] (c_R_again l G Y (a 0) (a 1) (a 15) (a 13) (a 18) (a 16) (a 12) (a 9) (a 14) (a 5) (a 6) (a 2) (a 3) (a 4) (a 11) (a 17) (a 8) (a 10) (a 7) (t.1 0) (t.1 1) (t.1 2) (t.1 3) (t.1 4) (t.1 5) (t.1 6) (t.1 7) (t.2.2 99 0) (t.1 8) (t.1 9) (t.1 10) (t.1 11) (t.1 12) (t.1 13) (t.1 14) (t.1 15) (t.1 16) (t.1 17) (t.1 18) (t.1 19) (t.1 20) (t.1 21) (t.1 22) (t.1 23) (t.1 24) (t.2.1 0) (t.2.1 11) (t.2.1 12) x1 N _ hr) rfl rfl rfl rfl rfl rfl
set_option maxHeartbeats 4000000 in
set_option maxRecDepth 100000 in
theorem CR_thrown (l : Launch) (G : va_G × (Nat → ClassId)) (Y : (Nat → Nat) × (Nat → Nat)) (a : Nat → Nat) (N : Nat) (t : SR) (v : Int32) (t' : SR) (h : sR_thrown t = some (v, t')) : Ci l classes y_R_thrown b_R_thrown 1 (some .int) (rmk 0) G.1 (tyL G) Y [.ref (a 0)] (WR G a t) (WR G a t') v := by
  obtain ⟨r, hr⟩ : ∃ z, z = R_thrown (t.1 0) := ⟨_, rfl⟩
  have h := dn_e hr h
  cases h
  exact Ci.mask [true, false, false, false, false, false, false, false, false, false, false, false, false, false, false, false, false, false, false] (c_R_thrown l G Y (a 0) (a 1) (a 15) (a 13) (a 18) (a 16) (a 12) (a 9) (a 14) (a 5) (a 6) (a 2) (a 3) (a 4) (a 11) (a 17) (a 8) (a 10) (a 7) (t.1 0) (t.1 1) (t.1 2) (t.1 3) (t.1 4) (t.1 5) (t.1 6) (t.1 7) (t.2.2 99 0) (t.1 8) (t.1 9) (t.1 10) (t.1 11) (t.1 12) (t.1 13) (t.1 14) (t.1 15) (t.1 16) (t.1 17) (t.1 18) (t.1 19) (t.1 20) (t.1 21) (t.1 22) (t.1 23) (t.1 24) _ hr.symm) rfl rfl rfl rfl rfl rfl
