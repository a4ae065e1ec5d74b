def WJ (G : va_G × (Nat → ClassId)) (a : Nat → Nat) (s : SJ) : va_W := [(a 0, O_J (a 5) (a 2) (a 7) (a 8) (s.1 0) (s.1 1) (a 10) (a 9) (a 11) (a 1) (a 3) (a 6) (a 4) (a 15) (a 16) (a 12) (a 14) (a 13)), (a 1, O_B (s.1 2) (a 17) (a 18) (a 19)), (a 2, aU G [a 20, a 21, a 22]), (a 3, O_B (s.1 3) (a 23) (a 24) (a 25)), (a 4, O_V (a 26) (a 27)), (a 5, O_U (a 28) (a 29) (a 30) (s.1 4) (s.1 5) (s.1 6)), (a 6, O_A (a 32) (a 31) (s.1 7) (s.1 8) (s.1 9)), (a 7, aG G [a 33, a 34, a 35, a 36, a 37, a 38, a 39, a 40]), (a 8, aP G [a 41, a 42, a 43, a 44, a 45, a 46, a 47, a 48]), (a 9, O_L (s.1 10) (s.1 11) (s.1 12) (a 49) (a 51) (s.1 13) (a 50) (s.1 14) (s.1 15)), (a 10, O_Q (s.1 16) (s.1 17) (a 52) (s.1 18) (s.1 19) (s.1 20)), (a 11, O_S (s.1 21) (s.1 22) (s.1 23) (s.1 24) (s.1 25) (a 58) (a 53) (a 54) (s.1 26) (a 55) (a 57) (a 56)), (a 12, O_G (s.1 27) (s.1 28) (s.1 29) (a 62) (a 60) (a 61) (a 59)), (a 13, O_B (s.1 30) (a 63) (a 64) (a 65)), (a 14, O_S (s.1 31) (s.1 32) (s.1 33) (s.1 34) (s.1 35) (a 71) (a 66) (a 67) (s.1 36) (a 68) (a 70) (a 69)), (a 15, O_P (s.1 37) (s.1 38) (a 73) (a 72)), (a 16, aI G 29 (s.2.1 0)), (a 17, aJ G 256 (s.2.2.1 0)), (a 18, aI G 256 (s.2.1 1)), (a 19, aI G 256 (s.2.1 2)), (a 20, O_U (a 74) (a 75) (a 76) (s.2.2.2.1 0 0) (s.2.2.2.1 1 0) (s.2.2.2.1 2 0)), (a 21, O_U (a 77) (a 78) (a 79) (s.2.2.2.1 0 1) (s.2.2.2.1 1 1) (s.2.2.2.1 2 1)), (a 22, O_U (a 80) (a 81) (a 82) (s.2.2.2.1 0 2) (s.2.2.2.1 1 2) (s.2.2.2.1 2 2)), (a 23, aJ G 256 (s.2.2.1 1)), (a 24, aI G 256 (s.2.1 3)), (a 25, aI G 256 (s.2.1 4)), (a 26, O_P (s.1 39) (s.1 40) (a 84) (a 83)), (a 27, aI G 256 (s.2.1 5)), (a 28, O_G (s.1 41) (s.1 42) (s.1 43) (a 88) (a 86) (a 87) (a 85)), (a 29, O_P (s.1 44) (s.1 45) (a 90) (a 89)), (a 30, O_T (s.1 46) (a 91) (s.1 47) (s.1 48) (s.1 49) (s.1 50)), (a 31, aI G 8 (s.2.1 6)), (a 32, aI G 256 (s.2.1 7)), (a 33, O_G (s.2.2.2.1 3 0) (s.2.2.2.1 4 0) (s.2.2.2.1 5 0) (a 95) (a 93) (a 94) (a 92)), (a 34, O_G (s.2.2.2.1 3 1) (s.2.2.2.1 4 1) (s.2.2.2.1 5 1) (a 99) (a 97) (a 98) (a 96)), (a 35, O_G (s.2.2.2.1 3 2) (s.2.2.2.1 4 2) (s.2.2.2.1 5 2) (a 103) (a 101) (a 102) (a 100)), (a 36, O_G (s.2.2.2.1 3 3) (s.2.2.2.1 4 3) (s.2.2.2.1 5 3) (a 107) (a 105) (a 106) (a 104)), (a 37, O_G (s.2.2.2.1 3 4) (s.2.2.2.1 4 4) (s.2.2.2.1 5 4) (a 111) (a 109) (a 110) (a 108)), (a 38, O_G (s.2.2.2.1 3 5) (s.2.2.2.1 4 5) (s.2.2.2.1 5 5) (a 115) (a 113) (a 114) (a 112)), (a 39, O_G (s.2.2.2.1 3 6) (s.2.2.2.1 4 6) (s.2.2.2.1 5 6) (a 119) (a 117) (a 118) (a 116)), (a 40, O_G (s.2.2.2.1 3 7) (s.2.2.2.1 4 7) (s.2.2.2.1 5 7) (a 123) (a 121) (a 122) (a 120)), (a 41, O_P (s.2.2.2.1 6 0) (s.2.2.2.1 7 0) (a 125) (a 124)), (a 42, O_P (s.2.2.2.1 6 1) (s.2.2.2.1 7 1) (a 127) (a 126)), (a 43, O_P (s.2.2.2.1 6 2) (s.2.2.2.1 7 2) (a 129) (a 128)), (a 44, O_P (s.2.2.2.1 6 3) (s.2.2.2.1 7 3) (a 131) (a 130)), (a 45, O_P (s.2.2.2.1 6 4) (s.2.2.2.1 7 4) (a 133) (a 132)), (a 46, O_P (s.2.2.2.1 6 5) (s.2.2.2.1 7 5) (a 135) (a 134)), (a 47, O_P (s.2.2.2.1 6 6) (s.2.2.2.1 7 6) (a 137) (a 136)), (a 48, O_P (s.2.2.2.1 6 7) (s.2.2.2.1 7 7) (a 139) (a 138)), (a 49, aI G 256 (s.2.1 8)), (a 50, aI G 8 (s.2.1 9)), (a 51, aI G 501 (s.2.1 10)), (a 52, O_G (s.1 51) (s.1 52) (s.1 53) (a 143) (a 141) (a 142) (a 140)), (a 53, aZ G 256 (s.2.1 11)), (a 54, aZ G 256 (s.2.1 40)), (a 55, aI G 256 (s.2.1 12)), (a 56, aI G 256 (s.2.1 13)), (a 57, aI G 256 (s.2.1 14)), (a 58, aJ G 256 (s.2.2.1 2)), (a 59, aI G 16 (s.2.1 15)), (a 60, aI G 16 (s.2.1 16)), (a 61, aI G 16 (s.2.1 17)), (a 62, aI G 8 (s.2.1 18)), (a 63, aJ G 256 (s.2.2.1 3)), (a 64, aI G 256 (s.2.1 19)), (a 65, aI G 256 (s.2.1 20)), (a 66, aZ G 256 (s.2.1 21)), (a 67, aZ G 256 (s.2.1 41)), (a 68, aI G 256 (s.2.1 22)), (a 69, aI G 256 (s.2.1 23)), (a 70, aI G 256 (s.2.1 24)), (a 71, aJ G 256 (s.2.2.1 4)), (a 72, aI G 7 (s.2.1 25)), (a 73, aI G 7 (s.2.1 26)), (a 74, O_G (s.2.2.2.1 8 0) (s.2.2.2.1 9 0) (s.2.2.2.1 10 0) (a 147) (a 145) (a 146) (a 144)), (a 75, O_P (s.2.2.2.1 11 0) (s.2.2.2.1 12 0) (a 149) (a 148)), (a 76, O_T (s.2.2.2.1 13 0) (a 150) (s.2.2.2.1 14 0) (s.2.2.2.1 15 0) (s.2.2.2.1 16 0) (s.2.2.2.1 17 0)), (a 77, O_G (s.2.2.2.1 8 1) (s.2.2.2.1 9 1) (s.2.2.2.1 10 1) (a 154) (a 152) (a 153) (a 151)), (a 78, O_P (s.2.2.2.1 11 1) (s.2.2.2.1 12 1) (a 156) (a 155)), (a 79, O_T (s.2.2.2.1 13 1) (a 157) (s.2.2.2.1 14 1) (s.2.2.2.1 15 1) (s.2.2.2.1 16 1) (s.2.2.2.1 17 1)), (a 80, O_G (s.2.2.2.1 8 2) (s.2.2.2.1 9 2) (s.2.2.2.1 10 2) (a 161) (a 159) (a 160) (a 158)), (a 81, O_P (s.2.2.2.1 11 2) (s.2.2.2.1 12 2) (a 163) (a 162)), (a 82, O_T (s.2.2.2.1 13 2) (a 164) (s.2.2.2.1 14 2) (s.2.2.2.1 15 2) (s.2.2.2.1 16 2) (s.2.2.2.1 17 2)), (a 83, aI G 7 (s.2.1 27)), (a 84, aI G 7 (s.2.1 28)), (a 85, aI G 16 (s.2.1 29)), (a 86, aI G 16 (s.2.1 30)), (a 87, aI G 16 (s.2.1 31)), (a 88, aI G 8 (s.2.1 32)), (a 89, aI G 7 (s.2.1 33)), (a 90, aI G 7 (s.2.1 34)), (a 91, aI G 500 (s.2.1 35)), (a 92, aI G 16 (s.2.2.2.2 0 0)), (a 93, aI G 16 (s.2.2.2.2 1 0)), (a 94, aI G 16 (s.2.2.2.2 2 0)), (a 95, aI G 8 (s.2.2.2.2 3 0)), (a 96, aI G 16 (s.2.2.2.2 0 1)), (a 97, aI G 16 (s.2.2.2.2 1 1)), (a 98, aI G 16 (s.2.2.2.2 2 1)), (a 99, aI G 8 (s.2.2.2.2 3 1)), (a 100, aI G 16 (s.2.2.2.2 0 2)), (a 101, aI G 16 (s.2.2.2.2 1 2)), (a 102, aI G 16 (s.2.2.2.2 2 2)), (a 103, aI G 8 (s.2.2.2.2 3 2)), (a 104, aI G 16 (s.2.2.2.2 0 3)), (a 105, aI G 16 (s.2.2.2.2 1 3)), (a 106, aI G 16 (s.2.2.2.2 2 3)), (a 107, aI G 8 (s.2.2.2.2 3 3)), (a 108, aI G 16 (s.2.2.2.2 0 4)), (a 109, aI G 16 (s.2.2.2.2 1 4)), (a 110, aI G 16 (s.2.2.2.2 2 4)), (a 111, aI G 8 (s.2.2.2.2 3 4)), (a 112, aI G 16 (s.2.2.2.2 0 5)), (a 113, aI G 16 (s.2.2.2.2 1 5)), (a 114, aI G 16 (s.2.2.2.2 2 5)), (a 115, aI G 8 (s.2.2.2.2 3 5)), (a 116, aI G 16 (s.2.2.2.2 0 6)), (a 117, aI G 16 (s.2.2.2.2 1 6)), (a 118, aI G 16 (s.2.2.2.2 2 6)), (a 119, aI G 8 (s.2.2.2.2 3 6)), (a 120, aI G 16 (s.2.2.2.2 0 7)), (a 121, aI G 16 (s.2.2.2.2 1 7)), (a 122, aI G 16 (s.2.2.2.2 2 7)), (a 123, aI G 8 (s.2.2.2.2 3 7)), (a 124, aI G 7 (s.2.2.2.2 4 0)), (a 125, aI G 7 (s.2.2.2.2 5 0)), (a 126, aI G 7 (s.2.2.2.2 4 1)), (a 127, aI G 7 (s.2.2.2.2 5 1)), (a 128, aI G 7 (s.2.2.2.2 4 2)), (a 129, aI G 7 (s.2.2.2.2 5 2)), (a 130, aI G 7 (s.2.2.2.2 4 3)), (a 131, aI G 7 (s.2.2.2.2 5 3)), (a 132, aI G 7 (s.2.2.2.2 4 4)), (a 133, aI G 7 (s.2.2.2.2 5 4)), (a 134, aI G 7 (s.2.2.2.2 4 5)), (a 135, aI G 7 (s.2.2.2.2 5 5)), (a 136, aI G 7 (s.2.2.2.2 4 6)), (a 137, aI G 7 (s.2.2.2.2 5 6)), (a 138, aI G 7 (s.2.2.2.2 4 7)), (a 139, aI G 7 (s.2.2.2.2 5 7)), (a 140, aI G 16 (s.2.1 36)), (a 141, aI G 16 (s.2.1 37)), (a 142, aI G 16 (s.2.1 38)), (a 143, aI G 8 (s.2.1 39)), (a 144, aI G 16 (s.2.2.2.2 6 0)), (a 145, aI G 16 (s.2.2.2.2 7 0)), (a 146, aI G 16 (s.2.2.2.2 8 0)), (a 147, aI G 8 (s.2.2.2.2 9 0)), (a 148, aI G 7 (s.2.2.2.2 10 0)), (a 149, aI G 7 (s.2.2.2.2 11 0)), (a 150, aI G 500 (s.2.2.2.2 12 0)), (a 151, aI G 16 (s.2.2.2.2 6 1)), (a 152, aI G 16 (s.2.2.2.2 7 1)), (a 153, aI G 16 (s.2.2.2.2 8 1)), (a 154, aI G 8 (s.2.2.2.2 9 1)), (a 155, aI G 7 (s.2.2.2.2 10 1)), (a 156, aI G 7 (s.2.2.2.2 11 1)), (a 157, aI G 500 (s.2.2.2.2 12 1)), (a 158, aI G 16 (s.2.2.2.2 6 2)), (a 159, aI G 16 (s.2.2.2.2 7 2)), (a 160, aI G 16 (s.2.2.2.2 8 2)), (a 161, aI G 8 (s.2.2.2.2 9 2)), (a 162, aI G 7 (s.2.2.2.2 10 2)), (a 163, aI G 7 (s.2.2.2.2 11 2)), (a 164, aI G 500 (s.2.2.2.2 12 2))]
def WR (G : va_G × (Nat → ClassId)) (a : Nat → Nat) (t : SR) : va_W := [(a 0, O_R (t.1 0) (a 1) (a 15) (a 13) (a 18) (t.1 1) (t.1 2) (t.1 3) (t.1 4) (t.1 5) (t.1 6) (t.1 7) (t.2.2 99 0) (t.1 8) (t.1 9) (t.1 10) (a 16) (t.1 11) (t.1 12) (a 12) (t.1 13) (a 9) (t.1 14) (t.1 15) (t.1 16) (a 14) (a 5) (a 6) (a 2) (a 3) (a 4) (a 11) (a 17) (t.1 17) (a 8) (t.1 18) (t.1 19) (t.1 20) (t.1 21) (t.1 22) (t.1 23) (a 10) (t.1 24) (a 7)), (a 1, aI G 1276 (t.2.1 0)), (a 2, aJ G 512 (t.2.2 0)), (a 3, aI G 512 (t.2.1 1)), (a 4, aI G 512 (t.2.1 2)), (a 5, aZ G 256 (t.2.1 3)), (a 6, aZ G 256 (t.2.1 4)), (a 7, aI G 64 (t.2.1 5)), (a 8, aI G 8 (t.2.1 6)), (a 9, aI G 502 (t.2.1 7)), (a 10, aB G 80 (t.2.1 8)), (a 11, aI G 256 (t.2.1 9)), (a 12, aI G 502 (t.2.1 10)), (a 13, aZ G 3 (t.2.1 11)), (a 14, aJ G 256 (t.2.2 1)), (a 15, aB G 2000 (t.2.1 12)), (a 16, aI G 316 (t.2.1 13)), (a 17, aI G 8 (t.2.1 14)), (a 18, aI G 2528 (t.2.1 15))]
def s0J : SJ := ((va_up (va_up (va_up (va_up (fun _ => 0) 5 (-1)) 29 1000) 43 1000) 53 1000), fun _ _ => 0, fun _ _ => 0, (va_up (va_up (va_up (fun _ _ => 0) 1 (fun _ => (-1))) 5 (fun _ => 1000)) 10 (fun _ => 1000)), fun _ _ _ => 0)
def t0R : SR := (fun _ => 0, va_up (fun _ _ => 0) 0 (upd (upd (fun _ => 0) (58 : Int32).toNatClampNeg 1000) (318 : Int32).toNatClampNeg (-1)), fun _ _ => 0)
set_option maxRecDepth 100000 in
theorem WJ_0 (G : va_G × (Nat → ClassId)) (a : Nat → Nat) : WJ G a s0J = w_J G a := rfl
set_option maxRecDepth 100000 in
theorem WR_0 (G : va_G × (Nat → ClassId)) (a : Nat → Nat) : WR G a t0R = w_R G a := rfl
set_option maxRecDepth 100000 in
theorem WJ_a (G : va_G × (Nat → ClassId)) (a : Nat → Nat) (s s' : SJ) : (WJ G a s').map Prod.fst = (WJ G a s).map Prod.fst := rfl
set_option maxRecDepth 100000 in
theorem WR_a (G : va_G × (Nat → ClassId)) (a : Nat → Nat) (t t' : SR) : (WR G a t').map Prod.fst = (WR G a t).map Prod.fst := rfl
set_option maxRecDepth 100000 in
theorem WJ_n (G : va_G × (Nat → ClassId)) (a : Nat → Nat) (s : SJ) : (WJ G a s).length = 165 := rfl
set_option maxRecDepth 100000 in
theorem WR_n (G : va_G × (Nat → ClassId)) (a : Nat → Nat) (t : SR) : (WR G a t).length = 19 := rfl
def mk_p {α : Type} : List Bool → List α → List α
  | true :: m, x :: l => x :: mk_p m l
  | false :: m, _ :: l => mk_p m l
  | _, _ => []
def mk_i : Nat → List Bool → List Nat
  | n, true :: m => n :: mk_i (n + 1) m
  | n, false :: m => mk_i (n + 1) m
  | _, [] => []
theorem mk_im : ∀ (m : List Bool) (n k : Nat), k ∈ mk_i n m ↔ ∃ i, k = n + i ∧ m[i]? = some true
  | [], n, k => by simp [mk_i]
  | b :: m, n, k => by
    have ih := mk_im m (n + 1) k
    have step : (∃ i, k = n + 1 + i ∧ m[i]? = some true) ↔ ∃ i, k = n + (i + 1) ∧ (b :: m)[i + 1]? = some true := by
      constructor
      · rintro ⟨i, h1, h2⟩
        exact ⟨i, by omega, by simpa using h2⟩
      · rintro ⟨i, h1, h2⟩
        exact ⟨i, by omega, by simpa using h2⟩
    cases b with
    | true =>
      rw [mk_i, List.mem_cons, ih, step]
      constructor
      · rintro (h | ⟨i, h1, h2⟩)
        · exact ⟨0, by omega, rfl⟩
        · exact ⟨i + 1, h1, h2⟩
      · rintro ⟨i, h1, h2⟩
        cases i with
        | zero => exact Or.inl (by omega)
        | succ i => exact Or.inr ⟨i, h1, h2⟩
    | false =>
      rw [mk_i, ih, step]
      constructor
      · rintro ⟨i, h1, h2⟩
        exact ⟨i + 1, h1, h2⟩
      · rintro ⟨i, h1, h2⟩
        cases i with
        | zero => cases h2
        | succ i => exact ⟨i, h1, h2⟩
theorem mk_nd : ∀ (m : List Bool) (n : Nat), va_nd (mk_i n m) = true
  | [], n => rfl
  | true :: m, n => by
    rw [mk_i, va_nd, Bool.and_eq_true, decide_eq_true_eq]
    refine ⟨fun h => ?_, mk_nd m (n + 1)⟩
    obtain ⟨i, h1, h2⟩ := (mk_im m (n + 1) n).mp h
    omega
  | false :: m, n => by
    rw [mk_i]
    exact mk_nd m (n + 1)
theorem mk_pi {α : Type} : ∀ (m : List Bool) (ws : List α) (n : Nat) (f : Nat → Option α), (∀ i, f (n + i) = ws[i]?) → m.length = ws.length → (mk_i n m).map f = (mk_p m ws).map some
  | [], _, n, f, _, _ => by cases ‹List α› <;> rfl
  | b :: m, [], n, f, _, h => by cases h
  | b :: m, x :: ws, n, f, hf, h => by
    have ih := mk_pi m ws (n + 1) f (fun i => by rw [show n + 1 + i = n + (i + 1) by omega, hf]; simp) (by simpa using h)
    cases b with
    | true =>
      rw [mk_i, mk_p, List.map_cons, List.map_cons, ih]
      congr 1
      exact hf 0
    | false =>
      rw [mk_i, mk_p, ih]
theorem mk_cov (m : List Bool) (k : Nat) (h : k < m.length) : k ∈ mk_i 0 m ∨ k ∈ mk_i 0 (m.map not) := by
  rw [mk_im, mk_im]
  cases hb : m[k] with
  | true => exact Or.inl ⟨k, by omega, by rw [List.getElem?_eq_getElem h, hb]⟩
  | false => exact Or.inr ⟨k, by omega, by rw [List.getElem?_map, List.getElem?_eq_getElem h, hb]; rfl⟩
theorem mk_dis (m : List Bool) : ∀ i ∈ mk_i 0 (m.map not), i ∉ mk_i 0 m := by
  intro i h1 h2
  obtain ⟨j, e1, f1⟩ := (mk_im _ _ _).mp h1
  obtain ⟨k, e2, f2⟩ := (mk_im _ _ _).mp h2
  have : j = k := by omega
  subst this
  rw [List.getElem?_map, f2] at f1
  cases f1
section MASKF
variable {l : Launch} {cl : List vw_C} {y : MethodName} {b : ByteArray} {n : Nat} {r : Option FieldType} {rm : Room} {D : va_G} {ty : List (ClassId × FieldType)} {Y : (Nat → Nat) × (Nat → Nat)} {av : List Value} {wc w1 ws ws' : va_W}
theorem Ci.mask {v : Int32} (mk : List Bool) (h : Ci l cl y b n r rm D ty Y av wc w1 v) (e1 : mk_p mk ws = wc) (e2 : mk_p mk ws' = w1) (e3 : mk_p (mk.map not) ws' = mk_p (mk.map not) ws) (hadr : w1.map Prod.fst = wc.map Prod.fst) (l1 : mk.length = ws.length) (l2 : mk.length = ws'.length) : Ci l cl y b n r rm D ty Y av ws ws' v := by
  have z : ∀ (w : va_W) (i : Nat), w[0 + i]? = w[i]? := fun w i => by rw [Nat.zero_add]
  refine Ci.frame (isC := mk_i 0 mk) (isR := mk_i 0 (mk.map not)) (nn := mk.length) h (by rw [← e1]; exact mk_pi _ _ 0 _ (z ws) l1) hadr (by rw [← e2]; exact mk_pi _ _ 0 _ (z ws') l2) ?_ l2.symm (fun k hk => mk_cov mk k hk) (mk_dis mk) (mk_nd mk 0)
  rw [mk_pi _ _ 0 _ (z ws') (by rw [List.length_map]; exact l2), mk_pi _ _ 0 _ (z ws) (by rw [List.length_map]; exact l1), e3]
theorem Cl.mask {v : Int64} (mk : List Bool) (h : Cl l cl y b n r rm D ty Y av wc w1 v) (e1 : mk_p mk ws = wc) (e2 : mk_p mk ws' = w1) (e3 : mk_p (mk.map not) ws' = mk_p (mk.map not) ws) (hadr : w1.map Prod.fst = wc.map Prod.fst) (l1 : mk.length = ws.length) (l2 : mk.length = ws'.length) : Cl l cl y b n r rm D ty Y av ws ws' v := by
  have z : ∀ (w : va_W) (i : Nat), w[0 + i]? = w[i]? := fun w i => by rw [Nat.zero_add]
  refine Cl.frame (isC := mk_i 0 mk) (isR := mk_i 0 (mk.map not)) (nn := mk.length) h (by rw [← e1]; exact mk_pi _ _ 0 _ (z ws) l1) hadr (by rw [← e2]; exact mk_pi _ _ 0 _ (z ws') l2) ?_ l2.symm (fun k hk => mk_cov mk k hk) (mk_dis mk) (mk_nd mk 0)
  rw [mk_pi _ _ 0 _ (z ws') (by rw [List.length_map]; exact l2), mk_pi _ _ 0 _ (z ws) (by rw [List.length_map]; exact l1), e3]
end MASKF
