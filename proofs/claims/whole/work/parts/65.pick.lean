def qlr (s : Nat) : Nat := qpop (qlow s - 1)
theorem qlr_q (s : Nat) (hs : s < 256) (h0 : s ≠ 0) : qlow s = 2 ^ qlr s ∧ s.testBit (qlr s) = true ∧ ∀ i, i < qlr s → s.testBit i = false := by
  have : ∀ s, s < 256 → s ≠ 0 → qlow s = 2 ^ qlr s ∧ s.testBit (qlr s) = true ∧ ∀ i, i < qlr s → s.testBit i = false := by decide +kernel
  exact this s hs h0
theorem qlr_u (s r : Nat) (hs : s < 256) (h1 : s.testBit r = true) (h2 : ∀ i, i < r → s.testBit i = false) : qlr s = r := by
  have h0 : s ≠ 0 := by intro e; subst e; simp at h1
  have ⟨a, b, c⟩ := qlr_q s hs h0
  by_cases e1 : qlr s < r
  · rw [h2 _ e1] at b; cases b
  · by_cases e2 : r < qlr s
    · rw [c _ e2] at h1; cases h1
    · omega
theorem qlow_dis (a b : Nat) (ha : a < 256) (hb : b < 256) (a0 : a ≠ 0) (b0 : b ≠ 0) (h : a &&& b = 0) :
    (qlow a < qlow b ∧ qlow (a ||| b) = qlow a) ∨ (qlow b < qlow a ∧ qlow (a ||| b) = qlow b) := by
  have ⟨A1, A2, A3⟩ := qlr_q a ha a0
  have ⟨B1, B2, B3⟩ := qlr_q b hb b0
  have hor : a ||| b < 256 := q_or_lt (n := 8) ha hb
  have hor0 : a ||| b ≠ 0 := by have := @Nat.left_le_or a b; omega
  have ne : qlr a ≠ qlr b := by
    intro e
    have := congrArg (fun z => z.testBit (qlr a)) h
    simp [A2] at this
    rw [e, B2] at this
    cases this
  by_cases lt : qlr a < qlr b
  · left
    have e := qlr_u (a ||| b) (qlr a) hor (by simp [A2]) (by intro i hi; simp [A3 i hi, B3 i (by omega)])
    exact ⟨by rw [A1, B1]; exact Nat.pow_lt_pow_right (by omega) lt, by rw [(qlr_q _ hor hor0).1, e, A1]⟩
  · right
    have lt' : qlr b < qlr a := by omega
    have e := qlr_u (a ||| b) (qlr b) hor (by simp [B2]) (by intro i hi; simp [B3 i hi, A3 i (by omega)])
    exact ⟨by rw [A1, B1]; exact Nat.pow_lt_pow_right (by omega) lt', by rw [(qlr_q _ hor hor0).1, e, B1]⟩
theorem qlow_sub (s : Nat) (hs : s < 256) : qlow s &&& s = qlow s := by
  have : ∀ s, s < 256 → qlow s &&& s = qlow s := by decide +kernel
  exact this s hs
theorem R_isAheadOf_q (a b : Nat) (ha : a < 256) (hb : b < 256) (a0 : a ≠ 0) (b0 : b ≠ 0) (h : a &&& b = 0) : R_isAheadOf (qi a) (qi b) = qi (decide (qlow a < qlow b)).toNat := by
  have hor : a ||| b < 256 := q_or_lt (n := 8) ha hb
  have l1 := qlow_lt _ hor
  have l2 := qlow_lt _ ha
  simp (disch := omega) only [R_isAheadOf, qi_lit, qi_m1, qi_add, qi_mul, qi_and, qi_or, qi_xor, qi_not, qi_shl, qi_shr, qi_and31, qi_nat, qi_inb, qi_eq, qi_lt, qi_le, qi_sub, R_least_q]
  rcases qlow_dis a b ha hb a0 b0 h with ⟨h1, h2⟩ | ⟨h1, h2⟩
  · rw [h2]; simp [h1]
  · rw [h2, if_neg (by omega)]
    have hn : ¬ qlow a < qlow b := by omega
    simp [hn]
theorem J_firstOf_q (a b : Nat) (ha : a < 256) (hb : b < 256) : J_firstOf (qi a) (qi b) = qi (if qlow b ≤ qlow a then b else a) := by
  have l1 := qlow_lt _ hb
  have l2 := qlow_lt _ ha
  simp (disch := omega) only [J_firstOf, J_least_q, qi_le]
  split <;> rfl
/-- of two joins the one with the lesser key is taken -/
def qky (g : Qg) (a b : Nat) : Nat := ((!qjn g a b).toNat * 1000000000000001 + qsz g (a ||| b)) * 65536 + a * 256 + b
theorem qky_inj {g : Qg} {a b c d : Nat} (ha : a < 256) (hb : b < 256) (hc : c < 256) (hd : d < 256) (h : qky g a b = qky g c d) : a = c ∧ b = d := by
  unfold qky at h
  omega
theorem qsz_le {g : Qg} (hg : qGok g) (s : Nat) : qsz g s ≤ 1000000000000000 := (qz_b hg s (qn g) (Nat.le_refl _)).2
theorem qdec1 {C : Prop} {_ : Decidable C} (h : C) : some (qi 1) = some (qi (decide C).toNat) := by simp [h]
theorem qdec0 {C : Prop} {_ : Decidable C} (h : ¬ C) : some (qi 0) = some (qi (decide C).toNat) := by simp [h]
theorem A_goesAhead_q {g : Qg} {li ri cp pa : Nat → Int32} {sz : Nat → Int64} (hg : qGok g) (hS : qSets g li ri) (hz : qSz g cp sz (2 ^ qn g)) (a b c d f s : Nat)
    (hf : f < 8) (hs : s < 8) (hpf : pa f = qi c) (hps : pa s = qi d) (hab : a ||| b < 2 ^ qn g) (hcd : c ||| d < 2 ^ qn g) :
    A_goesAhead (qi f) (qi s) li ri sz pa (qi a) (qi b) = some (qi (decide (qky g a b < qky g c d)).toNat) := by
  have hp8 := q_pow8 hg.1
  have h1 := @Nat.left_le_or a b
  have h2 := @Nat.right_le_or a b
  have h3 := @Nat.left_le_or c d
  have h4 := @Nat.right_le_or c d
  have z1 := (hz _ hab).2
  have z2 := (hz _ hcd).2
  have s1 := qsz_le hg (a ||| b)
  have s2 := qsz_le hg (c ||| d)
  have hjb : ∀ x : Bool, qi x.toNat &&& 1 = qi x.toNat := by intro x; cases x <;> rfl
  have hjn : ∀ x y : Bool, (qi x.toNat = qi y.toNat) ↔ x = y := by intro x y; cases x <;> cases y <;> decide
  simp (disch := omega) only [A_goesAhead, qi_lit, qi_m1, qi_add, qi_mul, qi_and, qi_or, qi_xor, qi_not, qi_shl, qi_shr, qi_and31, qi_nat, qi_inb, qi_eq, qi_lt, qi_le, qi_sub, ql_lit, ql_add, ql_mul, ql_div, ql_eq, ql_lt, ql_le, ql_of, dn, db_some, dk_t, hpf, hps, S_areJoined_q hg hS a b (by omega) (by omega), S_areJoined_q hg hS c d (by omega) (by omega), z1, z2, hjn]
  unfold qky
  generalize qsz g (a ||| b) = u at *
  generalize qsz g (c ||| d) = v at *
  cases qjn g a b <;> cases qjn g c d <;> simp only [Bool.not_false, Bool.not_true, Bool.toNat_true, Bool.toNat_false, if_true, Bool.false_eq_true, if_false, reduceCtorEq]
  · repeat' split
    all_goals first | exact qdec1 (by omega) | exact qdec0 (by omega)
  · rw [dk_t (by decide)]
    exact qdec0 (by omega)
  · rw [dk_t (by decide)]
    exact qdec1 (by omega)
  · repeat' split
    all_goals first | exact qdec1 (by omega) | exact qdec0 (by omega)

def qxs (x : Nat → Nat) (m K : Nat) : Prop := ∀ i, i < m → x i ≠ 0 ∧ x i < K
theorem A_pick_q {g : Qg} {li ri cp pa : Nat → Int32} {sz : Nat → Int64} (hg : qGok g) (hS : qSets g li ri) (hz : qSz g cp sz (2 ^ qn g)) (x : Nat → Nat) (m : Nat) (hm : 2 ≤ m) (hm8 : m ≤ 8)
    (hx : qxs x m (2 ^ qn g)) (hpa : ∀ i, i < m → pa i = qi (x i)) (pf ps : Int32) (N : Nat) (hN : 300 < N) :
    ∃ f s, f < s ∧ s < m ∧ A_pick N (qi m) pf ps li ri sz pa = some (qi f, qi s) ∧ ∀ i j, i < j → j < m → qky g (x f) (x s) ≤ qky g (x i) (x j) := by
  have hp8 := q_pow8 hg.1
  have hor : ∀ i j, i < m → j < m → x i ||| x j < 2 ^ qn g := fun i j hi hj => q_or_lt (hx i hi).2 (hx j hj).2
  have inner : ∀ i f s, i < m → f < s → s < m → (∀ i' j', i' < i → i' < j' → j' < m → qky g (x f) (x s) ≤ qky g (x i') (x j')) →
      ∃ y, lp (fun y : Int32 × Int32 × Int32 => A_pick_b24 N (qi m) y.1 y.2.1 li ri sz pa (qi i) y.2.2) N (qi f, qi s, qi (i + 1)) = some y ∧
        (∃ f s, f < s ∧ s < m ∧ y = (qi f, qi s) ∧ ∀ i' j', i' < i + 1 → i' < j' → j' < m → qky g (x f) (x s) ≤ qky g (x i') (x j')) := by
    intro i f s hi hfs hs hle
    refine qlp_rel (Inv := fun k y => ∃ f s, f < s ∧ s < m ∧ y = (qi f, qi s, qi (i + 1 + k)) ∧ (∀ i' j', i' < i → i' < j' → j' < m → qky g (x f) (x s) ≤ qky g (x i') (x j')) ∧ ∀ j', i < j' → j' < i + 1 + k → qky g (x f) (x s) ≤ qky g (x i) (x j'))
      (m - (i + 1)) _ ?_ ?_ _ ⟨f, s, hfs, hs, rfl, hle, by intro j' h1 h2; omega⟩ N (by omega)
    · rintro k y hk ⟨f, s, hfs, hs, rfl, h1, h2⟩
      have ga := A_goesAhead_q (pa := pa) hg hS hz (x i) (x (i + 1 + k)) (x f) (x s) f s (by omega) (by omega) (hpa f (by omega)) (hpa s hs) (hor _ _ hi (by omega)) (hor _ _ (by omega) hs)
      have e1 := hpa i hi
      have e2 := hpa (i + 1 + k) (by omega)
      by_cases hlt : qky g (x i) (x (i + 1 + k)) < qky g (x f) (x s)
      · refine ⟨(qi i, qi (i + 1 + k), qi (i + 1 + (k + 1))), ?_, i, i + 1 + k, by omega, by omega, rfl, ?_, ?_⟩
        · simp (disch := omega) only [A_pick_b24, qi_lit, qi_m1, qi_add, qi_mul, qi_and, qi_or, qi_xor, qi_not, qi_shl, qi_shr, qi_and31, qi_nat, qi_inb, qi_eq, qi_lt, qi_le, qi_sub, dn, db_some, dk_t, if_neg (show ¬ m ≤ i + 1 + k by omega), e1, e2, ga, qb_0, decide_eq_true hlt, reduceCtorEq, if_false]
          rw [show i + 1 + k + 1 = i + 1 + (k + 1) from rfl]
        · intro i' j' a b c
          have := h1 i' j' a b c
          omega
        · intro j' a b
          by_cases e : j' = i + 1 + k
          · subst e; exact Nat.le_refl _
          · have := h2 j' a (by omega)
            omega
      · refine ⟨(qi f, qi s, qi (i + 1 + (k + 1))), ?_, f, s, hfs, hs, rfl, h1, ?_⟩
        · simp (disch := omega) only [A_pick_b24, qi_lit, qi_m1, qi_add, qi_mul, qi_and, qi_or, qi_xor, qi_not, qi_shl, qi_shr, qi_and31, qi_nat, qi_inb, qi_eq, qi_lt, qi_le, qi_sub, dn, db_some, dk_t, if_neg (show ¬ m ≤ i + 1 + k by omega), e1, e2, ga, qb_0, decide_eq_false hlt, if_true]
          rw [show i + 1 + k + 1 = i + 1 + (k + 1) from rfl]
        · intro j' a b
          by_cases e : j' = i + 1 + k
          · subst e; omega
          · exact h2 j' a (by omega)
    · rintro y ⟨f, s, hfs, hs, rfl, h1, h2⟩
      refine ⟨(qi f, qi s), ?_, f, s, hfs, hs, rfl, ?_⟩
      · simp (disch := omega) only [A_pick_b24, qi_lit, qi_m1, qi_add, qi_mul, qi_and, qi_or, qi_xor, qi_not, qi_shl, qi_shr, qi_and31, qi_nat, qi_inb, qi_eq, qi_lt, qi_le, qi_sub, if_pos (show m ≤ i + 1 + (m - (i + 1)) by omega)]
      · intro i' j' a b c
        by_cases e : i' = i
        · subst e; exact h2 j' b (by omega)
        · exact h1 i' j' (by omega) b c
  have outer := qlp_rel (body := fun y : Int32 × Int32 × Int32 => A_pick_b12 N (qi m) y.1 y.2.1 li ri sz pa y.2.2)
    (Inv := fun i y => ∃ f s, f < s ∧ s < m ∧ y = (qi f, qi s, qi i) ∧ ∀ i' j', i' < i → i' < j' → j' < m → qky g (x f) (x s) ≤ qky g (x i') (x j')) m
    (Q := fun y => ∃ f s, f < s ∧ s < m ∧ y = (qi f, qi s) ∧ ∀ i' j', i' < m → i' < j' → j' < m → qky g (x f) (x s) ≤ qky g (x i') (x j')) ?_ ?_ (qi 0, qi 1, qi 0) ⟨0, 1, by omega, by omega, rfl, by intro i' j' h; omega⟩ N (by omega)
  · obtain ⟨y, e, f, s, hfs, hs, rfl, q⟩ := outer
    refine ⟨f, s, hfs, hs, ?_, fun i j hij hj => q i j (by omega) hij hj⟩
    unfold A_pick A_pick_12
    rw [show ((0 : Int32), (1 : Int32), (0 : Int32)) = (qi 0, qi 1, qi 0) from rfl, e]
    rfl
  · rintro i y hi ⟨f, s, hfs, hs, rfl, h1⟩
    obtain ⟨y', e, f', s', hfs', hs', rfl, q⟩ := inner i f s hi hfs hs h1
    refine ⟨(qi f', qi s', qi (i + 1)), ?_, f', s', hfs', hs', rfl, q⟩
    simp (disch := omega) only [A_pick_b12, A_pick_24, A_pick_a24, A_pick_68, qi_lit, qi_m1, qi_add, qi_mul, qi_and, qi_or, qi_xor, qi_not, qi_shl, qi_shr, qi_and31, qi_nat, qi_inb, qi_eq, qi_lt, qi_le, qi_sub, dn, db_some, dk_t, if_neg (show ¬ m ≤ i by omega), e]
  · rintro y ⟨f, s, hfs, hs, rfl, h1⟩
    exact ⟨(qi f, qi s), by simp (disch := omega) only [A_pick_b12, qi_lit, qi_m1, qi_add, qi_mul, qi_and, qi_or, qi_xor, qi_not, qi_shl, qi_shr, qi_and31, qi_nat, qi_inb, qi_eq, qi_lt, qi_le, qi_sub]; simp, f, s, hfs, hs, rfl, h1⟩
theorem R_isLess_q {g : Qg} {sz : Nat → Int64} (hg : qGok g) (hz : ∀ s, s ≠ 0 → s < 2 ^ qn g → sz s = ql (qsz g s)) (a b c d : Nat) (a0 : a ≠ 0) (c0 : c ≠ 0) (hab : a ||| b < 2 ^ qn g) (hcd : c ||| d < 2 ^ qn g) (hj : qjn g a b = qjn g c d) :
    R_isLess sz (qi a) (qi b) (qi c) (qi d) = some (qi (decide (qky g a b < qky g c d)).toNat) := by
  have hp8 := q_pow8 hg.1
  have h1 := @Nat.left_le_or a b
  have h2 := @Nat.right_le_or a b
  have h3 := @Nat.left_le_or c d
  have h4 := @Nat.right_le_or c d
  have z1 := hz (a ||| b) (by omega) hab
  have z2 := hz (c ||| d) (by omega) hcd
  have s1 := qsz_le hg (a ||| b)
  have s2 := qsz_le hg (c ||| d)
  simp (disch := omega) only [R_isLess, qi_lit, qi_m1, qi_add, qi_mul, qi_and, qi_or, qi_xor, qi_not, qi_shl, qi_shr, qi_and31, qi_nat, qi_inb, qi_eq, qi_lt, qi_le, qi_sub, dn, db_some, dk_t, z1, z2, ql_lit]
  unfold qky
  rw [hj]
  generalize qsz g (a ||| b) = u at *
  generalize qsz g (c ||| d) = v at *
  have e1 : (ql u - ql v).toInt = (u : Int) - v := by
    rw [Int64.toInt_sub, ql_toInt _ (by omega), ql_toInt _ (by omega)]
    rw [Int.bmod_eq_of_le] <;> omega
  have e2 : (ql u - ql v = ql 0) ↔ u = v := by
    rw [← Int64.toInt_inj, e1, ql_toInt 0 (by omega)]; omega
  have e3 : (ql u - ql v < ql 0) ↔ u < v := by
    rw [Int64.lt_iff_toInt_lt, e1, ql_toInt 0 (by omega)]; omega
  simp only [e2, e3]
  repeat' split
  all_goals first | exact qdec1 (by omega) | exact qdec0 (by omega)
