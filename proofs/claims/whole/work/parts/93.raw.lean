def qin (lo hi : Int) (x : Int32) : Bool := decide (lo ≤ x.toInt) && decide (x.toInt ≤ hi)
theorem qin_t {lo hi : Nat} {x : Int32} (h : qin lo hi x = true) (hh : hi < 2147483648) : ∃ n, lo ≤ n ∧ n ≤ hi ∧ x = qi n := by
  unfold qin at h
  simp only [Bool.and_eq_true, decide_eq_true_eq] at h
  obtain ⟨h1, h2⟩ := h
  refine ⟨x.toInt.toNat, by omega, by omega, ?_⟩
  apply Int32.toInt_inj.mp
  rw [qi_toInt _ (by omega)]
  omega
theorem qin_i (lo hi : Int) (n : Nat) (h : n < 2147483648) : qin lo hi (qi n) = (decide (lo ≤ n) && decide ((n : Int) ≤ hi)) := by
  unfold qin
  rw [qi_toInt n h]
theorem qi_b (b : Bool) : (qi b.toNat = 0) ↔ b = false := by cases b <;> decide
theorem qin_ite (lo hi : Int) (x : Int32) (c d : Prop) [Decidable c] [Decidable d] (hc : c ↔ x.toInt < lo) (hd : d ↔ hi < x.toInt) :
    (if c then (0 : Int32) else if d then 0 else 1) = qi (qin lo hi x).toNat := by
  unfold qin
  by_cases h1 : x.toInt < lo
  · rw [if_pos (hc.mpr h1), show decide (lo ≤ x.toInt) = false from decide_eq_false (by omega)]; rfl
  · rw [if_neg (fun h => h1 (hc.mp h)), show decide (lo ≤ x.toInt) = true from decide_eq_true (by omega)]
    by_cases h2 : hi < x.toInt
    · rw [if_pos (hd.mpr h2), show decide (x.toInt ≤ hi) = false from decide_eq_false (by omega)]; rfl
    · rw [if_neg (fun h => h2 (hd.mp h)), show decide (x.toInt ≤ hi) = true from decide_eq_true (by omega)]; rfl
theorem G_canBeRows_x (x : Int32) : G_canBeRows x = qi (qin 1 1000000 x).toNat := qin_ite 1 1000000 x _ _ Int32.lt_iff_toInt_lt Int32.lt_iff_toInt_lt
theorem G_canBeBy_x (x : Int32) : G_canBeBy x = qi (qin 1 100000 x).toNat := qin_ite 1 100000 x _ _ Int32.lt_iff_toInt_lt Int32.lt_iff_toInt_lt
theorem G_canBeLimit_x (x : Int32) : G_canBeLimit x = qi (qin 0 5000 x).toNat := qin_ite 0 5000 x _ _ Int32.lt_iff_toInt_lt Int32.lt_iff_toInt_lt
theorem R_in_x (x : Int32) (lo hi : Int64) : R_in x.toInt64 lo hi = qi (qin lo.toInt hi.toInt x).toNat :=
  qin_ite lo.toInt hi.toInt x _ _ (by rw [Int64.lt_iff_toInt_lt, Int32.toInt_toInt64]) (by rw [Int64.lt_iff_toInt_lt, Int32.toInt_toInt64])
theorem qi_pred (n : Nat) (h : n < 1000) : ((qi n - (1 : Int32)).toInt64).toInt = (n : Int) - 1 := by
  rw [Int32.toInt_toInt64]
  cases n with
  | zero => decide
  | succ n => rw [show (1 : Int32) = qi 1 from rfl, qi_sub _ _ (by omega), qi_toInt _ (by omega)]; omega
theorem G_hasRelation_x (n : Nat) (h : n < 1000) (x : Int32) : G_hasRelation (qi n) x = qi (qin 0 ((n : Int) - 1) x).toNat :=
  qin_ite 0 _ x _ _ Int32.lt_iff_toInt_lt (by rw [Int32.le_iff_toInt_le, qi_toInt n (by omega)]; omega)
theorem G_hasEdge_x (n : Nat) (h : n < 1000) (x : Int32) : G_hasEdge (qi n) x = qi (qin 0 ((n : Int) - 1) x).toNat :=
  qin_ite 0 _ x _ _ Int32.lt_iff_toInt_lt (by rw [Int32.le_iff_toInt_le, qi_toInt n (by omega)]; omega)
theorem qb_and1 (b : Bool) : qi b.toNat &&& 1 = qi b.toNat := by cases b <;> decide
theorem R_isRelation_x (all : Nat → Int32) (n : Nat) (h0 : all 0 = qi n) (h : n < 1000) (x : Int32) : R_isRelation all x = some (qi (qin 0 ((n : Int) - 1) x).toNat) := by
  unfold R_isRelation
  rw [R_in_x, show all (0 : Int32).toNatClampNeg = qi n from h0, qi_pred n h, show (0 : Int64).toInt = 0 from rfl, dk_t (qb_and1 _)]
theorem R_isEdge_x (all : Nat → Int32) (n : Nat) (h0 : all 9 = qi n) (h : n < 1000) (x : Int32) : R_isEdge all x = some (qi (qin 0 ((n : Int) - 1) x).toNat) := by
  unfold R_isEdge
  rw [R_in_x, show all (9 : Int32).toNatClampNeg = qi n from h0, qi_pred n h, show (0 : Int64).toInt = 0 from rfl, dk_t (qb_and1 _)]
theorem G_all_x (n : Nat) (h : n ≤ 8) : G_all (qi n) = qi (2 ^ n - 1) := by
  match n, h with
  | 0, _ => rfl
  | 1, _ => rfl
  | 2, _ => rfl
  | 3, _ => rfl
  | 4, _ => rfl
  | 5, _ => rfl
  | 6, _ => rfl
  | 7, _ => rfl
  | 8, _ => rfl
  | n + 9, h => omega
theorem q2p (n : Nat) (h : n ≤ 8) : 1 ≤ 2 ^ n ∧ 2 ^ n ≤ 256 := ⟨Nat.one_le_two_pow, Nat.pow_le_pow_right (by omega) h⟩
theorem G_holds_x (n : Nat) (h : n ≤ 8) (x : Int32) : G_holds (qi n) x = qi (qin 1 ((2 ^ n : Nat) - 1) x).toNat := by
  have := q2p n h
  unfold G_holds
  rw [G_all_x n h]
  refine qin_ite 1 _ x _ _ (by rw [Int32.le_iff_toInt_le, show (0 : Int32).toInt = 0 from rfl]; omega) (by rw [Int32.lt_iff_toInt_lt, qi_toInt _ (by omega)]; omega)
theorem q_neg_and (x : Int32) (hx : x.toInt < 0) (n : Nat) (h : n < 2147483648) : ¬ (x &&& (qi n ^^^ (-1 : Int32))) = 0 := by
  intro e
  have e1 : (x &&& (qi n ^^^ (-1 : Int32))).toBitVec = (0 : Int32).toBitVec := congrArg _ e
  rw [Int32.toBitVec_and, Int32.toBitVec_xor] at e1
  have e2 := congrArg BitVec.msb e1
  rw [BitVec.msb_and, BitVec.msb_xor] at e2
  have m1 : x.toBitVec.msb = true := by
    have : x.toBitVec.toInt < 0 := hx
    rw [BitVec.msb_eq_toInt]
    exact decide_eq_true this
  have m2 : (qi n).toBitVec.msb = false := by
    have : (qi n).toBitVec.toInt = n := qi_toInt n h
    rw [BitVec.msb_eq_toInt, this]
    exact decide_eq_false (by omega)
  rw [m1, m2] at e2
  exact absurd e2 (by decide)
theorem R_isSet_x (all : Nat → Int32) (n : Nat) (hev : R_everything all = qi (2 ^ n - 1)) (h : n ≤ 8) (x : Int32) : R_isSet all x = qi (qin 1 ((2 ^ n : Nat) - 1) x).toNat := by
  have h2 := q2p n h
  unfold R_isSet R_isIn
  rw [hev]
  by_cases c0 : x = 0
  · subst c0
    rw [if_pos rfl]
    unfold qin
    rw [show decide (1 ≤ (0 : Int32).toInt) = false from by decide]
    rfl
  · rw [if_neg c0]
    by_cases cn : x.toInt < 0
    · have : ¬ (x &&& (qi (2 ^ n - 1) ^^^ (-1 : Int32))) = 0 := q_neg_and x cn _ (by omega)
      rw [if_neg this, if_pos rfl]
      unfold qin
      rw [show decide (1 ≤ x.toInt) = false from decide_eq_false (by omega)]
      rfl
    · have hx : x = qi x.toInt.toNat := by
        apply Int32.toInt_inj.mp
        have := Int32.toInt_lt x
        rw [qi_toInt _ (by omega)]; omega
      have hlt : x.toInt.toNat < 2147483648 := by have := Int32.toInt_lt x; omega
      generalize hm : x.toInt.toNat = m at hx hlt
      subst hx
      have hm0 : m ≠ 0 := fun e => c0 (by rw [e]; rfl)
      rw [qin_i _ _ _ hlt, show (-1 : Int32) = Int32.ofInt (-1) from rfl, qi_not, Nat.and_two_pow_sub_one_eq_mod]
      have e1 : (qi (m ^^^ m % 2 ^ n) = 0) ↔ m < 2 ^ n := by
        have hb : m ^^^ m % 2 ^ n < 2147483648 := Nat.xor_lt_two_pow (n := 31) hlt (by have := Nat.mod_le m (2 ^ n); omega)
        rw [show (0 : Int32) = qi 0 from rfl, qi_eq _ _ hb (by omega)]
        constructor
        · intro e
          have : m = m % 2 ^ n := by
            have := congrArg (fun z => z ^^^ (m % 2 ^ n)) e
            simpa [Nat.xor_assoc] using this
          rw [this]; exact Nat.mod_lt _ (by omega)
        · intro e
          rw [Nat.mod_eq_of_lt e, Nat.xor_self]
      by_cases c : m < 2 ^ n
      · rw [if_pos (e1.mpr c), if_neg (by decide), show decide ((1 : Int) ≤ m) = true from decide_eq_true (by omega), show decide ((m : Int) ≤ (2 ^ n : Nat) - 1) = true from decide_eq_true (by omega)]
        rfl
      · rw [if_neg (fun e => c (e1.mp e)), if_pos rfl, show decide ((m : Int) ≤ (2 ^ n : Nat) - 1) = false from decide_eq_false (by omega)]
        simp
        rfl
theorem G_canLink_x (n : Nat) (h : n ≤ 8) (x y : Int32) : G_canLink (qi n) x y = qi (qin 1 ((2 ^ n : Nat) - 1) x && qin 1 ((2 ^ n : Nat) - 1) y && decide (x &&& y = 0)).toNat := by
  unfold G_canLink
  rw [G_holds_x n h, G_holds_x n h]
  cases qin 1 ((2 ^ n : Nat) - 1) x with
  | false => rfl
  | true =>
    rw [if_neg (by decide)]
    cases qin 1 ((2 ^ n : Nat) - 1) y with
    | false => rfl
    | true =>
      rw [if_neg (by decide)]
      by_cases c : x &&& y = 0
      · rw [if_pos c, decide_eq_true c]; rfl
      · rw [if_neg c, decide_eq_false c]; rfl
