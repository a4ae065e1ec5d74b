def qi (n : Nat) : Int32 := Int32.ofNat n
def ql (n : Nat) : Int64 := Int64.ofNat n
theorem db_some {α β : Type} (v : α) (f : α → Option β) : db (some v) f = f v := rfl
theorem dk_t {β : Type} {c : Prop} {_ : Decidable c} (h : c) (a : Option β) : dk c a = a := if_pos h
theorem qi_lit (n : Nat) : (OfNat.ofNat n : Int32) = qi (OfNat.ofNat n) := rfl
theorem qi_m1 : -(qi 1) = Int32.ofInt (-1) := rfl
theorem qi_toInt (n : Nat) (h : n < 2147483648) : (qi n).toInt = (n : Int) := by
  unfold qi
  exact Int32.toInt_ofNat_of_lt (by omega)
theorem qi_nat (n : Nat) (h : n < 2147483648) : (qi n).toNatClampNeg = n := by
  have := qi_toInt n h
  unfold Int32.toNatClampNeg
  omega
theorem qi_add (a b : Nat) : qi a + qi b = qi (a + b) := by simp [qi, Int32.ofNat_add]
theorem qi_mul (a b : Nat) : qi a * qi b = qi (a * b) := by simp [qi, Int32.ofNat_mul]
theorem qi_sub (a b : Nat) (h : b ≤ a) : qi a - qi b = qi (a - b) := by simp [qi, Int32.ofNat_sub _ _ h]
theorem qi_lt (a b : Nat) (ha : a < 2147483648) (hb : b < 2147483648) : (qi a < qi b) ↔ a < b := by
  rw [Int32.lt_iff_toInt_lt, qi_toInt a ha, qi_toInt b hb]; omega
theorem qi_le (a b : Nat) (ha : a < 2147483648) (hb : b < 2147483648) : (qi a ≤ qi b) ↔ a ≤ b := by
  rw [Int32.le_iff_toInt_le, qi_toInt a ha, qi_toInt b hb]; omega
theorem qi_eq (a b : Nat) (ha : a < 2147483648) (hb : b < 2147483648) : (qi a = qi b) ↔ a = b := by
  rw [← Int32.toInt_inj, qi_toInt a ha, qi_toInt b hb]; omega
theorem qi_and (a b : Nat) : qi a &&& qi b = qi (a &&& b) := by
  apply Int32.toBitVec_inj.mp
  simp [qi]
theorem qi_or (a b : Nat) : qi a ||| qi b = qi (a ||| b) := by
  apply Int32.toBitVec_inj.mp
  simp [qi]
theorem qi_xor (a b : Nat) : qi a ^^^ qi b = qi (a ^^^ b) := by
  apply Int32.toBitVec_inj.mp
  simp [qi]
theorem qi_not (a b : Nat) : qi a &&& (qi b ^^^ Int32.ofInt (-1)) = qi (a ^^^ (a &&& b)) := by
  apply Int32.toBitVec_inj.mp
  apply BitVec.eq_of_getElem_eq
  intro i hi
  simp [qi]
  cases (BitVec.ofNat 32 a)[i] <;> cases (BitVec.ofNat 32 b)[i] <;> simp
theorem qi_shl (k : Nat) (h : k < 31) : qi 1 <<< qi k = qi (2 ^ k) := by
  have : ∀ k, k < 31 → qi 1 <<< qi k = qi (2 ^ k) := by decide +kernel
  exact this k h
theorem qi_and31 (k : Nat) (h : k < 32) : k &&& 31 = k := by
  have : ∀ k, k < 32 → k &&& 31 = k := by decide +kernel
  exact this k h
theorem qi_shr (a k : Nat) (ha : a < 2147483648) (h : k < 32) : qi a >>> qi k = qi (a / 2 ^ k) := by
  apply Int32.toBitVec_inj.mp
  rw [Int32.toBitVec_shiftRight]
  have hk : (qi k).toBitVec.smod 32 = BitVec.ofNat 32 k := by
    have : ∀ k, k < 32 → (qi k).toBitVec.smod 32 = BitVec.ofNat 32 k := by decide +kernel
    exact this k h
  rw [hk, BitVec.sshiftRight_eq', BitVec.sshiftRight_eq_of_msb_false]
  · apply BitVec.eq_of_toNat_eq
    have h1 : k % 4294967296 = k := Nat.mod_eq_of_lt (by omega)
    have h2 : a % 4294967296 = a := Nat.mod_eq_of_lt (by omega)
    have h3 : a / 2 ^ k % 4294967296 = a / 2 ^ k := Nat.mod_eq_of_lt (Nat.lt_of_le_of_lt (Nat.div_le_self _ _) (by omega))
    simp [qi, h1, h2, h3, Nat.shiftRight_eq_div_pow]
  · simp [qi, BitVec.msb_eq_decide]
    omega
theorem qi_inb (i n : Nat) (h : i < 2147483648) : inb (qi i) n ↔ i < n := by
  unfold inb
  rw [qi_nat i h]
  have : ¬ qi i < 0 := by
    intro h'
    have := (qi_lt i 0 h (by omega)).mp h'
    omega
  constructor
  · intro h; simp only [not_or] at h; omega
  · intro h; simp only [not_or]; exact ⟨this, by omega⟩

theorem ql_lit (n : Nat) : (OfNat.ofNat n : Int64) = ql (OfNat.ofNat n) := rfl
theorem ql_toInt (n : Nat) (h : n < 9223372036854775808) : (ql n).toInt = (n : Int) := by
  unfold ql
  exact Int64.toInt_ofNat_of_lt (by omega)
theorem ql_add (a b : Nat) : ql a + ql b = ql (a + b) := by simp [ql, Int64.ofNat_add]
theorem ql_mul (a b : Nat) : ql a * ql b = ql (a * b) := by simp [ql, Int64.ofNat_mul]
theorem ql_lt (a b : Nat) (ha : a < 9223372036854775808) (hb : b < 9223372036854775808) : (ql a < ql b) ↔ a < b := by
  rw [Int64.lt_iff_toInt_lt, ql_toInt a ha, ql_toInt b hb]; omega
theorem ql_le (a b : Nat) (ha : a < 9223372036854775808) (hb : b < 9223372036854775808) : (ql a ≤ ql b) ↔ a ≤ b := by
  rw [Int64.le_iff_toInt_le, ql_toInt a ha, ql_toInt b hb]; omega
theorem ql_eq (a b : Nat) (ha : a < 9223372036854775808) (hb : b < 9223372036854775808) : (ql a = ql b) ↔ a = b := by
  rw [← Int64.toInt_inj, ql_toInt a ha, ql_toInt b hb]; omega
theorem ql_div (a b : Nat) (ha : a < 9223372036854775808) (hb : b < 9223372036854775808) : ql a / ql b = ql (a / b) := by
  rw [← Int64.toInt_inj, Int64.toInt_div, ql_toInt a ha, ql_toInt b hb, ql_toInt _ (Nat.lt_of_le_of_lt (Nat.div_le_self _ _) ha)]
  have : (a : Int).tdiv (b : Int) = ((a / b : Nat) : Int) := by
    rw [Int.ofNat_tdiv]
  rw [this]
  have h2 : a / b < 9223372036854775808 := Nat.lt_of_le_of_lt (Nat.div_le_self _ _) ha
  generalize a / b = c at *
  rw [Int.bmod_eq_of_le] <;> omega
theorem ql_of (n : Nat) (h : n < 2147483648) : (qi n).toInt64 = ql n := by
  rw [← Int64.toInt_inj, Int32.toInt_toInt64, qi_toInt n h, ql_toInt n (by omega)]
theorem qlp_for {α β : Type} {body : α → Option (α ⊕ β)} (f : Nat → α) (n : Nat) (y : β)
    (hs : ∀ i, i < n → body (f i) = some (.inl (f (i + 1)))) (he : body (f n) = some (.inr y)) (N : Nat) (hN : n < N) : lp body N (f 0) = some y := by
  have key : ∀ d i N, i + d = n → d < N → lp body N (f i) = some y := by
    intro d
    induction d with
    | zero =>
      intro i N hi hN
      cases N with
      | zero => omega
      | succ N => rw [lp, show i = n by omega, he]
    | succ d ih =>
      intro i N hi hN
      cases N with
      | zero => omega
      | succ N => rw [lp, hs i (by omega)]; exact ih (i + 1) N (by omega) (by omega)
  exact key n 0 N (by omega) hN
theorem qlp_rel {α β : Type} {body : α → Option (α ⊕ β)} (Inv : Nat → α → Prop) (n : Nat) (Q : β → Prop)
    (hs : ∀ i x, i < n → Inv i x → ∃ x', body x = some (.inl x') ∧ Inv (i + 1) x') (he : ∀ x, Inv n x → ∃ y, body x = some (.inr y) ∧ Q y)
    (x : α) (h0 : Inv 0 x) (N : Nat) (hN : n < N) : ∃ y, lp body N x = some y ∧ Q y := by
  have key : ∀ d i x N, i + d = n → d < N → Inv i x → ∃ y, lp body N x = some y ∧ Q y := by
    intro d
    induction d with
    | zero =>
      intro i x N hi hN hx
      cases N with
      | zero => omega
      | succ N =>
        rw [show i = n by omega] at hx
        have ⟨y, e, q⟩ := he x hx
        exact ⟨y, by rw [lp, e], q⟩
    | succ d ih =>
      intro i x N hi hN hx
      cases N with
      | zero => omega
      | succ N =>
        have ⟨x', e, h'⟩ := hs i x (by omega) hx
        have ⟨y, e2, q⟩ := ih (i + 1) x' N (by omega) (by omega) h'
        exact ⟨y, by rw [lp, e]; exact e2, q⟩
  exact key n 0 x N (by omega) hN h0
theorem qlp_inv {α β : Type} {body : α → Option (α ⊕ β)} (Inv : α → Prop) (mu : α → Nat) (Q : β → Prop)
    (hs : ∀ x, Inv x → (∃ x', body x = some (.inl x') ∧ Inv x' ∧ mu x' < mu x) ∨ (∃ y, body x = some (.inr y) ∧ Q y))
    (x : α) (h0 : Inv x) (N : Nat) (hN : mu x < N) : ∃ y, lp body N x = some y ∧ Q y := by
  induction N generalizing x with
  | zero => omega
  | succ N ih =>
    rcases hs x h0 with ⟨x', e, h', hm⟩ | ⟨y, e, q⟩
    · have ⟨y, e2, q⟩ := ih x' h' (by omega)
      exact ⟨y, by rw [lp, e]; exact e2, q⟩
    · exact ⟨y, by rw [lp, e], q⟩
