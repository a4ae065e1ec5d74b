def qlow (s : Nat) : Nat := s ^^^ (s &&& (s - 1))
def qone (s : Nat) : Bool := s != 0 && (s &&& (s - 1)) == 0
def qpop (s : Nat) : Nat := s % 2 + s / 2 % 2 + s / 4 % 2 + s / 8 % 2 + s / 16 % 2 + s / 32 % 2 + s / 64 % 2 + s / 128 % 2
def qspl (s : Nat) : Nat := 2 ^ (qpop (s ^^^ qlow s)) - 1
def qnext (s p : Nat) : Nat := qlow s ||| (((p ^^^ qlow s) + (256 - (s ^^^ qlow s))) &&& (s ^^^ qlow s))
def qnth (s : Nat) : Nat → Nat
  | 0 => qlow s
  | i + 1 => qnext s (qnth s i)
def qsub (a b : Nat) : Bool := (a &&& b) == a
def qparts (s : Nat) : List Nat := (List.range s).filter (fun p => qsub p s && qsub (qlow s) p)
theorem q_ball {P : Nat → Prop} {n : Nat} (h : ∀ s, s < n → P s) (s : Nat) (hs : s < n) : P s := h s hs
theorem J_least_q (s : Nat) (h : s < 256) : J_least (qi s) = qi (qlow s) :=
  q_ball (P := fun s => J_least (qi s) = qi (qlow s)) (n := 256) (by decide +kernel) s h
theorem R_least_q (s : Nat) (h : s < 256) : R_least (qi s) = qi (qlow s) := J_least_q s h
theorem I_bitCount_q (s : Nat) (h : s < 256) : I_bitCount (qi s) = qi (qpop s) :=
  q_ball (P := fun s => I_bitCount (qi s) = qi (qpop s)) (n := 256) (by decide +kernel) s h
theorem J_isOne_q (s : Nat) (h : s < 256) : J_isOne (qi s) = qi (qone s).toNat :=
  q_ball (P := fun s => J_isOne (qi s) = qi (qone s).toNat) (n := 256) (by decide +kernel) s h
theorem R_isOne_q (s : Nat) (h : s < 256) : R_isOne (qi s) = qi (qone s).toNat :=
  q_ball (P := fun s => R_isOne (qi s) = qi (qone s).toNat) (n := 256) (by decide +kernel) s h
theorem J_splitsOf_q (s : Nat) (h : s < 256) : J_splitsOf (qi s) = qi (qspl s) :=
  q_ball (P := fun s => J_splitsOf (qi s) = qi (qspl s)) (n := 256) (by decide +kernel) s h
theorem qspl_lt (s : Nat) (h : s < 256) : qspl s < 128 :=
  q_ball (P := fun s => qspl s < 128) (n := 256) (by decide +kernel) s h
theorem qlow_lt (s : Nat) (h : s < 256) : qlow s < 256 :=
  q_ball (P := fun s => qlow s < 256) (n := 256) (by decide +kernel) s h
theorem J_nextPart_q (s : Nat) (h : s < 256) (i : Nat) (hi : i < qspl s) : J_nextPart (qi s) (qi (qnth s i)) = qi (qnth s (i + 1)) :=
  q_ball (P := fun s => ∀ i, i < qspl s → J_nextPart (qi s) (qi (qnth s i)) = qi (qnth s (i + 1))) (n := 256) (by decide +kernel) s h i hi
theorem qparts_nth (s : Nat) (h : s < 256) : s = 0 ∨ qparts s = (List.range (qspl s)).map (qnth s) :=
  q_ball (P := fun s => s = 0 ∨ qparts s = (List.range (qspl s)).map (qnth s)) (n := 256) (by decide +kernel) s h
theorem qparts_one (s : Nat) (h : s < 256) : qone s = true → qparts s = [] :=
  q_ball (P := fun s => qone s = true → qparts s = []) (n := 256) (by decide +kernel) s h
theorem qparts_two (s : Nat) (h : s < 256) : s ≠ 0 → qone s = false → qlow s ∈ qparts s :=
  q_ball (P := fun s => s ≠ 0 → qone s = false → qlow s ∈ qparts s) (n := 256) (by decide +kernel) s h
theorem q_xor0 (a b : Nat) : (a ^^^ b = 0) ↔ a = b := by
  constructor
  · intro h
    apply Nat.eq_of_testBit_eq
    intro i
    have := congrArg (fun x => x.testBit i) h
    simp at this
    revert this
    cases a.testBit i <;> cases b.testBit i <;> simp
  · intro h; subst h; exact Nat.xor_self _
theorem qi_0 : (0 : Int32) = qi 0 := rfl
theorem qi_1 : (1 : Int32) = qi 1 := rfl
theorem qb_0 (b : Bool) : (qi b.toNat = qi 0) ↔ b = false := by
  cases b <;> decide
theorem qb_1 (b : Bool) : (qi b.toNat = qi 1) ↔ b = true := by
  cases b <;> decide
theorem qb_ite (c : Prop) [Decidable c] : (if c then qi 1 else qi 0) = qi (decide c).toNat := by
  by_cases h : c <;> simp [h]
theorem qb_etI (c : Prop) [Decidable c] : (if c then qi 0 else qi 1) = qi (!decide c).toNat := by
  by_cases h : c <;> simp [h]
theorem R_isIn_q (a b : Nat) (ha : a < 2147483648) : R_isIn (qi a) (qi b) = qi (qsub a b).toNat := by
  have h1 : a ^^^ (a &&& b) < 2147483648 := Nat.xor_lt_two_pow (n := 31) ha (Nat.lt_of_le_of_lt Nat.and_le_left ha)
  unfold R_isIn
  rw [show (-1 : Int32) = Int32.ofInt (-1) from rfl, qi_not, qi_0, qi_1]
  unfold qsub
  by_cases h : (a &&& b) = a
  · rw [if_pos (by rw [qi_eq _ _ h1 (by omega), q_xor0]; exact h.symm), h]; simp
  · rw [if_neg (by rw [qi_eq _ _ h1 (by omega), q_xor0]; exact fun e => h e.symm)]
    have : ((a &&& b) == a) = false := by simp [h]
    rw [this]; rfl
theorem qparts_mem {s p : Nat} (h : p ∈ qparts s) : p < s ∧ p &&& s = p ∧ qlow s &&& p = qlow s := by
  unfold qparts qsub at h
  simp only [List.mem_filter, List.mem_range, Bool.and_eq_true, beq_iff_eq] at h
  exact ⟨h.1, h.2.1, h.2.2⟩
theorem qlow_0 (s : Nat) (h : s < 256) : qlow s = 0 → s = 0 :=
  q_ball (P := fun s => qlow s = 0 → s = 0) (n := 256) (by decide +kernel) s h
theorem q_and_xor {s p : Nat} (h : p &&& s = p) : s ^^^ (s &&& p) = s ^^^ p := by rw [Nat.and_comm, h]
theorem q_tb {a b : Nat} (h : a &&& b = a) (i : Nat) : a.testBit i = true → b.testBit i = true := by
  intro hi
  have := congrArg (fun x => x.testBit i) h
  simp [hi] at this
  exact this
theorem q_sub_of {a b : Nat} (h : ∀ i, a.testBit i = true → b.testBit i = true) : a &&& b = a := by
  apply Nat.eq_of_testBit_eq
  intro i
  have := h i
  simp
  exact this
theorem q_sub_le {a b : Nat} (h : a &&& b = a) : a ≤ b := by rw [← h]; exact Nat.and_le_right
theorem q_xor_sub {s p : Nat} (h : p &&& s = p) : (s ^^^ p) &&& s = s ^^^ p := by
  apply Nat.eq_of_testBit_eq
  intro i
  have := q_tb h i
  simp
  revert this
  cases s.testBit i <;> cases p.testBit i <;> simp
theorem q_xor_xor {s p : Nat} : s ^^^ (s ^^^ p) = p := by
  rw [← Nat.xor_assoc, Nat.xor_self, Nat.zero_xor]
theorem q_xor_or {s p : Nat} (h : p &&& s = p) : p ||| (s ^^^ p) = s := by
  apply Nat.eq_of_testBit_eq
  intro i
  have := q_tb h i
  simp
  revert this
  cases s.testBit i <;> cases p.testBit i <;> simp
theorem q_xor_and {s p : Nat} (h : p &&& s = p) : p &&& (s ^^^ p) = 0 := by
  apply Nat.eq_of_testBit_eq
  intro i
  have := q_tb h i
  simp
  revert this
  cases s.testBit i <;> cases p.testBit i <;> simp
/-- parts of a set, all that is wanted of them -/
theorem qparts_all {s p : Nat} (hs : s < 256) (h : p ∈ qparts s) : p < s ∧ p ≠ 0 ∧ p &&& s = p ∧ s ^^^ p < s ∧ s ^^^ p ≠ 0 ∧ p < 256 ∧ s ^^^ p < 256 := by
  have ⟨h1, h2, h3⟩ := qparts_mem h
  have h0 : p ≠ 0 := by
    intro e
    subst e
    simp at h3
    have := qlow_0 s hs h3.symm
    omega
  have h4 := q_sub_le (q_xor_sub h2)
  have h5 : s ^^^ p ≠ s := by
    intro e
    have := @q_xor_xor s p
    rw [e, Nat.xor_self] at this
    exact h0 this.symm
  have h6 : s ^^^ p ≠ 0 := by
    intro e
    rw [q_xor0] at e
    omega
  exact ⟨h1, h0, h2, by omega, h6, by omega, by omega⟩
theorem q_frange {α : Type} (step : α → Nat → α) (a : α) (n : Nat) : (List.range (n + 1)).foldl step a = step ((List.range n).foldl step a) n := by
  rw [List.range_succ, List.foldl_append]; rfl
theorem q_foldfilter {α : Type} (c : Nat → Bool) (step : α → Nat → α) (a : α) (l : List Nat) : (l.filter c).foldl step a = l.foldl (fun x p => if c p then step x p else x) a := by
  rw [List.foldl_filter]
theorem q_foldmap {α : Type} (f : Nat → Nat) (step : α → Nat → α) (a : α) (l : List Nat) : (l.map f).foldl step a = l.foldl (fun x p => step x (f p)) a := by
  rw [List.foldl_map]
theorem qnth_mem (s : Nat) (h : s < 256) (h0 : s ≠ 0) (i : Nat) (hi : i < qspl s) : qnth s i ∈ qparts s := by
  rcases qparts_nth s h with e | e
  · exact absurd e h0
  · rw [e]; exact List.mem_map.mpr ⟨i, List.mem_range.mpr hi, rfl⟩
theorem q_xor_add (s p : Nat) (hs : s < 256) (hp : p < 256) (h : p &&& s = p) : p + (s ^^^ p) = s := by
  have : ∀ s, s < 256 → ∀ p, p < 256 → p &&& s = p → p + (s ^^^ p) = s := by decide +kernel
  exact this s hs p hp h
