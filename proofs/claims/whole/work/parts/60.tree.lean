abbrev Qt : Type := Lean.Data.AC.Expr
def qts : Qt → Nat
  | .var r => 2 ^ r
  | .op a b => qts a ||| qts b
def qtok : Qt → Prop
  | .var r => r < 8
  | .op a b => qtok a ∧ qtok b ∧ qts a &&& qts b = 0 ∧ qlow (qts a ||| qts b) &&& qts a = qlow (qts a ||| qts b)
def qtn : Qt → List (Nat × Nat)
  | .var _ => []
  | .op a b => (qts a ||| qts b, qts a) :: (qtn a ++ qtn b)
def qpf : Qt → Nat → Nat
  | .var _, _ => 0
  | .op a b, s => if s = qts a ||| qts b then qts a else qpf a s + qpf b s
theorem qts_lt : ∀ t, qtok t → qts t < 256 ∧ qts t ≠ 0 := by
  intro t
  induction t with
  | var r =>
    intro h
    have h : r < 8 := h
    exact ⟨Nat.pow_lt_pow_right (a := 2) (n := 8) (by omega) h, Nat.ne_of_gt (Nat.two_pow_pos r)⟩
  | op a b iha ihb =>
    rintro ⟨h1, h2, h3, h4⟩
    have ha := iha h1
    have hb := ihb h2
    refine ⟨q_or_lt (n := 8) ha.1 hb.1, ?_⟩
    show qts a ||| qts b ≠ 0
    intro e
    have := @Nat.left_le_or (qts a) (qts b)
    omega
theorem q_or_sub_l (a b : Nat) : a &&& (a ||| b) = a := by
  apply q_sub_of; intro i h; simp [h]
theorem q_or_sub_r (a b : Nat) : b &&& (a ||| b) = b := by
  apply q_sub_of; intro i h; simp [h]
theorem q_or_xor {a b : Nat} (h : a &&& b = 0) : (a ||| b) ^^^ a = b := by
  apply Nat.eq_of_testBit_eq
  intro i
  have := congrArg (fun z => z.testBit i) h
  simp at this
  simp
  revert this
  cases a.testBit i <;> cases b.testBit i <;> simp
theorem q_sub_trans {a b c : Nat} (h1 : a &&& b = a) (h2 : b &&& c = b) : a &&& c = a := q_sub_of fun i h => q_tb h2 i (q_tb h1 i h)
theorem q_disj {a b x : Nat} (h : a &&& b = 0) (h1 : x &&& a = x) (h2 : x &&& b = x) : x = 0 := by
  apply Nat.eq_of_testBit_eq
  intro i
  have := congrArg (fun z => z.testBit i) h
  simp at this
  have k1 := q_tb h1 i
  have k2 := q_tb h2 i
  simp
  revert this k1 k2
  cases a.testBit i <;> cases b.testBit i <;> cases x.testBit i <;> simp
/-- what a join of two is -/
theorem qtok_op {a b : Qt} (h : qtok (.op a b)) : qts a ∈ qparts (qts a ||| qts b) ∧ (qts a ||| qts b) ^^^ qts a = qts b ∧ qts a ||| qts b < 256 ∧ qts a ||| qts b ≠ 0 ∧ qts a < qts a ||| qts b ∧ qts b < qts a ||| qts b ∧ qone (qts a ||| qts b) = false := by
  have hl : qts a ||| qts b < 256 ∧ qts a ||| qts b ≠ 0 := qts_lt _ h
  obtain ⟨h1, h2, h3, h4⟩ := h
  have ha := qts_lt a h1
  have hb := qts_lt b h2
  have hx := q_or_xor h3
  have hla := @Nat.left_le_or (qts a) (qts b)
  have hlb := @Nat.right_le_or (qts a) (qts b)
  have hna : qts a ≠ qts a ||| qts b := by
    intro e
    rw [← e, Nat.xor_self] at hx
    exact hb.2 hx.symm
  have hnb : qts b ≠ qts a ||| qts b := by
    intro e
    have : qts a &&& qts b = qts a := by rw [e]; exact q_or_sub_l _ _
    rw [h3] at this
    exact ha.2 this.symm
  have hm : qts a ∈ qparts (qts a ||| qts b) := by
    unfold qparts qsub
    refine List.mem_filter.mpr ⟨List.mem_range.mpr (by omega), ?_⟩
    rw [q_or_sub_l, h4]; simp
  refine ⟨hm, hx, hl.1, hl.2, by omega, by omega, ?_⟩
  rcases q_dich (qone (qts a ||| qts b)) with k | k
  · exact k
  · rw [qparts_one _ hl.1 k] at hm
    cases hm
theorem qtn_sub : ∀ t, qtok t → ∀ x, x ∈ qtn t → x.1 &&& qts t = x.1 ∧ x.1 ≠ 0 ∧ x.1 < 256 ∧ x.2 ∈ qparts x.1 ∧ qone x.1 = false := by
  intro t
  induction t with
  | var r => intro _ x hx; cases hx
  | op a b iha ihb =>
    intro h x hx
    have ho := qtok_op h
    obtain ⟨h1, h2, h3, h4⟩ := h
    unfold qtn at hx
    rcases List.mem_cons.mp hx with rfl | hx
    · exact ⟨Nat.and_self _, ho.2.2.2.1, ho.2.2.1, ho.1, ho.2.2.2.2.2.2⟩
    · rcases List.mem_append.mp hx with hx | hx
      · have := iha h1 x hx
        exact ⟨q_sub_trans this.1 (q_or_sub_l _ _), this.2⟩
      · have := ihb h2 x hx
        exact ⟨q_sub_trans this.1 (q_or_sub_r _ _), this.2⟩
theorem qpf_sub : ∀ t, qtok t → ∀ s, qpf t s ≠ 0 → s &&& qts t = s ∧ s ≠ 0 ∧ s < 256 ∧ qpf t s ∈ qparts s := by
  intro t
  induction t with
  | var r => intro _ s hs; exact absurd rfl hs
  | op a b iha ihb =>
    intro h s hs
    have ho := qtok_op h
    obtain ⟨h1, h2, h3, h4⟩ := h
    unfold qpf at hs ⊢
    by_cases e : s = qts a ||| qts b
    · subst e
      rw [if_pos rfl]
      exact ⟨Nat.and_self _, ho.2.2.2.1, ho.2.2.1, ho.1⟩
    · rw [if_neg e] at hs ⊢
      by_cases ka : qpf a s = 0
      · have kb : qpf b s ≠ 0 := by omega
        have := ihb h2 s kb
        rw [ka, Nat.zero_add]
        exact ⟨q_sub_trans this.1 (q_or_sub_r _ _), this.2⟩
      · have A := iha h1 s ka
        have kb : qpf b s = 0 := by
          by_cases kb : qpf b s = 0
          · exact kb
          · have B := ihb h2 s kb
            exact absurd (q_disj h3 A.1 B.1) A.2.1
        rw [kb, Nat.add_zero]
        exact ⟨q_sub_trans A.1 (q_or_sub_l _ _), A.2⟩
theorem qpf_root {a b : Qt} : qpf (.op a b) (qts (.op a b)) = qts a := if_pos rfl
theorem qpf_big {t : Qt} (h : qtok t) {s : Nat} (hs : ¬ (s &&& qts t = s)) : qpf t s = 0 := by
  by_cases k : qpf t s = 0
  · exact k
  · exact absurd (qpf_sub t h s k).1 hs
theorem qpf_l {a b : Qt} (h : qtok (.op a b)) {s : Nat} (hs : s &&& qts a = s) (h0 : s ≠ 0) : qpf (.op a b) s = qpf a s := by
  have ho := qtok_op h
  obtain ⟨h1, h2, h3, h4⟩ := h
  have hle := q_sub_le hs
  show (if _ then _ else _) = _
  rw [if_neg (by omega), qpf_big h2 (fun e => h0 (q_disj h3 hs e)), Nat.add_zero]
theorem qpf_r {a b : Qt} (h : qtok (.op a b)) {s : Nat} (hs : s &&& qts b = s) (h0 : s ≠ 0) : qpf (.op a b) s = qpf b s := by
  have ho := qtok_op h
  obtain ⟨h1, h2, h3, h4⟩ := h
  have hle := q_sub_le hs
  show (if _ then _ else _) = _
  rw [if_neg (by omega), qpf_big h1 (fun e => h0 (q_disj h3 e hs)), Nat.zero_add]
def qsm (f : Nat → Nat) (k : Nat) : Nat := ((List.range k).map f).sum
theorem qsm_s (f : Nat → Nat) (k : Nat) : qsm f (k + 1) = qsm f k + f k := by
  unfold qsm
  rw [List.range_succ, List.map_append, List.sum_append]
  simp
theorem qsm_add (f h : Nat → Nat) (k : Nat) : qsm (fun s => f s + h s) k = qsm f k + qsm h k := by
  induction k with
  | zero => rfl
  | succ k ih => rw [qsm_s, qsm_s, qsm_s, ih]; omega
theorem qsm_congr (f h : Nat → Nat) (k : Nat) (e : ∀ s, s < k → f s = h s) : qsm f k = qsm h k := by
  induction k with
  | zero => rfl
  | succ k ih => rw [qsm_s, qsm_s, ih (fun s hs => e s (by omega)), e k (by omega)]
theorem qsm_zero (k : Nat) : qsm (fun _ => 0) k = 0 := by
  induction k with
  | zero => rfl
  | succ k ih => rw [qsm_s, ih]
theorem qsm_one (r v k : Nat) (h : r < k) : qsm (fun s => if s = r then v else 0) k = v := by
  induction k with
  | zero => omega
  | succ k ih =>
    rw [qsm_s]
    by_cases e : k = r
    · subst e
      rw [if_pos rfl, qsm_congr _ (fun _ => 0) k (fun s hs => if_neg (by omega)), qsm_zero, Nat.zero_add]
    · rw [if_neg e, ih (by omega), Nat.add_zero]
def qtw (f : Nat → Nat → Nat) (t : Qt) : Nat := ((qtn t).map (fun x => f x.1 x.2)).sum
theorem qtw_op (f : Nat → Nat → Nat) (a b : Qt) : qtw f (.op a b) = f (qts a ||| qts b) (qts a) + qtw f a + qtw f b := by
  unfold qtw
  show (List.map _ ((qts a ||| qts b, qts a) :: (qtn a ++ qtn b))).sum = _
  rw [List.map_cons, List.sum_cons, List.map_append, List.sum_append, Nat.add_assoc]
def qwt (f : Nat → Nat → Nat) (t : Qt) (s : Nat) : Nat := if qpf t s = 0 then 0 else f s (qpf t s)
theorem qtw_sum (f : Nat → Nat → Nat) : ∀ t, qtok t → qsm (qwt f t) 256 = qtw f t := by
  intro t
  induction t with
  | var r => intro _; exact qsm_zero 256
  | op a b iha ihb =>
    intro h
    have ho := qtok_op h
    have h1 := h.1
    have h2 := h.2.1
    have h3 := h.2.2.1
    rw [qtw_op, ← iha h1, ← ihb h2, Nat.add_assoc, ← qsm_add, ← qsm_one (qts a ||| qts b) (f (qts a ||| qts b) (qts a)) 256 ho.2.2.1, ← qsm_add]
    apply qsm_congr
    intro s hs
    unfold qwt
    by_cases e : s = qts a ||| qts b
    · subst e
      have e1 : qpf a (qts a ||| qts b) = 0 := qpf_big h1 (fun e => by have := q_sub_le e; omega)
      have e2 : qpf b (qts a ||| qts b) = 0 := qpf_big h2 (fun e => by have := q_sub_le e; omega)
      have e3 : qpf (.op a b) (qts a ||| qts b) = qts a := qpf_root
      rw [e1, e2, e3, if_pos rfl, if_pos rfl, if_neg (qts_lt a h1).2]
      simp
    · rw [if_neg e, Nat.zero_add]
      by_cases ka : qpf a s = 0
      · by_cases kb : qpf b s = 0
        · have : qpf (.op a b) s = 0 := by
            show (if _ then _ else _) = _
            rw [if_neg e, ka, kb]
          rw [this, ka, kb]; simp
        · have B := qpf_sub b h2 s kb
          rw [qpf_r h B.1 B.2.1, ka]; simp
      · have A := qpf_sub a h1 s ka
        have kb : qpf b s = 0 := qpf_big h2 (fun e => A.2.1 (q_disj h3 A.1 e))
        rw [qpf_l h A.1 A.2.1, kb]; simp
theorem qpop_tb (s : Nat) : qpop s = (s.testBit 0).toNat + (s.testBit 1).toNat + (s.testBit 2).toNat + (s.testBit 3).toNat + (s.testBit 4).toNat + (s.testBit 5).toNat + (s.testBit 6).toNat + (s.testBit 7).toNat := by
  have h : ∀ n, (decide (n % 2 = 1)).toNat = n % 2 := by
    intro n
    have := Nat.mod_lt n (show 2 > 0 by omega)
    by_cases e : n % 2 = 1
    · simp [e]
    · simp [e]; omega
  simp only [q_tbd, h]
  unfold qpop
  simp
theorem qpop_or {a b : Nat} (h : a &&& b = 0) : qpop (a ||| b) = qpop a + qpop b := by
  rw [qpop_tb, qpop_tb a, qpop_tb b]
  have k : ∀ i, ((a ||| b).testBit i).toNat = (a.testBit i).toNat + (b.testBit i).toNat := by
    intro i
    have := congrArg (fun z => z.testBit i) h
    simp at this
    simp
    revert this
    cases a.testBit i <;> cases b.testBit i <;> simp
  simp only [k]
  omega
theorem qtn_len : ∀ t, qtok t → (qtn t).length + 1 = qpop (qts t) := by
  intro t
  induction t with
  | var r =>
    intro h
    have h : r < 8 := h
    have : ∀ r, r < 8 → qpop (2 ^ r) = 1 := by decide
    exact (this r h).symm
  | op a b iha ihb =>
    intro h
    have := iha h.1
    have := ihb h.2.1
    show ((qts a ||| qts b, qts a) :: (qtn a ++ qtn b)).length + 1 = qpop (qts a ||| qts b)
    rw [qpop_or h.2.2.1]
    simp
    omega
theorem qpop_le (s : Nat) : qpop s ≤ 8 := by unfold qpop; omega
theorem qtn_le (t : Qt) (h : qtok t) : (qtn t).length ≤ 7 := by
  have := qtn_len t h
  have := qpop_le (qts t)
  omega
