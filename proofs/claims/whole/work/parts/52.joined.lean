theorem q_dich (b : Bool) : b = false ∨ b = true := by cases b <;> simp
abbrev Qg : Type := Nat × Nat × Nat × (Nat → Nat) × (Nat → Nat) × (Nat → Nat) × (Nat → Nat)
def qn (g : Qg) : Nat := g.1
def qm (g : Qg) : Nat := g.2.1
def qlim (g : Qg) : Nat := g.2.2.1
def qrw (g : Qg) : Nat → Nat := g.2.2.2.1
def qle (g : Qg) : Nat → Nat := g.2.2.2.2.1
def qri (g : Qg) : Nat → Nat := g.2.2.2.2.2.1
def qby (g : Qg) : Nat → Nat := g.2.2.2.2.2.2
def qGok (g : Qg) : Prop := qn g ≤ 8 ∧ qm g ≤ 16 ∧ qlim g ≤ 5000 ∧ (∀ r, r < qn g → 1 ≤ qrw g r ∧ qrw g r ≤ 1000000) ∧
  (∀ e, e < qm g → qle g e ≠ 0 ∧ qle g e < 2 ^ qn g ∧ qri g e ≠ 0 ∧ qri g e < 2 ^ qn g ∧ qle g e &&& qri g e = 0 ∧ 1 ≤ qby g e ∧ qby g e ≤ 100000)
def qRg (g : Qg) (all : Nat → Int32) : Prop := all 0 = qi (qn g) ∧ all 9 = qi (qm g) ∧ all 58 = qi (qlim g) ∧ (∀ r, r < qn g → all (1 + r) = qi (qrw g r)) ∧
  (∀ e, e < qm g → all (10 + 3 * e) = qi (qle g e) ∧ all (10 + 3 * e + 1) = qi (qri g e) ∧ all (10 + 3 * e + 2) = qi (qby g e))
def qJg (g : Qg) (rel edg lim : Int32) (rows left right by' : Nat → Int32) : Prop := rel = qi (qn g) ∧ edg = qi (qm g) ∧ lim = qi (qlim g) ∧ (∀ r, r < qn g → rows r = qi (qrw g r)) ∧
  (∀ e, e < qm g → left e = qi (qle g e) ∧ right e = qi (qri g e) ∧ by' e = qi (qby g e))
theorem q_pow8 {n : Nat} (h : n ≤ 8) : 2 ^ n ≤ 256 := Nat.pow_le_pow_right (n := 2) (by omega) h
def qjc (g : Qg) (a b e : Nat) : Bool := (qsub (qle g e) a && qsub (qri g e) b) || (qsub (qle g e) b && qsub (qri g e) a)
def qjn (g : Qg) (a b : Nat) : Bool := (List.range (qm g)).any (qjc g a b)
theorem qjn_t {g : Qg} {a b : Nat} : qjn g a b = true ↔ ∃ e, e < qm g ∧ qjc g a b e = true := by
  unfold qjn; simp [List.any_eq_true]
theorem qjn_f {g : Qg} {a b : Nat} : qjn g a b = false ↔ ∀ e, e < qm g → qjc g a b e = false := by
  unfold qjn; simp [List.any_eq_false]
theorem qjn_comm (g : Qg) (a b : Nat) : qjn g a b = qjn g b a := by
  unfold qjn qjc
  congr
  funext e
  exact Bool.or_comm _ _
theorem qRl {g : Qg} {all : Nat → Int32} (hg : qGok g) (hr : qRg g all) (e : Nat) (he : e < qm g) : R_leftOf all (qi e) = some (qi (qle g e)) := by
  have h1 := hg.2.1
  have h2 := (hr.2.2.2.2 e he).1
  simp (disch := omega) only [R_leftOf, qi_lit, qi_m1, qi_add, qi_mul, qi_and, qi_or, qi_xor, qi_not, qi_shl, qi_shr, qi_and31, qi_nat, qi_inb, qi_eq, qi_lt, qi_le, qi_sub, dn, db_some, dk_t, h2]
theorem qRr {g : Qg} {all : Nat → Int32} (hg : qGok g) (hr : qRg g all) (e : Nat) (he : e < qm g) : R_rightOf all (qi e) = some (qi (qri g e)) := by
  have h1 := hg.2.1
  have h2 := (hr.2.2.2.2 e he).2.1
  simp (disch := omega) only [R_rightOf, qi_lit, qi_m1, qi_add, qi_mul, qi_and, qi_or, qi_xor, qi_not, qi_shl, qi_shr, qi_and31, qi_nat, qi_inb, qi_eq, qi_lt, qi_le, qi_sub, dn, db_some, dk_t, h2]
theorem qRb {g : Qg} {all : Nat → Int32} (hg : qGok g) (hr : qRg g all) (e : Nat) (he : e < qm g) : R_byOf all (qi e) = some (qi (qby g e)) := by
  have h1 := hg.2.1
  have h2 := (hr.2.2.2.2 e he).2.2
  simp (disch := omega) only [R_byOf, qi_lit, qi_m1, qi_add, qi_mul, qi_and, qi_or, qi_xor, qi_not, qi_shl, qi_shr, qi_and31, qi_nat, qi_inb, qi_eq, qi_lt, qi_le, qi_sub, dn, db_some, dk_t, h2]
theorem qGle {g : Qg} (hg : qGok g) (e : Nat) (he : e < qm g) : qle g e < 256 := Nat.lt_of_lt_of_le (hg.2.2.2.2 e he).2.1 (q_pow8 hg.1)
theorem qGri {g : Qg} (hg : qGok g) (e : Nat) (he : e < qm g) : qri g e < 256 := Nat.lt_of_lt_of_le (hg.2.2.2.2 e he).2.2.2.1 (q_pow8 hg.1)
theorem R_isJoined_q {g : Qg} {all : Nat → Int32} (hg : qGok g) (hr : qRg g all) (a b : Nat) (N : Nat) (hN : 17 < N) :
    R_isJoined N all (qi a) (qi b) = some (qi (qjn g a b).toNat) := by
  have h1 := hg.2.1
  have hm : all 9 = qi (qm g) := hr.2.1
  have hb : ∀ e, e ≤ qm g → R_isJoined_b2 N all (qi a) (qi b) (qi e) = if qm g ≤ e then some (.inr (.inr ())) else if qjc g a b e = true then some (.inr (.inl ())) else some (.inl (qi (e + 1))) := by
    intro e he
    by_cases h : qm g ≤ e
    · simp (disch := omega) only [R_isJoined_b2, qi_lit, qi_m1, qi_add, qi_mul, qi_and, qi_or, qi_xor, qi_not, qi_shl, qi_shr, qi_and31, qi_nat, qi_inb, qi_eq, qi_lt, qi_le, qi_sub, hm, if_pos h]
    · have l1 := qGle hg e (by omega)
      have l2 := qGri hg e (by omega)
      simp (disch := omega) only [R_isJoined_b2, R_isJoined_37, qi_lit, qi_m1, qi_add, qi_mul, qi_and, qi_or, qi_xor, qi_not, qi_shl, qi_shr, qi_and31, qi_nat, qi_inb, qi_eq, qi_lt, qi_le, qi_sub, hm, if_neg h, qRl hg hr e (by omega), qRr hg hr e (by omega), dn, db_some, dk_t, R_isIn_q, qb_0, qjc]
      rcases q_dich (qsub (qle g e) a) with k1 | k1 <;> rcases q_dich (qsub (qle g e) b) with k2 | k2 <;>
        rcases q_dich (qsub (qri g e) a) with k3 | k3 <;> rcases q_dich (qsub (qri g e) b) with k4 | k4 <;> simp [k1, k2, k3, k4]
  have key := qlp_inv (body := fun x => R_isJoined_b2 N all (qi a) (qi b) x) (Inv := fun x => ∃ e, e ≤ qm g ∧ x = qi e ∧ ∀ e', e' < e → qjc g a b e' = false)
    (mu := fun x => qm g - x.toNatClampNeg) (Q := fun y => (y = .inl () ∧ qjn g a b = true) ∨ (y = .inr () ∧ qjn g a b = false))
    (by
      rintro x ⟨e, he, rfl, hlt⟩
      rw [hb e he]
      by_cases h : qm g ≤ e
      · rw [if_pos h]
        refine .inr ⟨_, rfl, .inr ⟨rfl, qjn_f.mpr fun e' he' => hlt e' (by omega)⟩⟩
      · rw [if_neg h]
        by_cases h2 : qjc g a b e = true
        · rw [if_pos h2]
          exact .inr ⟨_, rfl, .inl ⟨rfl, qjn_t.mpr ⟨e, by omega, h2⟩⟩⟩
        · rw [if_neg h2]
          refine .inl ⟨_, rfl, ⟨e + 1, by omega, rfl, ?_⟩, ?_⟩
          · intro e' he'
            by_cases h3 : e' = e
            · subst h3; simpa using h2
            · exact hlt e' (by omega)
          · rw [qi_nat _ (by omega), qi_nat _ (by omega)]; omega)
    (qi 0) ⟨0, by omega, rfl, by intro e' h; omega⟩ N (by rw [qi_nat _ (by omega)]; omega)
  obtain ⟨y, e, q⟩ := key
  unfold R_isJoined R_isJoined_2
  rw [qi_0, e, db_some]
  rcases q with ⟨rfl, q⟩ | ⟨rfl, q⟩ <;> rw [q] <;> rfl
