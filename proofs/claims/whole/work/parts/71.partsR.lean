theorem qnd_get {tr : Nat → Int32} {l1 l2 : List Nat} {a : Nat} (h : qnd tr (l1 ++ a :: l2)) : tr l1.length = qi a := h _ _ (by simp)
theorem qnd_of {tr : Nat → Int32} {X : List Nat} (h : ∀ (i : Nat) (s : Nat), X[i]? = some s → tr i = qi s) : qnd tr X := h
/-- a joining of the reference's: the last takes the place of the second -/
theorem qnd_merge {tr : Nat → Int32} {l1 l2 l3 : List Nat} {a b : Nat} (h : qnd tr (l1 ++ a :: (l2 ++ b :: l3))) :
    ∃ X', X'.Perm ((a ||| b) :: (l1 ++ (l2 ++ l3))) ∧ qnd (upd (upd tr l1.length (qi (a ||| b))) (l1.length + 1 + l2.length) (upd tr l1.length (qi (a ||| b)) (l1.length + 1 + l2.length + l3.length))) X' := by
  rcases List.eq_nil_or_concat l3 with rfl | ⟨l, z, rfl⟩
  · refine ⟨l1 ++ (a ||| b) :: l2, ?_, ?_⟩
    · rw [List.append_nil]; exact List.perm_middle
    · intro i s hs
      have hi := (List.getElem?_eq_some_iff.mp hs).1
      have hi' : i < l1.length + 1 + l2.length := by simp at hi; omega
      rw [upd_ne _ _ (by omega)]
      by_cases c1 : i < l1.length
      · rw [upd_ne _ _ (by omega)]
        apply h i s
        rw [List.getElem?_append_left (by omega)] at hs ⊢
        exact hs
      · by_cases c2 : i = l1.length
        · subst c2
          rw [upd_self]
          have : s = a ||| b := by simpa using hs.symm
          rw [this]
        · rw [upd_ne _ _ c2]
          apply h i s
          rw [List.getElem?_append_right (by omega), show i - l1.length = (i - l1.length - 1) + 1 by omega, List.getElem?_cons_succ] at hs ⊢
          rw [List.getElem?_append_left (by omega)]
          exact hs
  · refine ⟨l1 ++ (a ||| b) :: (l2 ++ z :: l), ?_, ?_⟩
    · refine List.perm_middle.trans (List.Perm.cons _ (List.Perm.append_left _ (List.Perm.append_left _ ?_)))
      simp
      exact (List.perm_append_comm (l₁ := [z]) (l₂ := l))
    · have hz : tr (l1.length + 1 + l2.length + (l ++ [z]).length) = qi z := by
        apply h
        rw [List.getElem?_append_right (by omega), show l1.length + 1 + l2.length + (l ++ [z]).length - l1.length = (l2.length + (l ++ [z]).length) + 1 by omega, List.getElem?_cons_succ,
          List.getElem?_append_right (by omega), show l2.length + (l ++ [z]).length - l2.length = l.length + 1 by simp, List.getElem?_cons_succ]
        simp
      rw [List.concat_eq_append] at *
      have hz' : upd tr l1.length (qi (a ||| b)) (l1.length + 1 + l2.length + (l ++ [z]).length) = qi z := by
        rw [upd_ne _ _ (by omega)]; exact hz
      rw [hz']
      intro i s hs
      have hi := (List.getElem?_eq_some_iff.mp hs).1
      have hi' : i < l1.length + 1 + l2.length + 1 + l.length := by simp at hi; omega
      by_cases c1 : i < l1.length
      · rw [upd_ne _ _ (by omega), upd_ne _ _ (by omega)]
        apply h i s
        rw [List.getElem?_append_left (by omega)] at hs ⊢
        exact hs
      · by_cases c2 : i = l1.length
        · subst c2
          rw [upd_ne _ _ (by omega), upd_self]
          have : s = a ||| b := by simpa using hs.symm
          rw [this]
        · rw [List.getElem?_append_right (by omega), show i - l1.length = (i - l1.length - 1) + 1 by omega, List.getElem?_cons_succ] at hs
          by_cases c3 : i = l1.length + 1 + l2.length
          · subst c3
            rw [upd_self]
            rw [show l1.length + 1 + l2.length - l1.length - 1 = l2.length by omega] at hs
            have : s = z := by simpa using hs.symm
            rw [this]
          · rw [upd_ne _ _ c3, upd_ne _ _ c2]
            apply h i s
            rw [List.getElem?_append_right (by omega), show i - l1.length = (i - l1.length - 1) + 1 by omega, List.getElem?_cons_succ]
            by_cases c4 : i < l1.length + 1 + l2.length
            · rw [List.getElem?_append_left (by omega)] at hs ⊢
              exact hs
            · rw [List.getElem?_append_right (by omega)] at hs ⊢
              rw [show i - l1.length - 1 - l2.length = (i - l1.length - 1 - l2.length - 1) + 1 by omega, List.getElem?_cons_succ] at hs ⊢
              rw [List.getElem?_append_left (by omega)]
              exact hs
def qnj (g : Qg) (X : List Nat) (i j : Nat) : Prop := ∀ (a b : Nat), X[i]? = some a → X[j]? = some b → qjn g a b = false
theorem R_pm_j {g : Qg} {all : Nat → Int32} (hg : qGok g) (hr : qRg g all) (X : List Nat) (hX : qX g X) (h8 : X.length ≤ 8) (tr : Nat → Int32) (ht : qnd tr X) (i : Nat) (hi : i < X.length) (N : Nat) (hN : 300 < N) :
    ∃ y, lp (fun y : Int32 × (Nat → Int32) × Int32 × Int32 => R_partMany_b57 N y.1 all y.2.1 y.2.2.1 (qi i) y.2.2.2) N (qi X.length, tr, qi 0, qi (i + 1)) = some y ∧
      ((y = (qi X.length, tr, qi 0) ∧ ∀ j, i < j → j < X.length → qnj g X i j) ∨
       (∃ X' tr', y = (qi X'.length, tr', qi 1) ∧ qX g X' ∧ X'.length + 1 = X.length ∧ qnd tr' X')) := by
  refine qlp_dn (Inv := fun m y => (∃ j, m = 1 + (X.length - j) ∧ i < j ∧ j ≤ X.length ∧ y = (qi X.length, tr, qi 0, qi j) ∧ ∀ j', i < j' → j' < j → qnj g X i j') ∨
      (m = 0 ∧ ∃ X' tr' j, j ≤ 8 ∧ y = (qi X'.length, tr', qi 1, qi j) ∧ qX g X' ∧ X'.length + 1 = X.length ∧ qnd tr' X')) (Q := _) ?_ (1 + (X.length - (i + 1))) _ (.inl ⟨i + 1, rfl, by omega, by omega, rfl, by intro j' h1 h2; omega⟩) N (by omega)
  rintro m y (⟨j, hm, hij, hj, rfl, hn⟩ | ⟨rfl, X', tr', j, hj, rfl, q1, q2, q3⟩)
  · by_cases he : X.length ≤ j
    · right
      refine ⟨(qi X.length, tr, qi 0), ?_, .inl ⟨rfl, ?_⟩⟩
      · simp (disch := omega) only [R_partMany_b57, qi_lit, qi_m1, qi_add, qi_mul, qi_and, qi_or, qi_xor, qi_not, qi_shl, qi_shr, qi_and31, qi_nat, qi_inb, qi_eq, qi_lt, qi_le, qi_sub, if_pos he]
      · intro j' h1 h2
        exact hn j' h1 (by omega)
    · left
      obtain ⟨l1, a, l2, b, l3, e, hl1, hl2⟩ := q_cut X i j hij (by omega)
      have hXi : X[i]? = some a := by rw [e, ← hl1]; simp
      have hXj : X[j]? = some b := by
        rw [e, List.getElem?_append_right (by omega), show j - l1.length = l2.length + 1 by omega]
        simp
      have e1 := ht i a hXi
      have e2 := ht j b hXj
      have jo := R_isJoined_q hg hr a b N (by omega)
      rcases q_dich (qjn g a b) with k | k
      · refine ⟨(qi X.length, tr, qi 0, qi (j + 1)), 1 + (X.length - (j + 1)), ?_, .inl ⟨j + 1, rfl, by omega, by omega, rfl, ?_⟩, by omega⟩
        · simp (disch := omega) only [R_partMany_b57, qi_lit, qi_m1, qi_add, qi_mul, qi_and, qi_or, qi_xor, qi_not, qi_shl, qi_shr, qi_and31, qi_nat, qi_inb, qi_eq, qi_lt, qi_le, qi_sub, dn, db_some, dk_t, if_neg he, e1, e2, jo, qb_0, k, if_true]
          rfl
        · intro j' h1 h2
          by_cases ej : j' = j
          · subst ej
            intro a' b' ha' hb'
            rw [hXi] at ha'
            rw [hXj] at hb'
            rw [← Option.some.inj ha', ← Option.some.inj hb']
            exact k
          · exact hn j' h1 (by omega)
      · obtain ⟨X', perm, q⟩ := qnd_merge (tr := tr) (l1 := l1) (l2 := l2) (l3 := l3) (a := a) (b := b) (by rw [← e]; exact ht)
        have hlen : X.length = l1.length + 1 + l2.length + 1 + l3.length := by rw [e]; simp; omega
        have hlen' : X'.length + 1 = X.length := by
          have := perm.length_eq
          simp at this
          omega
        have hx1 : qX g (a :: b :: (l1 ++ (l2 ++ l3))) := by
          refine qX_perm hX ?_
          rw [e]
          refine (List.perm_middle).trans (List.Perm.cons _ ?_)
          rw [← List.append_assoc]
          refine (List.perm_middle).trans (List.Perm.cons _ ?_)
          rw [List.append_assoc]
        have hx2 := qX_perm (qX_step hx1 k) perm.symm
        rw [hl1, hl2, show j + l3.length = X.length - 1 by omega] at q
        refine ⟨(qi X'.length, _, qi 1, qi (j + 1)), 0, ?_, .inr ⟨rfl, X', _, j + 1, by omega, rfl, hx2, hlen', q⟩, by omega⟩
        simp (disch := omega) only [R_partMany_b57, qi_lit, qi_m1, qi_add, qi_mul, qi_and, qi_or, qi_xor, qi_not, qi_shl, qi_shr, qi_and31, qi_nat, qi_inb, qi_eq, qi_lt, qi_le, qi_sub, dn, db_some, dk_t, if_neg he, e1, e2, jo, qb_0, k, reduceCtorEq, if_false]
        rw [show X.length - 1 = X'.length by omega]
        rfl
  · right
    refine ⟨(qi X'.length, tr', qi 1), ?_, .inr ⟨X', tr', rfl, q1, q2, q3⟩⟩
    by_cases he : X'.length ≤ j
    · simp (disch := omega) only [R_partMany_b57, qi_lit, qi_m1, qi_add, qi_mul, qi_and, qi_or, qi_xor, qi_not, qi_shl, qi_shr, qi_and31, qi_nat, qi_inb, qi_eq, qi_lt, qi_le, qi_sub, if_pos he]
    · simp (disch := omega) only [R_partMany_b57, qi_lit, qi_m1, qi_add, qi_mul, qi_and, qi_or, qi_xor, qi_not, qi_shl, qi_shr, qi_and31, qi_nat, qi_inb, qi_eq, qi_lt, qi_le, qi_sub, if_neg he]
      rfl
theorem R_pm_i {g : Qg} {all : Nat → Int32} (hg : qGok g) (hr : qRg g all) (X : List Nat) (hX : qX g X) (h8 : X.length ≤ 8) (tr : Nat → Int32) (ht : qnd tr X) (N : Nat) (hN : 300 < N) :
    ∃ y, lp (fun y : Int32 × (Nat → Int32) × Int32 × Int32 => R_partMany_b45 N y.1 all y.2.1 y.2.2.1 y.2.2.2) N (qi X.length, tr, qi 0, qi 0) = some y ∧
      ((y = (qi X.length, tr, qi 0) ∧ ∀ i j, i < j → j < X.length → qnj g X i j) ∨
       (∃ X' tr', y = (qi X'.length, tr', qi 1) ∧ qX g X' ∧ X'.length + 1 = X.length ∧ qnd tr' X')) := by
  refine qlp_dn (Inv := fun m y => (∃ i, m = 10 + (X.length - i) ∧ i ≤ X.length ∧ y = (qi X.length, tr, qi 0, qi i) ∧ ∀ i' j', i' < i → i' < j' → j' < X.length → qnj g X i' j') ∨
      (∃ X' tr' i, m = 9 - i ∧ i ≤ 9 ∧ y = (qi X'.length, tr', qi 1, qi i) ∧ qX g X' ∧ X'.length + 1 = X.length ∧ qnd tr' X')) (Q := _) ?_ (10 + X.length) _ (.inl ⟨0, by omega, by omega, rfl, by intro i' j' h1; omega⟩) N (by omega)
  rintro m y (⟨i, hm, hi, rfl, hn⟩ | ⟨X', tr', i, hm, hi, rfl, q1, q2, q3⟩)
  · by_cases he : X.length ≤ i
    · right
      refine ⟨(qi X.length, tr, qi 0), ?_, .inl ⟨rfl, ?_⟩⟩
      · simp (disch := omega) only [R_partMany_b45, qi_lit, qi_m1, qi_add, qi_mul, qi_and, qi_or, qi_xor, qi_not, qi_shl, qi_shr, qi_and31, qi_nat, qi_inb, qi_eq, qi_lt, qi_le, qi_sub, if_pos he]
      · intro i' j' h1 h2
        exact hn i' j' (by omega) h1 h2
    · left
      obtain ⟨y, e, q⟩ := R_pm_j hg hr X hX h8 tr ht i (by omega) N hN
      have eb : R_partMany_b45 N (qi X.length) all tr (qi 0) (qi i) = R_partMany_a57 N all (qi i) y := by
        simp (disch := omega) only [R_partMany_b45, R_partMany_57, qi_lit, qi_m1, qi_add, qi_mul, qi_and, qi_or, qi_xor, qi_not, qi_shl, qi_shr, qi_and31, qi_nat, qi_inb, qi_eq, qi_lt, qi_le, qi_sub, dn, db_some, dk_t, if_neg he, e]
      rcases q with ⟨rfl, q⟩ | ⟨X', tr', rfl, q1, q2, q3⟩
      · refine ⟨(qi X.length, tr, qi 0, qi (i + 1)), 10 + (X.length - (i + 1)), ?_, .inl ⟨i + 1, rfl, by omega, rfl, ?_⟩, by omega⟩
        · rw [eb]
          simp (disch := omega) only [R_partMany_a57, R_partMany_138, qi_lit, qi_m1, qi_add, qi_mul, qi_and, qi_or, qi_xor, qi_not, qi_shl, qi_shr, qi_and31, qi_nat, qi_inb, qi_eq, qi_lt, qi_le, qi_sub, dn, db_some, dk_t]
        · intro i' j' h1 h2 h3
          by_cases ei : i' = i
          · subst ei; exact q j' h2 h3
          · exact hn i' j' (by omega) h2 h3
      · refine ⟨(qi X'.length, tr', qi 1, qi (i + 1)), 9 - (i + 1), ?_, .inr ⟨X', tr', i + 1, rfl, by omega, rfl, q1, q2, q3⟩, by omega⟩
        rw [eb]
        simp (disch := omega) only [R_partMany_a57, R_partMany_138, qi_lit, qi_m1, qi_add, qi_mul, qi_and, qi_or, qi_xor, qi_not, qi_shl, qi_shr, qi_and31, qi_nat, qi_inb, qi_eq, qi_lt, qi_le, qi_sub, dn, db_some, dk_t]
  · by_cases he : X'.length ≤ i
    · right
      refine ⟨(qi X'.length, tr', qi 1), ?_, .inr ⟨X', tr', rfl, q1, q2, q3⟩⟩
      simp (disch := omega) only [R_partMany_b45, qi_lit, qi_m1, qi_add, qi_mul, qi_and, qi_or, qi_xor, qi_not, qi_shl, qi_shr, qi_and31, qi_nat, qi_inb, qi_eq, qi_lt, qi_le, qi_sub, if_pos he]
    · left
      refine ⟨(qi X'.length, tr', qi 1, qi (i + 1)), 9 - (i + 1), ?_, .inr ⟨X', tr', i + 1, rfl, by omega, rfl, q1, q2, q3⟩, by omega⟩
      have inner : lp (fun y : Int32 × (Nat → Int32) × Int32 × Int32 => R_partMany_b57 N y.1 all y.2.1 y.2.2.1 (qi i) y.2.2.2) N (qi X'.length, tr', qi 1, qi (i + 1)) = some (qi X'.length, tr', qi 1) := by
        refine qlp_for (fun _ => (qi X'.length, tr', qi 1, qi (i + 1))) 0 _ (by intro i h; omega) ?_ N (by omega)
        by_cases he2 : X'.length ≤ i + 1
        · simp (disch := omega) only [R_partMany_b57, qi_lit, qi_m1, qi_add, qi_mul, qi_and, qi_or, qi_xor, qi_not, qi_shl, qi_shr, qi_and31, qi_nat, qi_inb, qi_eq, qi_lt, qi_le, qi_sub, if_pos he2]
        · simp (disch := omega) only [R_partMany_b57, qi_lit, qi_m1, qi_add, qi_mul, qi_and, qi_or, qi_xor, qi_not, qi_shl, qi_shr, qi_and31, qi_nat, qi_inb, qi_eq, qi_lt, qi_le, qi_sub, if_neg he2]
          rfl
      simp (disch := omega) only [R_partMany_b45, R_partMany_57, R_partMany_a57, R_partMany_138, qi_lit, qi_m1, qi_add, qi_mul, qi_and, qi_or, qi_xor, qi_not, qi_shl, qi_shr, qi_and31, qi_nat, qi_inb, qi_eq, qi_lt, qi_le, qi_sub, dn, db_some, dk_t, if_neg he, inner]
theorem R_partMany_q {g : Qg} {all : Nat → Int32} (hg : qGok g) (hr : qRg g all) (tr : Nat → Int32) (tm : Int32) (N : Nat) (hN : 300 < N) :
    ∃ X, qX g X ∧ qterm g X ∧ ∃ tm' tr', R_partMany N tm all tr = some (qi X.length, tm', tr') := by
  have hn := hg.1
  have h0 : all 0 = qi (qn g) := hr.1
  have key1 := qlp_rel (body := fun x : (Nat → Int32) × Int32 => R_partMany_b12 N (qi (qn g)) all x.1 x.2) (Inv := fun i x => x.2 = qi i ∧ ∀ j, j < i → x.1 j = qi (2 ^ j)) (qn g) (Q := fun y => ∀ j, j < qn g → y j = qi (2 ^ j))
    (by
      rintro i ⟨f, x⟩ hi ⟨rfl, h⟩
      refine ⟨(upd f i (qi (2 ^ i)), qi (i + 1)), ?_, rfl, ?_⟩
      · simp (disch := omega) only [R_partMany_b12, qi_lit, qi_m1, qi_add, qi_mul, qi_and, qi_or, qi_xor, qi_not, qi_shl, qi_shr, qi_and31, qi_nat, qi_inb, qi_eq, qi_lt, qi_le, qi_sub, dn, db_some, dk_t, if_neg (show ¬ qn g ≤ i by omega)]
      · intro j hj
        show upd f i (qi (2 ^ i)) j = _
        by_cases e : j = i
        · subst e; exact upd_self _ _ _
        · rw [upd_ne _ _ e]; exact h j (by omega))
    (by
      rintro ⟨f, x⟩ ⟨rfl, h⟩
      exact ⟨f, by simp (disch := omega) only [R_partMany_b12, qi_lit, qi_m1, qi_add, qi_mul, qi_and, qi_or, qi_xor, qi_not, qi_shl, qi_shr, qi_and31, qi_nat, qi_inb, qi_eq, qi_lt, qi_le, qi_sub]; simp, h⟩)
    (tr, qi 0) ⟨rfl, by intro j h; omega⟩ N (by omega)
  obtain ⟨tr0, e1, ht0⟩ := key1
  have key := qlp_dn (body := fun y : Int32 × (Nat → Int32) × Int32 => R_partMany_b37 N y.1 all y.2.1 y.2.2)
    (Inv := fun m y => ∃ X, qX g X ∧ X.length ≤ 8 ∧ qnd y.2.1 X ∧ y.1 = qi X.length ∧ ((y.2.2 = qi 1 ∧ m = 2 * X.length + 1) ∨ (y.2.2 = qi 0 ∧ m = 2 * X.length ∧ ∀ i j, i < j → j < X.length → qnj g X i j)))
    (Q := fun y => ∃ X, qX g X ∧ qterm g X ∧ y.1 = qi X.length) ?_ (2 * qn g + 1) (qi (qn g), tr0, qi 1) ?_ N (by omega)
  · obtain ⟨⟨a, b⟩, e, X, q1, q2, q3⟩ := key
    simp only at q3
    subst q3
    refine ⟨X, q1, q2, qi X.length, b, ?_⟩
    simp (disch := omega) only [R_partMany, R_partMany_12, qi_lit, qi_m1, qi_add, qi_mul, qi_and, qi_or, qi_xor, qi_not, qi_shl, qi_shr, qi_and31, qi_nat, qi_inb, qi_eq, qi_lt, qi_le, qi_sub, dn, db_some, dk_t, h0]
    rw [e1, db_some]
    unfold R_partMany_a12 R_partMany_35 R_partMany_37
    rw [show (1 : Int32) = qi 1 from rfl, e]
    rfl
  · rintro m ⟨a1, a2, a3⟩ ⟨X, hX, h8, ht, rfl, h⟩
    simp only at ht h
    rcases h with ⟨rfl, hm⟩ | ⟨rfl, hm, hn⟩
    · left
      obtain ⟨y, e, q⟩ := R_pm_i hg hr X hX h8 a2 ht N hN
      have eb : R_partMany_b37 N (qi X.length) all a2 (qi 1) = R_partMany_a45 N all y := by
        simp (disch := omega) only [R_partMany_b37, R_partMany_45, qi_lit, qi_m1, qi_add, qi_mul, qi_and, qi_or, qi_xor, qi_not, qi_shl, qi_shr, qi_and31, qi_nat, qi_inb, qi_eq, qi_lt, qi_le, qi_sub, dn, db_some, dk_t, if_neg (show ¬ (1 = 0) by omega), e]
      rcases q with ⟨rfl, q⟩ | ⟨X', tr', rfl, q1, q2, q3⟩
      · refine ⟨(qi X.length, a2, qi 0), 2 * X.length, ?_, ⟨X, hX, h8, ht, rfl, .inr ⟨rfl, rfl, q⟩⟩, by omega⟩
        rw [eb]; rfl
      · refine ⟨(qi X'.length, tr', qi 1), 2 * X'.length + 1, ?_, ⟨X', q1, by omega, q3, rfl, .inl ⟨rfl, rfl⟩⟩, by omega⟩
        rw [eb]; rfl
    · right
      refine ⟨(qi X.length, a2), ?_, X, hX, ?_, rfl⟩
      · simp (disch := omega) only [R_partMany_b37, qi_lit, qi_m1, qi_add, qi_mul, qi_and, qi_or, qi_xor, qi_not, qi_shl, qi_shr, qi_and31, qi_nat, qi_inb, qi_eq, qi_lt, qi_le, qi_sub]
        simp
      · intro c d hc hd hne
        obtain ⟨i, hi⟩ := List.getElem?_of_mem hc
        obtain ⟨j, hj⟩ := List.getElem?_of_mem hd
        by_cases hij : i < j
        · exact hn i j hij (List.getElem?_eq_some_iff.mp hj).1 c d hi hj
        · by_cases hji : j < i
          · rw [qjn_comm]; exact hn j i hji (List.getElem?_eq_some_iff.mp hi).1 d c hj hi
          · exfalso
            have : i = j := by omega
            subst this
            rw [hi] at hj
            exact hne (Option.some.inj hj)
  · refine ⟨(List.range (qn g)).map (fun r => 2 ^ r), qX_ini g, by simp; omega, ?_, by simp, .inl ⟨rfl, by simp⟩⟩
    intro i s hs
    have hi := (List.getElem?_eq_some_iff.mp hs).1
    simp at hi
    simp [hi] at hs
    subst hs
    exact ht0 i hi
