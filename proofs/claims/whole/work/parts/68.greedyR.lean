def qpfs (Q : List Qt) (s : Nat) : Nat := Q.foldr (fun u z => qpf u s + z) 0
theorem qpfs_perm {P Q : List Qt} (e : P.Perm Q) (s : Nat) : qpfs P s = qpfs Q s := by
  unfold qpfs
  exact e.foldr_eq' (fun x _ y _ z => by omega) 0
theorem qpfs_0 {Q : List Qt} {s : Nat} (h : ∀ u, u ∈ Q → qpf u s = 0) : qpfs Q s = 0 := by
  induction Q with
  | nil => rfl
  | cons w Q ih =>
    show qpf w s + qpfs Q s = 0
    rw [h w (by simp), ih (fun u hu => h u (by simp [hu]))]
theorem qpfs_step {a b : Qt} {r : List Qt} (h : qfo (.op a b :: r)) (s : Nat) : qpfs (.op a b :: r) s = if s = qts a ||| qts b then qts a else qpfs (a :: b :: r) s := by
  have hop := h.1 _ (List.mem_cons_self ..)
  have ho := qtok_op hop
  have hd := (List.pairwise_cons.mp h.2).1
  show qpf (.op a b) s + qpfs r s = _
  by_cases e : s = qts a ||| qts b
  · subst e
    rw [if_pos rfl, show qpf (.op a b) (qts a ||| qts b) = qts a from qpf_root]
    rw [qpfs_0 (Q := r)]
    · rfl
    · intro u hu
      apply qpf_big (h.1 u (List.mem_cons_of_mem _ hu))
      intro e2
      have : (qts a ||| qts b) &&& qts u = 0 := hd u hu
      rw [this] at e2
      exact ho.2.2.2.1 e2.symm
  · rw [if_neg e]
    show (if s = qts a ||| qts b then qts a else qpf a s + qpf b s) + qpfs r s = qpf a s + (qpf b s + qpfs r s)
    rw [if_neg e]; omega
def qcur (g : Qg) (x : Nat → Nat) (one other : Nat) (is : Bool) (S : Nat → Nat → Prop) : Prop :=
  (one = 0 ∧ other = 0 ∧ is = false ∧ ∀ i j, S i j → i ≠ j → ¬ (qlow (x i) < qlow (x j))) ∨
  (∃ i0 j0, S i0 j0 ∧ i0 ≠ j0 ∧ qlow (x i0) < qlow (x j0) ∧ one = x i0 ∧ other = x j0 ∧ is = qjn g one other ∧ ∀ i j, S i j → i ≠ j → qlow (x i) < qlow (x j) → qky g one other ≤ qky g (x i) (x j))
def qSc (m i j i' j' : Nat) : Prop := i' < m ∧ j' < m ∧ (i' < i ∨ (i' = i ∧ j' < j))
theorem qcur_mono {g : Qg} {x : Nat → Nat} {one other : Nat} {is : Bool} {S S' : Nat → Nat → Prop} (h : qcur g x one other is S) (e : ∀ i j, S i j ↔ S' i j) : qcur g x one other is S' := by
  have : S = S' := by funext i j; exact propext (e i j)
  rw [← this]; exact h
theorem qky_j {g : Qg} (hg : qGok g) {a b c d : Nat} (h1 : qjn g a b = true) (h2 : qjn g c d = false) (hc : a < 256) (hd : b < 256) : qky g a b < qky g c d := by
  unfold qky
  rw [h1, h2]
  have := qsz_le hg (a ||| b)
  simp only [Bool.not_false, Bool.not_true, Bool.toNat_true, Bool.toNat_false]
  omega
/-- the pair at i, j is weighed -/
theorem R_jg_step {g : Qg} {all p tr : Nat → Int32} {sz : Nat → Int64} (hg : qGok g) (hr : qRg g all) (hz : ∀ s, s ≠ 0 → s < 2 ^ qn g → sz s = ql (qsz g s)) (x : Nat → Nat) (m : Nat) (hm8 : m ≤ 8)
    (hx : qxs x m (2 ^ qn g)) (hdis : ∀ i j, i < m → j < m → i ≠ j → x i &&& x j = 0) (ht : ∀ i, i < m → tr i = qi (x i)) (i j : Nat) (hi : i < m) (hj : j < m) (one other : Nat) (is : Bool)
    (hc : qcur g x one other is (qSc m i j)) (N : Nat) (hN : 300 < N) :
    ∃ one' other' is', R_joinsGreedily_b21 N (qi m) all p sz tr (qi one) (qi other) (qi is.toNat) (qi i) (qi j) = some (.inl (qi one', qi other', qi is'.toNat, qi (j + 1))) ∧ qcur g x one' other' is' (qSc m i (j + 1)) := by
  have hp8 := q_pow8 hg.1
  have hsc : ∀ i' j', qSc m i (j + 1) i' j' ↔ (qSc m i j i' j' ∨ (i' = i ∧ j' = j)) := by
    intro i' j'
    unfold qSc
    omega
  have e1 := ht i hi
  have e2 := ht j hj
  by_cases hij : i = j
  · refine ⟨one, other, is, ?_, ?_⟩
    · simp (disch := omega) only [R_joinsGreedily_b21, qi_lit, qi_m1, qi_add, qi_mul, qi_and, qi_or, qi_xor, qi_not, qi_shl, qi_shr, qi_and31, qi_nat, qi_inb, qi_eq, qi_lt, qi_le, qi_sub, dn, db_some, dk_t, if_neg (show ¬ m ≤ j by omega), if_pos hij]
    · rcases hc with ⟨h1, h2, h3, h4⟩ | ⟨i0, j0, h1, h2, h3, h4, h5, h6, h7⟩
      · refine .inl ⟨h1, h2, h3, ?_⟩
        intro i' j' h hne
        rcases (hsc i' j').mp h with h | ⟨rfl, rfl⟩
        · exact h4 i' j' h hne
        · exact absurd hij hne
      · refine .inr ⟨i0, j0, (hsc _ _).mpr (.inl h1), h2, h3, h4, h5, h6, ?_⟩
        intro i' j' h hne hl
        rcases (hsc i' j').mp h with h | ⟨rfl, rfl⟩
        · exact h7 i' j' h hne hl
        · exact absurd hij hne
  · have hxi := hx i hi
    have hxj := hx j hj
    have ah := R_isAheadOf_q (x i) (x j) (by omega) (by omega) hxi.1 hxj.1 (hdis i j hi hj hij)
    by_cases hl : qlow (x i) < qlow (x j)
    · -- it is weighed
      have hor : x i ||| x j < 2 ^ qn g := q_or_lt hxi.2 hxj.2
      have upd' : qcur g x (x i) (x j) (qjn g (x i) (x j)) (qSc m i (j + 1)) ∨ ¬ (one = 0 ∨ qky g (x i) (x j) < qky g one other) := by
        by_cases hu : one = 0 ∨ qky g (x i) (x j) < qky g one other
        · left
          right
          refine ⟨i, j, (hsc _ _).mpr (.inr ⟨rfl, rfl⟩), hij, hl, rfl, rfl, rfl, ?_⟩
          intro i' j' h hne hl'
          rcases (hsc i' j').mp h with h | ⟨rfl, rfl⟩
          · rcases hc with ⟨h1, h2, h3, h4⟩ | ⟨i0, j0, h1, h2, h3, h4, h5, h6, h7⟩
            · exact absurd hl' (h4 i' j' h hne)
            · have hone : one ≠ 0 := by rw [h4]; exact (hx i0 h1.1).1
              have := h7 i' j' h hne hl'
              have : qky g (x i) (x j) < qky g one other := by
                rcases hu with h | h
                · exact absurd h hone
                · exact h
              omega
          · exact Nat.le_refl _
        · exact .inr hu
      have keep : ¬ (one = 0 ∨ qky g (x i) (x j) < qky g one other) → qcur g x one other is (qSc m i (j + 1)) := by
        intro hu
        rcases hc with ⟨h1, h2, h3, h4⟩ | ⟨i0, j0, h1, h2, h3, h4, h5, h6, h7⟩
        · exact absurd (.inl h1) hu
        · refine .inr ⟨i0, j0, (hsc _ _).mpr (.inl h1), h2, h3, h4, h5, h6, ?_⟩
          intro i' j' h hne hl'
          rcases (hsc i' j').mp h with h | ⟨rfl, rfl⟩
          · exact h7 i' j' h hne hl'
          · omega
      have olt : one < 256 := by
        rcases hc with ⟨h1, _⟩ | ⟨i0, j0, h1, h2, h3, h4, _⟩
        · omega
        · have := hx i0 h1.1; omega
      have jo := R_isJoined_q hg hr (x i) (x j) N (by omega)
      have d1 : decide (qlow (x i) < qlow (x j)) = true := decide_eq_true hl
      have hjn : ∀ x y : Bool, (qi x.toNat = qi y.toNat) ↔ x = y := by intro x y; cases x <;> cases y <;> decide
      have pre : R_joinsGreedily_b21 N (qi m) all p sz tr (qi one) (qi other) (qi is.toNat) (qi i) (qi j) =
          (if one = 0 then R_joinsGreedily_110 N (qi m) all p sz tr (qi i) (qi j) (qi (x i)) (qi (x j)) (qi (qjn g (x i) (x j)).toNat)
           else if qjn g (x i) (x j) = false then R_joinsGreedily_91 N (qi m) all p sz tr (qi one) (qi other) (qi is.toNat) (qi i) (qi j) (qi (x i)) (qi (x j)) (qi (qjn g (x i) (x j)).toNat)
           else if is = false then R_joinsGreedily_110 N (qi m) all p sz tr (qi i) (qi j) (qi (x i)) (qi (x j)) (qi (qjn g (x i) (x j)).toNat)
           else R_joinsGreedily_91 N (qi m) all p sz tr (qi one) (qi other) (qi is.toNat) (qi i) (qi j) (qi (x i)) (qi (x j)) (qi (qjn g (x i) (x j)).toNat)) := by
        simp (disch := omega) only [R_joinsGreedily_b21, qi_lit, qi_m1, qi_add, qi_mul, qi_and, qi_or, qi_xor, qi_not, qi_shl, qi_shr, qi_and31, qi_nat, qi_inb, qi_eq, qi_lt, qi_le, qi_sub, dn, db_some, dk_t, if_neg (show ¬ m ≤ j by omega), if_neg hij, e1, e2, ah, d1, qb_0, jo, reduceCtorEq, if_false]
      have e110 : R_joinsGreedily_110 N (qi m) all p sz tr (qi i) (qi j) (qi (x i)) (qi (x j)) (qi (qjn g (x i) (x j)).toNat) = some (.inl (qi (x i), qi (x j), qi (qjn g (x i) (x j)).toNat, qi (j + 1))) := by
        simp (disch := omega) only [R_joinsGreedily_110, qi_lit, qi_m1, qi_add, qi_mul, qi_and, qi_or, qi_xor, qi_not, qi_shl, qi_shr, qi_and31, qi_nat, qi_inb, qi_eq, qi_lt, qi_le, qi_sub, dn, db_some, dk_t]
      rw [pre, e110]
      by_cases ho : one = 0
      · rw [if_pos ho]
        refine ⟨_, _, _, rfl, ?_⟩
        rcases upd' with h | h
        · exact h
        · exact absurd (.inl ho) h
      · rw [if_neg ho]
        rcases hc with ⟨h1, _⟩ | ⟨i0, j0, h1, h2, h3, h4, h5, h6, h7⟩
        · exact absurd h1 ho
        · have hx0 := hx i0 h1.1
          have hy0 := hx j0 h1.2.1
          have hor0 : one ||| other < 2 ^ qn g := by rw [h4, h5]; exact q_or_lt hx0.2 hy0.2
          have e91 : R_joinsGreedily_91 N (qi m) all p sz tr (qi one) (qi other) (qi is.toNat) (qi i) (qi j) (qi (x i)) (qi (x j)) (qi (qjn g (x i) (x j)).toNat) =
              if qjn g (x i) (x j) = is ∧ qky g (x i) (x j) < qky g one other then some (.inl (qi (x i), qi (x j), qi (qjn g (x i) (x j)).toNat, qi (j + 1))) else some (.inl (qi one, qi other, qi is.toNat, qi (j + 1))) := by
            by_cases hje : qjn g (x i) (x j) = is
            · have il := R_isLess_q hg hz (x i) (x j) one other hxi.1 ho hor hor0 (hje.trans h6)
              unfold R_joinsGreedily_91
              rw [if_pos (by rw [hjn]; exact hje), il, db_some, e110]
              by_cases hlt : qky g (x i) (x j) < qky g one other
              · have k1 : (if qjn g (x i) (x j) = is ∧ qky g (x i) (x j) < qky g one other then some (Sum.inl (β := Int32 × Int32 × Int32) (qi (x i), qi (x j), qi (qjn g (x i) (x j)).toNat, qi (j + 1))) else some (.inl (qi one, qi other, qi is.toNat, qi (j + 1)))) = some (.inl (qi (x i), qi (x j), qi (qjn g (x i) (x j)).toNat, qi (j + 1))) := if_pos ⟨hje, hlt⟩
                rw [decide_eq_true hlt, k1]
                exact if_neg (show ¬ (qi true.toNat = 0) by decide)
              · have k1 : (if qjn g (x i) (x j) = is ∧ qky g (x i) (x j) < qky g one other then some (Sum.inl (β := Int32 × Int32 × Int32) (qi (x i), qi (x j), qi (qjn g (x i) (x j)).toNat, qi (j + 1))) else some (.inl (qi one, qi other, qi is.toNat, qi (j + 1)))) = some (.inl (qi one, qi other, qi is.toNat, qi (j + 1))) := if_neg (fun h => hlt h.2)
                rw [decide_eq_false hlt, k1, if_pos (show qi false.toNat = 0 from rfl), show (1 : Int32) = qi 1 from rfl]
                simp only [dn, qi_add]
            · unfold R_joinsGreedily_91
              rw [if_neg (by rw [hjn]; exact hje), if_neg (fun h => hje h.1), show (1 : Int32) = qi 1 from rfl]
              simp only [dn, qi_add]
          rw [e91]
          have hfin : ∀ c : Prop, (c ↔ qky g (x i) (x j) < qky g one other) → ∀ _ : Decidable c, ∃ one' other' is', (if c then some (Sum.inl (β := Int32 × Int32 × Int32) (qi (x i), qi (x j), qi (qjn g (x i) (x j)).toNat, qi (j + 1))) else some (.inl (qi one, qi other, qi is.toNat, qi (j + 1)))) = some (.inl (qi one', qi other', qi is'.toNat, qi (j + 1))) ∧ qcur g x one' other' is' (qSc m i (j + 1)) := by
            intro c hc _
            by_cases h : c
            · rw [if_pos h]
              refine ⟨_, _, _, rfl, ?_⟩
              rcases upd' with h' | h'
              · exact h'
              · exact absurd (.inr (hc.mp h)) h'
            · rw [if_neg h]
              refine ⟨_, _, _, rfl, keep ?_⟩
              rintro (h' | h')
              · exact ho h'
              · exact h (hc.mpr h')
          have xlt : x i < 256 ∧ x j < 256 := ⟨by omega, by omega⟩
          have olt2 : other < 256 := by rw [h5]; omega
          rcases q_dich (qjn g (x i) (x j)) with kj | kj
          · rw [if_pos kj]
            refine hfin _ ?_ _
            constructor
            · exact fun h => h.2
            · intro h
              refine ⟨?_, h⟩
              rw [kj]
              rcases q_dich is with ki | ki
              · exact ki.symm
              · exfalso
                rw [ki] at h6
                have := qky_j hg h6.symm kj olt olt2
                omega
          · rw [if_neg (by rw [kj]; decide)]
            rcases q_dich is with ki | ki
            · rw [if_pos ki]
              refine ⟨_, _, _, rfl, ?_⟩
              rcases upd' with h' | h'
              · exact h'
              · exfalso
                rw [ki] at h6
                exact h' (.inr (qky_j hg kj h6.symm xlt.1 xlt.2))
            · rw [if_neg (by rw [ki]; decide)]
              refine hfin _ ?_ _
              constructor
              · exact fun h => h.2
              · exact fun h => ⟨by rw [kj, ki], h⟩
    · refine ⟨one, other, is, ?_, ?_⟩
      · simp (disch := omega) only [R_joinsGreedily_b21, qi_lit, qi_m1, qi_add, qi_mul, qi_and, qi_or, qi_xor, qi_not, qi_shl, qi_shr, qi_and31, qi_nat, qi_inb, qi_eq, qi_lt, qi_le, qi_sub, dn, db_some, dk_t, if_neg (show ¬ m ≤ j by omega), if_neg hij, e1, e2, ah, decide_eq_false hl, qb_0, if_true]
      · rcases hc with ⟨h1, h2, h3, h4⟩ | ⟨i0, j0, h1, h2, h3, h4, h5, h6, h7⟩
        · refine .inl ⟨h1, h2, h3, ?_⟩
          intro i' j' h hne
          rcases (hsc i' j').mp h with h | ⟨rfl, rfl⟩
          · exact h4 i' j' h hne
          · exact hl
        · refine .inr ⟨i0, j0, (hsc _ _).mpr (.inl h1), h2, h3, h4, h5, h6, ?_⟩
          intro i' j' h hne hl'
          rcases (hsc i' j').mp h with h | ⟨rfl, rfl⟩
          · exact h7 i' j' h hne hl'
          · exact absurd hl' hl
theorem R_jg_scan {g : Qg} {all p tr : Nat → Int32} {sz : Nat → Int64} (hg : qGok g) (hr : qRg g all) (hz : ∀ s, s ≠ 0 → s < 2 ^ qn g → sz s = ql (qsz g s)) (x : Nat → Nat) (m : Nat) (hm8 : m ≤ 8)
    (hx : qxs x m (2 ^ qn g)) (hdis : ∀ i j, i < m → j < m → i ≠ j → x i &&& x j = 0) (ht : ∀ i, i < m → tr i = qi (x i)) (N : Nat) (hN : 300 < N) :
    ∃ one other is, lp (fun y : Int32 × Int32 × Int32 × Int32 => R_joinsGreedily_b9 N (qi m) all p sz tr y.1 y.2.1 y.2.2.1 y.2.2.2) N (qi 0, qi 0, qi 0, qi 0) = some (qi one, qi other) ∧ qcur g x one other is (fun i j => i < m ∧ j < m) := by
  have key := qlp_rel (body := fun y : Int32 × Int32 × Int32 × Int32 => R_joinsGreedily_b9 N (qi m) all p sz tr y.1 y.2.1 y.2.2.1 y.2.2.2)
    (Inv := fun i y => ∃ one other is, y = (qi one, qi other, qi (Bool.toNat is), qi i) ∧ qcur g x one other is (qSc m i 0)) m
    (Q := fun y => ∃ one other is, y = (qi one, qi other) ∧ qcur g x one other is (fun i j => i < m ∧ j < m)) ?_ ?_ (qi 0, qi 0, qi 0, qi 0) ?_ N (by omega)
  · obtain ⟨y, e, one, other, is, rfl, q⟩ := key
    exact ⟨one, other, is, e, q⟩
  · rintro i y hi ⟨one, other, is, rfl, hc⟩
    have inner := qlp_rel (body := fun y : Int32 × Int32 × Int32 × Int32 => R_joinsGreedily_b21 N (qi m) all p sz tr y.1 y.2.1 y.2.2.1 (qi i) y.2.2.2)
      (Inv := fun j y => ∃ one other is, y = (qi one, qi other, qi (Bool.toNat is), qi j) ∧ qcur g x one other is (qSc m i j)) m
      (Q := fun y => ∃ one other is, y = (qi one, qi other, qi (Bool.toNat is)) ∧ qcur g x one other is (qSc m i m)) ?_ ?_ (qi one, qi other, qi is.toNat, qi 0) ⟨one, other, is, rfl, hc⟩ N (by omega)
    · obtain ⟨y, e, one', other', is', rfl, q⟩ := inner
      refine ⟨(qi one', qi other', qi is'.toNat, qi (i + 1)), ?_, one', other', is', rfl, qcur_mono q ?_⟩
      · simp (disch := omega) only [R_joinsGreedily_b9, R_joinsGreedily_21, R_joinsGreedily_a21, R_joinsGreedily_125, qi_lit, qi_m1, qi_add, qi_mul, qi_and, qi_or, qi_xor, qi_not, qi_shl, qi_shr, qi_and31, qi_nat, qi_inb, qi_eq, qi_lt, qi_le, qi_sub, dn, db_some, dk_t, if_neg (show ¬ m ≤ i by omega), e]
      · intro i' j'; unfold qSc; omega
    · rintro j y hj ⟨one, other, is, rfl, hc⟩
      obtain ⟨one', other', is', e, q⟩ := R_jg_step (p := p) hg hr hz x m hm8 hx hdis ht i j hi hj one other is hc N hN
      exact ⟨_, e, one', other', is', rfl, q⟩
    · rintro y ⟨one, other, is, rfl, hc⟩
      exact ⟨(qi one, qi other, qi is.toNat), by simp (disch := omega) only [R_joinsGreedily_b21, qi_lit, qi_m1, qi_add, qi_mul, qi_and, qi_or, qi_xor, qi_not, qi_shl, qi_shr, qi_and31, qi_nat, qi_inb, qi_eq, qi_lt, qi_le, qi_sub, if_pos (show m ≤ m from Nat.le_refl _)], one, other, is, rfl, hc⟩
  · rintro y ⟨one, other, is, rfl, hc⟩
    refine ⟨(qi one, qi other), by simp (disch := omega) only [R_joinsGreedily_b9, qi_lit, qi_m1, qi_add, qi_mul, qi_and, qi_or, qi_xor, qi_not, qi_shl, qi_shr, qi_and31, qi_nat, qi_inb, qi_eq, qi_lt, qi_le, qi_sub, if_pos (show m ≤ m from Nat.le_refl _)], one, other, is, rfl, qcur_mono hc ?_⟩
    intro i' j'; unfold qSc; omega
  · refine ⟨0, 0, false, rfl, .inl ⟨rfl, rfl, rfl, ?_⟩⟩
    intro i j h; unfold qSc at h; omega
