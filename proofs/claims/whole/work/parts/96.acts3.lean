theorem qJg_aE {g : Qg} {rel edg lim : Int32} {rows left right by' : Nat → Int32} (h : qJg g rel edg lim rows left right by') (l r v : Nat) : qJg (qaddE g l r v) rel (qi (qm g + 1)) lim rows (upd left (qm g) (qi l)) (upd right (qm g) (qi r)) (upd by' (qm g) (qi v)) := by
  obtain ⟨r1, r2, r3, r4, r5⟩ := h
  refine ⟨r1, rfl, r3, r4, ?_⟩
  intro j hj
  show upd left _ _ j = qi (qup (qle g) (qm g) l j) ∧ upd right _ _ j = qi (qup (qri g) (qm g) r j) ∧ upd by' _ _ j = qi (qup (qby g) (qm g) v j)
  unfold qup upd
  by_cases e : j = qm g
  · simp only [if_pos e]; exact ⟨trivial, trivial, trivial⟩
  · simp only [if_neg e]
    exact r5 j (by have : j < qm g + 1 := hj; omega)
theorem qRg_aE {g : Qg} (hg : qGok g) (h16 : qm g < 16) {a : Nat → Int32} (h : qRg g a) (l r v : Nat) : qRg (qaddE g l r v) (upd (upd (upd (upd a (10 + 3 * qm g) (qi l)) (10 + 3 * qm g + 1) (qi r)) (10 + 3 * qm g + 2) (qi v)) 9 (qi (qm g + 1))) := by
  obtain ⟨r1, r2, r3, r4, r5⟩ := h
  have h1 := hg.1
  have hu : ∀ j, j < 10 + 3 * qm g ∨ 10 + 3 * qm g + 2 < j → j ≠ 9 → (upd (upd (upd (upd a (10 + 3 * qm g) (qi l)) (10 + 3 * qm g + 1) (qi r)) (10 + 3 * qm g + 2) (qi v)) 9 (qi (qm g + 1))) j = a j := by
    intro j h1 h2
    rw [upd_ne _ _ h2, upd_ne _ _ (by omega), upd_ne _ _ (by omega), upd_ne _ _ (by omega)]
  refine ⟨(hu 0 (by omega) (by omega)).trans r1, upd_self _ _ _, (hu 58 (by omega) (by omega)).trans r3, ?_, ?_⟩
  · intro j hj
    have : j < qn g := hj
    exact (hu _ (by omega) (by omega)).trans (r4 j hj)
  · intro j hj
    have hj' : j < qm g + 1 := hj
    show _ = qi (qup (qle g) (qm g) l j) ∧ _ = qi (qup (qri g) (qm g) r j) ∧ _ = qi (qup (qby g) (qm g) v j)
    unfold qup
    by_cases e : j = qm g
    · subst e
      simp only [↓reduceIte]
      refine ⟨?_, ?_, ?_⟩
      · rw [upd_ne _ _ (by omega), upd_ne _ _ (by omega), upd_ne _ _ (by omega), upd_self]
      · rw [upd_ne _ _ (by omega), upd_ne _ _ (by omega), upd_self]
      · rw [upd_ne _ _ (by omega), upd_self]
    · simp only [if_neg e]
      rw [hu _ (by omega) (by omega), hu _ (by omega) (by omega), hu _ (by omega) (by omega)]
      exact r5 j (by omega)
theorem q_setx {n : Nat} (h : n ≤ 8) {x : Int32} (hq : qin 1 ((2 ^ n : Nat) - 1) x = true) : ∃ z, z ≠ 0 ∧ z < 2 ^ n ∧ x = qi z := by
  have h2 := q2p n h
  obtain ⟨z, z1, z2, z3⟩ := qin_t (lo := 1) (hi := 2 ^ n - 1) (x := x) (by rw [show ((2 ^ n - 1 : Nat) : Int) = ((2 ^ n : Nat) : Int) - 1 by omega]; exact hq) (by omega)
  exact ⟨z, by omega, by omega, z3⟩
theorem qq_link (σ : Qσ) (s : SJ) (t : SR) (hJ : qRelJ σ s) (hR : qRelR σ t) (N : Nat) (hN : 200000 < N) (x1 x2 x3 : Int32) : ∃ σ', qOk σ' (sJ_link s x1 x2 x3) (sR_link N t x1 x2 x3) := by
  obtain ⟨⟨hc, hj, hl, hb, hf, hp⟩, hh, hs, hpp, hb0, hb1, hi⟩ := id hJ
  obtain ⟨⟨rc, r1, r2, r3, r4⟩, rh, ri⟩ := id hR
  have hg := hc.1
  have h8 := hg.1
  have h16 := hg.2.1
  have h256 := q2p _ h8
  have hn : (s.1 41) = qi (qn σ.1.1.1) := hj.1.1
  have hm : (s.1 42) = qi (qm σ.1.1.1) := hj.1.2.1
  have rm : (t.2.1 0) (9 : Int32).toNatClampNeg = qi (qm σ.1.1.1) := rc.1.2.1
  have ev := R_everything_q hg rc.1.1
  have i1 := R_isSet_x (t.2.1 0) (qn σ.1.1.1) ev h8 x1
  have i2 := R_isSet_x (t.2.1 0) (qn σ.1.1.1) ev h8 x2
  have i3 : R_in x3.toInt64 1 100000 = qi (qin 1 100000 x3).toNat := R_in_x x3 1 100000
  have j1 : G_canLink (s.1 41) x1 x2 = qi (qin 1 ((2 ^ qn σ.1.1.1 : Nat) - 1) x1 && qin 1 ((2 ^ qn σ.1.1.1 : Nat) - 1) x2 && decide (x1 &&& x2 = 0)).toNat := by rw [hn]; exact G_canLink_x _ h8 x1 x2
  have fJ1 : (qin 1 ((2 ^ qn σ.1.1.1 : Nat) - 1) x1 && qin 1 ((2 ^ qn σ.1.1.1 : Nat) - 1) x2 && decide (x1 &&& x2 = 0)) = false → ∃ s', sJ_link s x1 x2 x3 = some (-1, s') ∧ qRelJ σ s' := by
    intro h
    unfold sJ_link J_link
    rw [if_pos (by rw [j1, h]; rfl)]
    exact ⟨_, rfl, hJ⟩
  cases q1 : qin 1 ((2 ^ qn σ.1.1.1 : Nat) - 1) x1 with
  | false =>
    refine qYesJ σ (-1) (fJ1 (by rw [q1]; rfl)) ?_
    unfold sR_link R_link
    rw [if_pos (by rw [i1, q1]; rfl)]
    exact ⟨_, rfl, hR⟩
  | true =>
    have e1 : ¬ R_isSet (t.2.1 0) x1 = 0 := by rw [i1, q1]; decide
    cases q2 : qin 1 ((2 ^ qn σ.1.1.1 : Nat) - 1) x2 with
    | false =>
      refine qYesJ σ (-1) (fJ1 (by rw [q1, q2]; rfl)) ?_
      unfold sR_link R_link
      rw [if_neg e1, if_pos (by rw [i2, q2]; rfl)]
      exact ⟨_, rfl, hR⟩
    | true =>
      have e2 : ¬ R_isSet (t.2.1 0) x2 = 0 := by rw [i2, q2]; decide
      by_cases c : x1 &&& x2 = 0
      · have j2 : ¬ G_canLink (s.1 41) x1 x2 = 0 := by rw [j1, q1, q2, decide_eq_true c]; decide
        cases q3 : qin 1 100000 x3 with
        | false =>
          refine qYesJ σ (-1) ?_ ?_
          · unfold sJ_link J_link
            rw [if_neg j2, if_pos (by rw [G_canBeBy_x, q3]; rfl)]
            exact ⟨_, rfl, hJ⟩
          · unfold sR_link R_link
            rw [if_neg e1, if_neg e2, if_pos c, if_pos (by rw [i3, q3]; rfl)]
            exact ⟨_, rfl, hR⟩
        | true =>
          have j3 : ¬ G_canBeBy x3 = 0 := by rw [G_canBeBy_x, q3]; decide
          have e3 : ¬ R_in x3.toInt64 1 100000 = 0 := by rw [i3, q3]; decide
          by_cases c16 : qm σ.1.1.1 < 16
          · obtain ⟨a, a1, a2, rfl⟩ := q_setx h8 q1
            obtain ⟨b, b1, b2, rfl⟩ := q_setx h8 q2
            obtain ⟨v, v1, v2, rfl⟩ := qin_t (lo := 1) (hi := 100000) q3 (by omega)
            have hab : a &&& b = 0 := by
              rw [qi_and] at c
              have : a &&& b < 2147483648 := Nat.lt_of_le_of_lt Nat.and_le_left (by omega)
              exact qi_inj this (by omega) c
            refine qYesJ (((qaddE σ.1.1.1 a b v, none), σ.1.2), qrem σ.2.1 σ.1.1, σ.2.2) (qi (qm σ.1.1.1 + 1) - 1) ?_ ?_
            · unfold sJ_link J_link
              obtain ⟨nx', pr', pe', pl', po', pj', pb', ple', pri', pro', pp', ps', eR, hh'⟩ := J_remember_q hh hc hj
              have ea : G_addEdge (s.1 42) (s.2.1 29) (s.2.1 30) (s.2.1 31) (qi a) (qi b) (qi v) = some (qi (qm σ.1.1.1 + 1), upd (s.2.1 29) (qm σ.1.1.1) (qi v), upd (s.2.1 30) (qm σ.1.1.1) (qi a), upd (s.2.1 31) (qm σ.1.1.1) (qi b)) := by
                unfold G_addEdge
                rw [hm, if_neg (show ¬ (16 : Int32) ≤ qi (qm σ.1.1.1) from fun h => absurd ((qi_le 16 _ (by omega) (by omega)).mp h) (by omega)), dk_t ((qi_inb _ 16 (by omega)).mpr (by omega)), qi_nat _ (by omega)]
                rw [q_dn, q_dn, q_dn, q_dn, show (1 : Int32) = qi 1 from rfl, qi_add]
              rw [if_neg j2, if_neg j3, if_pos (show (s.1 42) < 16 by rw [hm]; exact (qi_lt _ 16 (by omega) (by omega)).mpr c16), eR, db_some, ea, db_some]
              exact ⟨_, rfl, ⟨⟨qGok_addE hg c16 a b v ⟨a1, a2⟩ ⟨b1, b2⟩ hab v1 v2, fun _ h => nomatch h⟩, ⟨qJg_aE hj.1 a b v, rfl⟩, hl, hb, hf, hp⟩, hh', Or.inl rfl, Or.inl rfl, Or.inl rfl, Or.inl rfl, hi⟩
            · unfold sR_link R_link
              obtain ⟨ud', k1, k2⟩ := R_keeps_q _ _ _ _ rh σ.1.1 hc rc N (by omega)
              obtain ⟨z1, k3, k4, k5, k6⟩ := R_noPlan_q hg _ rc.1 N (by omega)
              have k0 : z1 (9 : Int32).toNatClampNeg = qi (qm σ.1.1.1) := (k5 9 (by omega)).trans rm
              rw [if_neg e1, if_neg e2, if_pos c, if_neg e3, if_neg (show ¬ (t.2.1 0) (9 : Int32).toNatClampNeg = 16 from fun e => absurd ((qi_eq _ 16 (by omega) (by omega)).mp (rm.symm.trans e)) (by omega)), k1, db_some, k3, db_some, k0]
              rw [show (10 : Int32) = qi 10 from rfl, show (3 : Int32) = qi 3 from rfl, show (2 : Int32) = qi 2 from rfl, show (1 : Int32) = qi 1 from rfl, qi_mul, qi_add, q_dn, dk_t ((qi_inb _ 1276 (by omega)).mpr (by omega)), q_dn, qi_add, dk_t ((qi_inb _ 1276 (by omega)).mpr (by omega)), q_dn, qi_add, dk_t ((qi_inb _ 1276 (by omega)).mpr (by omega)), q_dn, qi_nat _ (by omega), qi_nat _ (by omega), qi_nat _ (by omega), q_dn]
              have k7 : upd (upd (upd z1 (10 + 3 * qm σ.1.1.1) (qi a)) (10 + 3 * qm σ.1.1.1 + 1) (qi b)) (10 + 3 * qm σ.1.1.1 + 2) (qi v) (9 : Int32).toNatClampNeg = qi (qm σ.1.1.1) :=
                ((upd_ne _ _ (show (9 : Nat) ≠ _ by omega)).trans ((upd_ne _ _ (show (9 : Nat) ≠ _ by omega)).trans (upd_ne _ _ (show (9 : Nat) ≠ _ by omega)))).trans k0
              rw [k7, qi_add]
              obtain ⟨q1, q2⟩ := qAct_R ⟨rc, r1, r2, r3, r4⟩ ri k4 k6 (qRg_aE hg c16 k4.1 a b v) (fun j hj => by rw [upd_ne _ _ (by omega), upd_ne _ _ (by omega), upd_ne _ _ (by omega), upd_ne _ _ (by omega)])
              exact ⟨_, rfl, q1, k2, q2⟩
          · refine qYesJ σ (-1) ?_ ?_
            · unfold sJ_link J_link
              rw [if_neg j2, if_neg j3, if_neg (show ¬ (s.1 42) < 16 by rw [hm]; exact fun h => c16 ((qi_lt _ 16 (by omega) (by omega)).mp h))]
              exact ⟨_, rfl, hJ⟩
            · unfold sR_link R_link
              rw [if_neg e1, if_neg e2, if_pos c, if_neg e3, if_pos (show (t.2.1 0) (9 : Int32).toNatClampNeg = 16 from rm.trans (congrArg qi (show qm σ.1.1.1 = 16 by omega)))]
              exact ⟨_, rfl, hR⟩
      · refine qYesJ σ (-1) (fJ1 (by rw [decide_eq_false c, Bool.and_false])) ?_
        unfold sR_link R_link
        rw [if_neg e1, if_neg e2, if_neg c]
        exact ⟨_, rfl, hR⟩
def qskp (f : Nat → Nat) (e : Nat) : Nat → Nat := fun i => if i < e then f i else f (i + 1)
def qdropE (g : Qg) (e : Nat) : Qg := (qn g, qm g - 1, qlim g, qrw g, qskp (qle g) e, qskp (qri g) e, qskp (qby g) e)
theorem qGok_drop {g : Qg} (h : qGok g) (e : Nat) (he : e < qm g) : qGok (qdropE g e) := by
  obtain ⟨r1, r2, r3, r4, r5⟩ := h
  refine ⟨r1, ?_, r3, r4, ?_⟩
  · show qm g - 1 ≤ 16
    omega
  · intro j hj
    have hj' : j < qm g - 1 := hj
    show qskp (qle g) e j ≠ 0 ∧ qskp (qle g) e j < 2 ^ qn g ∧ qskp (qri g) e j ≠ 0 ∧ qskp (qri g) e j < 2 ^ qn g ∧ qskp (qle g) e j &&& qskp (qri g) e j = 0 ∧ 1 ≤ qskp (qby g) e j ∧ qskp (qby g) e j ≤ 100000
    unfold qskp
    by_cases c : j < e
    · simp only [if_pos c]; exact r5 j (by omega)
    · simp only [if_neg c]; exact r5 (j + 1) (by omega)
theorem G_dropEdge_q {g : Qg} (hg : qGok g) {rel edg lim : Int32} {rows left right by' : Nat → Int32} (h : qJg g rel edg lim rows left right by') (e : Nat) (he : e < qm g) :
    ∃ b' l' r', G_dropEdge edg by' left right (qi e) = some (qi (qm g - 1), b', l', r') ∧ qJg (qdropE g e) rel (qi (qm g - 1)) lim rows l' r' b' := by
  obtain ⟨r1, rfl, r3, r4, r5⟩ := h
  have h16 := hg.2.1
  have hh : ¬ G_hasEdge (qi (qm g)) (qi e) = 0 := by
    rw [G_hasEdge_x _ (by omega), qin_i _ _ _ (by omega), decide_eq_true (by omega), decide_eq_true (by omega)]; decide
  have hk : cpk (qi e + (1 : Int32)) (qi e) (qi (qm g) - (1 : Int32) - qi e) 16 16 := by
    rw [show (1 : Int32) = qi 1 from rfl, qi_add, qi_sub _ _ (by omega), qi_sub _ _ (by omega)]
    refine ⟨?_, ?_, ?_, ?_, ?_⟩
    · exact fun h => absurd ((qi_lt _ 0 (by omega) (by omega)).mp h) (by omega)
    · exact fun h => absurd ((qi_lt _ 0 (by omega) (by omega)).mp h) (by omega)
    · exact fun h => absurd ((qi_lt _ 0 (by omega) (by omega)).mp h) (by omega)
    · rw [qi_nat _ (by omega), qi_nat _ (by omega)]; omega
    · rw [qi_nat _ (by omega), qi_nat _ (by omega)]; omega
  refine ⟨va_cpy by' by' (e + 1) e (qm g - 1 - e), va_cpy left left (e + 1) e (qm g - 1 - e), va_cpy right right (e + 1) e (qm g - 1 - e), ?_, r1, rfl, r3, r4, ?_⟩
  · unfold G_dropEdge
    rw [if_neg hh, q_dn, dk_t hk, q_dn, dk_t hk, q_dn, dk_t hk, q_dn, show (1 : Int32) = qi 1 from rfl, qi_add, qi_sub _ _ (by omega), qi_sub _ _ (by omega), qi_nat _ (by omega), qi_nat _ (by omega), qi_nat _ (by omega)]
  · intro j hj
    have hj' : j < qm g - 1 := hj
    show _ = qi (qskp (qle g) e j) ∧ _ = qi (qskp (qri g) e j) ∧ _ = qi (qskp (qby g) e j)
    unfold qskp va_cpy
    by_cases c : j < e
    · simp only [if_pos c, if_neg (show ¬ (e ≤ j ∧ j < e + (qm g - 1 - e)) by omega)]
      exact r5 j (by omega)
    · simp only [if_neg c, if_pos (show (e ≤ j ∧ j < e + (qm g - 1 - e)) by omega)]
      rw [show e + 1 + (j - e) = j + 1 by omega]
      exact r5 (j + 1) (by omega)
theorem R_takesOut_q {g : Qg} (hg : qGok g) {a : Nat → Int32} (h : qRg g a) (e : Nat) (he : e < qm g) (N : Nat) (hN : 300 < N) :
    ∃ a', R_takesOut N a (qi e) = some a' ∧ qRg (qdropE g e) a' ∧ (∀ j, j < 9 → a' j = a j) ∧ ∀ j, 58 ≤ j → a' j = a j := by
  obtain ⟨r1, r2, r3, r4, r5⟩ := h
  have h16 := hg.2.1
  have h8 := hg.1
  have key := qlp_rel (body := fun x : (Nat → Int32) × Int32 => R_takesOut_b7 N x.1 x.2)
    (Inv := fun i x => x.2 = qi (10 + 3 * e + i) ∧ (∀ j, 10 + 3 * e ≤ j → j < 10 + 3 * e + i → x.1 j = a (j + 3)) ∧ (∀ j, j < 10 + 3 * e ∨ 10 + 3 * e + i ≤ j → x.1 j = a j)) (3 * (qm g - 1 - e))
    (Q := fun y => (∀ j, 10 + 3 * e ≤ j → j < 10 + 3 * (qm g - 1) → y j = a (j + 3)) ∧ (∀ j, j < 10 + 3 * e ∨ 10 + 3 * (qm g - 1) ≤ j → y j = a j))
    (by
      rintro i ⟨f, x⟩ hi ⟨rfl, k1, k2⟩
      simp only at k1 k2
      have e9 : f 9 = qi (qm g) := (k2 9 (by omega)).trans r2
      have e3 : f (10 + 3 * e + i + 3) = a (10 + 3 * e + i + 3) := k2 _ (by omega)
      refine ⟨(upd f (10 + 3 * e + i) (a (10 + 3 * e + i + 3)), qi (10 + 3 * e + (i + 1))), ?_, rfl, ?_, ?_⟩
      · simp (disch := omega) only [R_takesOut_b7, qi_lit, qi_m1, qi_add, qi_mul, qi_and, qi_or, qi_xor, qi_not, qi_shl, qi_shr, qi_and31, qi_nat, qi_inb, qi_eq, qi_lt, qi_le, qi_sub, dn, db_some, dk_t, e9, e3, if_neg (show ¬ 10 + 3 * qm g - 3 ≤ 10 + 3 * e + i by omega)]
        rw [show 10 + 3 * e + (i + 1) = 10 + 3 * e + i + 1 by omega]
      · intro j h1 h2
        show upd f _ _ j = _
        by_cases c : j = 10 + 3 * e + i
        · subst c; exact upd_self _ _ _
        · rw [upd_ne _ _ c]; exact k1 j h1 (by omega)
      · intro j hj
        show upd f _ _ j = _
        rw [upd_ne _ _ (by omega)]; exact k2 j (by omega))
    (by
      rintro ⟨f, x⟩ ⟨rfl, k1, k2⟩
      simp only at k1 k2
      have e9 : f 9 = qi (qm g) := (k2 9 (by omega)).trans r2
      refine ⟨f, ?_, fun j h1 h2 => k1 j h1 (by omega), fun j hj => k2 j (by omega)⟩
      simp (disch := omega) only [R_takesOut_b7, qi_lit, qi_m1, qi_add, qi_mul, qi_and, qi_or, qi_xor, qi_not, qi_shl, qi_shr, qi_and31, qi_nat, qi_inb, qi_eq, qi_lt, qi_le, qi_sub, e9, if_pos (show 10 + 3 * qm g - 3 ≤ 10 + 3 * e + 3 * (qm g - 1 - e) by omega)])
    (a, qi (10 + 3 * e)) ⟨rfl, by intro j h1 h2; omega, fun j _ => rfl⟩ N (by omega)
  obtain ⟨y, e1, q1, q2⟩ := key
  have e9 : y (9 : Int32).toNatClampNeg = qi (qm g) := (q2 9 (by omega)).trans r2
  refine ⟨upd y 9 (qi (qm g - 1)), ?_, ⟨?_, ?_, ?_, ?_, ?_⟩, ?_, ?_⟩
  · unfold R_takesOut R_takesOut_7
    rw [q_dn, show (10 : Int32) = qi 10 from rfl, show (3 : Int32) = qi 3 from rfl, qi_mul, qi_add, e1, db_some]
    unfold R_takesOut_a7 R_takesOut_45
    rw [e9, show (1 : Int32) = qi 1 from rfl, qi_sub _ _ (by omega)]
    rfl
  · rw [upd_ne _ _ (by omega), q2 0 (by omega)]; exact r1
  · exact upd_self _ _ _
  · rw [upd_ne _ _ (by omega), q2 58 (by omega)]; exact r3
  · intro r hr
    have : r < qn g := hr
    rw [upd_ne _ _ (by omega), q2 _ (by omega)]; exact r4 r hr
  · intro j hj
    have hj' : j < qm g - 1 := hj
    show _ = qi (qskp (qle g) e j) ∧ _ = qi (qskp (qri g) e j) ∧ _ = qi (qskp (qby g) e j)
    rw [upd_ne _ _ (by omega), upd_ne _ _ (by omega), upd_ne _ _ (by omega)]
    unfold qskp
    by_cases c : j < e
    · simp only [if_pos c]
      rw [q2 _ (by omega), q2 _ (by omega), q2 _ (by omega)]
      exact r5 j (by omega)
    · simp only [if_neg c]
      rw [q1 _ (by omega) (by omega), q1 _ (by omega) (by omega), q1 _ (by omega) (by omega)]
      have := r5 (j + 1) (by omega)
      rw [show 10 + 3 * (j + 1) = 10 + 3 * j + 3 by omega] at this
      rw [show 10 + 3 * j + 1 + 3 = 10 + 3 * j + 3 + 1 by omega, show 10 + 3 * j + 2 + 3 = 10 + 3 * j + 3 + 2 by omega]
      exact this
  · intro j hj
    rw [upd_ne _ _ (by omega)]; exact q2 j (by omega)
  · intro j hj
    rw [upd_ne _ _ (by omega)]; exact q2 j (by omega)
theorem qq_cut (σ : Qσ) (s : SJ) (t : SR) (hJ : qRelJ σ s) (hR : qRelR σ t) (N : Nat) (hN : 200000 < N) (x1 : Int32) : ∃ σ', qOk σ' (sJ_cut s x1) (sR_cut N t x1) := by
  obtain ⟨⟨hc, hj, hl, hb, hf, hp⟩, hh, hs, hpp, hb0, hb1, hi⟩ := id hJ
  obtain ⟨⟨rc, r1, r2, r3, r4⟩, rh, ri⟩ := id hR
  have hg := hc.1
  have h8 := hg.1
  have h16 := hg.2.1
  have hm : (s.1 42) = qi (qm σ.1.1.1) := hj.1.2.1
  have rm : (t.2.1 0) 9 = qi (qm σ.1.1.1) := rc.1.2.1
  have eI := R_isEdge_x (t.2.1 0) (qm σ.1.1.1) rm (by omega) x1
  cases hq : qin 0 ((qm σ.1.1.1 : Int) - 1) x1 with
  | false =>
    refine qYesJ σ (-1) ?_ ?_
    · unfold sJ_cut J_cut
      rw [if_pos (show G_hasEdge (s.1 42) x1 = 0 by rw [hm, G_hasEdge_x _ (by omega), hq]; rfl)]
      exact ⟨_, rfl, hJ⟩
    · unfold sR_cut R_cut
      rw [eI, db_some, hq, if_pos (show qi false.toNat = 0 from rfl)]
      exact ⟨_, rfl, hR⟩
  | true =>
    have e1 : ¬ G_hasEdge (s.1 42) x1 = 0 := by rw [hm, G_hasEdge_x _ (by omega), hq]; decide
    obtain ⟨e, he, rfl⟩ := q_edge_ix h16 hq
    refine qYesJ (((qdropE σ.1.1.1 e, none), σ.1.2), qrem σ.2.1 σ.1.1, σ.2.2) (qi (qm σ.1.1.1 - 1)) ?_ ?_
    · unfold sJ_cut J_cut
      obtain ⟨nx', pr', pe', pl', po', pj', pb', ple', pri', pro', pp', ps', eR, hh'⟩ := J_remember_q hh hc hj
      obtain ⟨b', l', r', d1, d2⟩ := G_dropEdge_q hg hj.1 e he
      rw [if_neg e1, eR, db_some, d1, db_some]
      exact ⟨_, rfl, ⟨⟨qGok_drop hg e he, fun _ h => nomatch h⟩, ⟨d2, rfl⟩, hl, hb, hf, hp⟩, hh', Or.inl rfl, Or.inl rfl, Or.inl rfl, Or.inl rfl, hi⟩
    · unfold sR_cut R_cut
      obtain ⟨ud', k1, k2⟩ := R_keeps_q _ _ _ _ rh σ.1.1 hc rc N (by omega)
      obtain ⟨z1, k3, k4, k5, k6⟩ := R_noPlan_q hg _ rc.1 N (by omega)
      obtain ⟨z2, d1, d2, d3, d4⟩ := R_takesOut_q hg k4.1 e he N (by omega)
      have d9 : z2 (9 : Int32).toNatClampNeg = qi (qm σ.1.1.1 - 1) := d2.2.1
      have key := qlp_rel (body := fun x : (Nat → Int32) × Int32 => R_cut_b41 N 0 (qi (qrem σ.2.1 σ.1.1).length) x.1 ud' x.2)
        (Inv := fun i x => x.2 = qi (10 + 3 * (qm σ.1.1.1 - 1) + i) ∧ ∀ j, j < 10 + 3 * (qm σ.1.1.1 - 1) ∨ 58 ≤ j → x.1 j = z2 j) (48 - 3 * (qm σ.1.1.1 - 1))
        (Q := fun y => ∀ j, j < 10 + 3 * (qm σ.1.1.1 - 1) ∨ 58 ≤ j → y j = z2 j)
        (by
          rintro i ⟨f, x⟩ hi ⟨rfl, k⟩
          simp only at k
          refine ⟨(upd f (10 + 3 * (qm σ.1.1.1 - 1) + i) (qi 0), qi (10 + 3 * (qm σ.1.1.1 - 1) + (i + 1))), ?_, rfl, ?_⟩
          · simp (disch := omega) only [R_cut_b41, qi_lit, qi_m1, qi_add, qi_mul, qi_and, qi_or, qi_xor, qi_not, qi_shl, qi_shr, qi_and31, qi_nat, qi_inb, qi_eq, qi_lt, qi_le, qi_sub, dn, db_some, dk_t, if_neg (show ¬ 58 ≤ 10 + 3 * (qm σ.1.1.1 - 1) + i by omega)]
            rw [Nat.add_assoc (10 + 3 * (qm σ.1.1.1 - 1))]
          · intro j hj
            show upd f _ _ j = _
            rw [upd_ne _ _ (by omega)]; exact k j hj)
        (by
          rintro ⟨f, x⟩ ⟨rfl, k⟩
          refine ⟨f, ?_, k⟩
          simp (disch := omega) only [R_cut_b41, qi_lit, qi_m1, qi_add, qi_mul, qi_and, qi_or, qi_xor, qi_not, qi_shl, qi_shr, qi_and31, qi_nat, qi_inb, qi_eq, qi_lt, qi_le, qi_sub, if_pos (show 58 ≤ 10 + 3 * (qm σ.1.1.1 - 1) + (48 - 3 * (qm σ.1.1.1 - 1)) by omega)])
        (z2, qi (10 + 3 * (qm σ.1.1.1 - 1))) ⟨rfl, fun j _ => rfl⟩ N (by omega)
      obtain ⟨y, y1, y2⟩ := key
      have hy : qRg (qdropE σ.1.1.1 e) y := by
        obtain ⟨w1, w2, w3, w4, w5⟩ := d2
        refine ⟨(y2 0 (by omega)).trans w1, (y2 9 (by omega)).trans w2, (y2 58 (by omega)).trans w3, fun r hr => (y2 _ (by have : r < qn σ.1.1.1 := hr; omega)).trans (w4 r hr), ?_⟩
        intro j hj
        have hj' : j < qm σ.1.1.1 - 1 := hj
        rw [y2 _ (by omega), y2 _ (by omega), y2 _ (by omega)]
        exact w5 j hj
      have y9 : y (9 : Int32).toNatClampNeg = qi (qm σ.1.1.1 - 1) := hy.2.1
      obtain ⟨q1, q2⟩ := qAct_R ⟨rc, r1, r2, r3, r4⟩ ri k4 k6 hy (fun j hj => by rw [y2 j (by omega), d4 j (by omega)])
      rw [eI, db_some, hq, if_neg (show ¬ qi true.toNat = 0 by decide), k1, db_some, k3, db_some, d1, db_some, q_dn, d9, show (10 : Int32) = qi 10 from rfl, show (3 : Int32) = qi 3 from rfl, qi_mul, qi_add]
      unfold R_cut_41
      rw [y1, db_some]
      unfold R_cut_a41 R_cut_60
      rw [y9]
      exact ⟨_, rfl, q1, k2, q2⟩
