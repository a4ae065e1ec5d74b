theorem q_i32_nat (x : Int32) (h : ¬ x < 0) : ∃ n, n < 2147483648 ∧ x = qi n := by
  have h1 : 0 ≤ x.toInt := by
    have := fun hh => h (Int32.lt_iff_toInt_lt.mpr hh)
    have e : (0 : Int32).toInt = 0 := rfl
    rw [e] at this
    exact Int.not_lt.mp this
  have h2 := Int32.toInt_lt x
  refine ⟨x.toInt.toNat, by omega, ?_⟩
  apply Int32.toInt_inj.mp
  rw [qi_toInt _ (by omega)]
  omega
theorem qq_pair (σ : Qσ) (s : SJ) (t : SR) (hJ : qRelJ σ s) (hR : qRelR σ t) (N : Nat) (hN : 200000 < N) (x1 : Int32) (b : Bool) : ∃ σ', qOk σ' (sJ_pair N s x1 (qi b.toNat)) (sR_pair N t x1 (qi b.toNat)) := by
  obtain ⟨⟨hc, hj, hl, hb, hf, hp⟩, hh, hs, hpp, hb0, hb1, hi⟩ := id hJ
  obtain ⟨⟨rc, r1, r2, r3, r4⟩, rh, ri⟩ := id hR
  have hg := hc.1
  have h8 := hg.1
  have h2p := q2p _ h8
  have hpb := qpa_le σ.1.1.1 (2 ^ qn σ.1.1.1) (q2p _ h8).2
  obtain ⟨bc', bx', bp', cp', con', sz', l1, l2⟩ := R_lays_q hg rc.1 (t.2.2 0) (t.2.1 1) (t.2.1 2) (t.2.1 3) (t.2.1 4) (t.2.2 1) N (by omega)
  have lc := fun x hx hx2 => (l2.2.2 x hx hx2).2.1
  by_cases c0 : x1 < 0
  · obtain ⟨a, e1, e2⟩ := R_pair_q hg rc.1 (con := con') lc 0 bc' bx' bp' cp' sz' x1 50000 (by
      intro n hn
      refine ⟨fun h => ?_, fun h => by omega⟩
      exfalso
      rw [← h] at c0
      exact absurd ((qi_lt n 0 (by omega) (by omega)).mp c0) (by omega)) b N (by omega)
    have e3 : a = -1 := by
      rcases e2 with ⟨s', p', ⟨u1, u2, u3, u4⟩, _⟩ | e2
      · exfalso
        have v1 := (List.getElem?_eq_some_iff.mp u4).1
        rw [qL_len _ _ (by omega)] at v1
        have v2 : qpa σ.1.1.1 (s' + 1) = qpa σ.1.1.1 s' + qpc σ.1.1.1 s' := by unfold qpa; rw [List.range_succ]; simp
        have v3 := qpa_mono σ.1.1.1 (show s' + 1 ≤ 2 ^ qn σ.1.1.1 by omega)
        omega
      · exact e2.2
    subst e3
    refine qYesJ σ (-1) ?_ ?_
    · unfold sJ_pair J_pair
      rw [if_pos c0]
      exact ⟨_, rfl, hJ⟩
    · unfold sR_pair R_pair
      rw [l1, db_some]
      dsimp only
      have e1' : R_pair_14 N (0 : Int32) (t.2.1 0) bc' bx' bp' cp' con' sz' x1 (qi b.toNat) (0 : Int32) (1 : Int32) = some (-1, 0, bc', bx', bp', cp', con', sz') := e1
      rw [e1', db_some]
      exact ⟨_, rfl, hR⟩
  · obtain ⟨k, hk, rfl⟩ := q_i32_nat x1 c0
    obtain ⟨a, e1, e2⟩ := R_pair_q hg rc.1 (con := con') lc 0 bc' bx' bp' cp' sz' (qi k) k (fun n hn => qi_eq _ _ (by omega) (by omega)) b N (by omega)
    obtain ⟨cp1, cs1, li1, ps1, ri1, sz1, p1, p2, p3, p4⟩ := J_pairedSets_q hg hj.1 hs hpp N (by omega)
    refine qYesJ σ a ?_ ?_
    · unfold sJ_pair J_pair
      rw [if_neg c0, p1, db_some]
      dsimp only
      by_cases c1 : k < qpa σ.1.1.1 (2 ^ qn σ.1.1.1)
      · obtain ⟨s', p', f1, f2⟩ := S_partOfPair_q hg p2 p4.1 p4.2 k c1 b N (by omega)
        rw [if_pos ((qi_lt _ _ (by omega) (by omega)).mpr c1), f1, db_some]
        have ea : a = qi (if b then s' ^^^ p' else p') := by
          rcases e2 with ⟨s2, p2, g1, g2⟩ | e2
          · obtain ⟨rfl, rfl⟩ := qIsP_u hg f2 g1
            exact g2
          · omega
        rw [← ea]
        exact ⟨_, rfl, ⟨hc, hj, hl, hb, hf, hp⟩, hh, Or.inr ⟨rfl, rfl, rfl, p2, p3⟩, Or.inr ⟨rfl, rfl, rfl, rfl, p4⟩, hb0, hb1, hi⟩
      · rw [if_neg (fun h => c1 ((qi_lt _ _ (by omega) (by omega)).mp h))]
        have ea : a = -1 := by
          rcases e2 with ⟨s', p', ⟨u1, u2, u3, u4⟩, _⟩ | e2
          · exfalso
            have v1 := (List.getElem?_eq_some_iff.mp u4).1
            rw [qL_len _ _ (by omega)] at v1
            have v2 : qpa σ.1.1.1 (s' + 1) = qpa σ.1.1.1 s' + qpc σ.1.1.1 s' := by unfold qpa; rw [List.range_succ]; simp
            have v3 := qpa_mono σ.1.1.1 (show s' + 1 ≤ 2 ^ qn σ.1.1.1 by omega)
            omega
          · exact e2.2
        subst ea
        exact ⟨_, rfl, ⟨hc, hj, hl, hb, hf, hp⟩, hh, Or.inr ⟨rfl, rfl, rfl, p2, p3⟩, Or.inr ⟨rfl, rfl, rfl, rfl, p4⟩, hb0, hb1, hi⟩
    · unfold sR_pair R_pair
      rw [l1, db_some]
      dsimp only
      have e1' : R_pair_14 N (0 : Int32) (t.2.1 0) bc' bx' bp' cp' con' sz' (qi k) (qi b.toNat) (0 : Int32) (1 : Int32) = some (a, 0, bc', bx', bp', cp', con', sz') := e1
      rw [e1', db_some]
      exact ⟨_, rfl, hR⟩
theorem q_in02 (x : Int32) : qin 0 2 x = true ↔ x = 0 ∨ x = 1 ∨ x = 2 := by
  constructor
  · intro h
    obtain ⟨v, v1, v2, rfl⟩ := qin_t (lo := 0) (hi := 2) h (by omega)
    match v, v2 with
    | 0, _ => exact Or.inl rfl
    | 1, _ => exact Or.inr (Or.inl rfl)
    | 2, _ => exact Or.inr (Or.inr rfl)
  · rintro (rfl | rfl | rfl) <;> decide
def qpick3 (x3 : Int32) (v : Nat × Nat × Nat) : Int64 := if x3 = 0 then ql v.1 else if x3 = 1 then (qi v.2.1).toInt64 else if x3 = 2 then (qi v.2.2).toInt64 else -1
theorem qq_best0 (σ : Qσ) (s : SJ) (t : SR) (hJ : qRelJ σ s) (hR : qRelR σ t) (N : Nat) (hN : 200000 < N) (x1 x3 : Int32) : ∃ σ', qOk σ' (sJ_best0 N s x1 x3) (sR_best N t x1 0 x3) := by
  obtain ⟨⟨hc, hj, hl, hb, hf, hp⟩, hh, hs, hpp, hb0, hb1, hi⟩ := id hJ
  obtain ⟨⟨rc, r1, r2, r3, r4⟩, rh, ri⟩ := id hR
  have hg := hc.1
  have h8 := hg.1
  have h2p := q2p _ h8
  have hn : (s.1 41) = qi (qn σ.1.1.1) := hj.1.1
  have gh : G_holds (s.1 41) x1 = qi (qin 1 ((2 ^ qn σ.1.1.1 : Nat) - 1) x1).toNat := by rw [hn]; exact G_holds_x _ h8 _
  have rs : R_isSet (t.2.1 0) x1 = qi (qin 1 ((2 ^ qn σ.1.1.1 : Nat) - 1) x1).toNat := R_isSet_x _ _ (R_everything_q hg rc.1.1) h8 _
  have ri3 : R_in x3.toInt64 (0 : Int64) (2 : Int64) = qi (qin 0 2 x3).toNat := R_in_x x3 0 2
  cases c1 : qin 1 ((2 ^ qn σ.1.1.1 : Nat) - 1) x1 with
  | false =>
    rw [c1] at gh rs
    refine qYesJ σ (-1) ?_ ?_
    · unfold sJ_best0 J_best0
      rw [gh, if_pos (show qi false.toNat = 0 from rfl)]
      exact ⟨_, rfl, hJ⟩
    · unfold sR_best R_best R_best_25
      rw [rs, if_pos (show qi false.toNat = 0 from rfl)]
      exact ⟨_, rfl, hR⟩
  | true =>
    rw [c1] at gh rs
    obtain ⟨x, a1, a2, rfl⟩ := q_setx h8 c1
    obtain ⟨kn', cn', en', bc2, bx2, bp2, cp2, li2, ri2, sz2, b1, b2, b3, b4⟩ := J_bestOf0_q hg hj.1 hs hb0 N (by omega)
    obtain ⟨bc', bx', bp', cp', con', sz', l1, l2⟩ := R_lays_q hg rc.1 (t.2.2 0) (t.2.1 1) (t.2.1 2) (t.2.1 3) (t.2.1 4) (t.2.2 1) N (by omega)
    have tn : (qi x).toNatClampNeg = x := qi_nat _ (by omega)
    have kx := b2 x (by omega) (by omega)
    rw [Nat.zero_add] at kx
    have lx := l2.1 x (by omega) (by omega)
    refine qYesJ σ (qpick3 x3 (qbest σ.1.1.1 false x)) ?_ ?_
    · unfold sJ_best0 J_best0
      rw [gh, if_neg (show ¬ qi true.toNat = 0 by decide), b1, db_some]
      dsimp only
      rw [dk_t ((qi_inb x 256 (by omega)).mpr (by omega)), dk_t ((qi_inb x 256 (by omega)).mpr (by omega)), dk_t ((qi_inb x 256 (by omega)).mpr (by omega)), tn, kx.1, kx.2.1, kx.2.2]
      unfold qpick3
      by_cases d0 : x3 = 0
      · rw [if_pos d0, if_pos d0]
        exact ⟨_, rfl, ⟨hc, hj, hl, hb, hf, hp⟩, hh, b3, qJp_kn' hpp b4, Or.inr ⟨rfl, b2⟩, hb1, hi⟩
      · rw [if_neg d0, if_neg d0]
        by_cases d1 : x3 = 1
        · rw [if_pos d1, if_pos d1]
          exact ⟨_, rfl, ⟨hc, hj, hl, hb, hf, hp⟩, hh, b3, qJp_kn' hpp b4, Or.inr ⟨rfl, b2⟩, hb1, hi⟩
        · rw [if_neg d1, if_neg d1]
          by_cases d2 : x3 = 2
          · rw [if_pos d2, if_pos d2]
            exact ⟨_, rfl, ⟨hc, hj, hl, hb, hf, hp⟩, hh, b3, qJp_kn' hpp b4, Or.inr ⟨rfl, b2⟩, hb1, hi⟩
          · rw [if_neg d2, if_neg d2]
            exact ⟨_, rfl, ⟨hc, hj, hl, hb, hf, hp⟩, hh, b3, qJp_kn' hpp b4, Or.inr ⟨rfl, b2⟩, hb1, hi⟩
    · unfold sR_best R_best R_best_25
      rw [rs, if_neg (show ¬ qi true.toNat = 0 by decide), ri3]
      cases c3 : qin 0 2 x3 with
      | false =>
        rw [if_pos (show qi false.toNat = 0 from rfl)]
        have n3 : ¬ (x3 = 0 ∨ x3 = 1 ∨ x3 = 2) := fun h => absurd ((q_in02 x3).mpr h) (by rw [c3]; decide)
        unfold qpick3
        rw [if_neg (fun h => n3 (Or.inl h)), if_neg (fun h => n3 (Or.inr (Or.inl h))), if_neg (fun h => n3 (Or.inr (Or.inr h)))]
        exact ⟨_, rfl, hR⟩
      | true =>
        rw [if_neg (show ¬ qi true.toNat = 0 by decide), l1, db_some, if_pos (show (0 : Int32) = 0 from rfl)]
        unfold R_best_45
        rw [show qi x + (0 : Int32) = qi (0 + x) by rw [show (0 : Int32) = qi 0 from rfl, qi_add, Nat.add_comm], q_dn]
        have tn2 : (qi (0 + x)).toNatClampNeg = 0 + x := qi_nat _ (by omega)
        dsimp only
        rw [dk_t ((qi_inb _ 512 (by omega)).mpr (by omega)), dk_t ((qi_inb _ 512 (by omega)).mpr (by omega)), dk_t ((qi_inb _ 512 (by omega)).mpr (by omega)), tn2, lx.1, lx.2.1, lx.2.2]
        unfold qpick3
        rcases (q_in02 x3).mp c3 with rfl | rfl | rfl
        · exact ⟨_, rfl, hR⟩
        · exact ⟨_, rfl, hR⟩
        · exact ⟨_, rfl, hR⟩
theorem qq_best1 (σ : Qσ) (s : SJ) (t : SR) (hJ : qRelJ σ s) (hR : qRelR σ t) (N : Nat) (hN : 200000 < N) (x1 x3 : Int32) : ∃ σ', qOk σ' (sJ_best1 N s x1 x3) (sR_best N t x1 1 x3) := by
  obtain ⟨⟨hc, hj, hl, hb, hf, hp⟩, hh, hs, hpp, hb0, hb1, hi⟩ := id hJ
  obtain ⟨⟨rc, r1, r2, r3, r4⟩, rh, ri⟩ := id hR
  have hg := hc.1
  have h8 := hg.1
  have h2p := q2p _ h8
  have hn : (s.1 41) = qi (qn σ.1.1.1) := hj.1.1
  have gh : G_holds (s.1 41) x1 = qi (qin 1 ((2 ^ qn σ.1.1.1 : Nat) - 1) x1).toNat := by rw [hn]; exact G_holds_x _ h8 _
  have rs : R_isSet (t.2.1 0) x1 = qi (qin 1 ((2 ^ qn σ.1.1.1 : Nat) - 1) x1).toNat := R_isSet_x _ _ (R_everything_q hg rc.1.1) h8 _
  have ri3 : R_in x3.toInt64 (0 : Int64) (2 : Int64) = qi (qin 0 2 x3).toNat := R_in_x x3 0 2
  cases c1 : qin 1 ((2 ^ qn σ.1.1.1 : Nat) - 1) x1 with
  | false =>
    rw [c1] at gh rs
    refine qYesJ σ (-1) ?_ ?_
    · unfold sJ_best1 J_best1
      rw [gh, if_pos (show qi false.toNat = 0 from rfl)]
      exact ⟨_, rfl, hJ⟩
    · unfold sR_best R_best R_best_25
      rw [rs, if_pos (show qi false.toNat = 0 from rfl)]
      exact ⟨_, rfl, hR⟩
  | true =>
    rw [c1] at gh rs
    obtain ⟨x, a1, a2, rfl⟩ := q_setx h8 c1
    obtain ⟨kn', cn', en', bc2, bx2, bp2, cp2, li2, ri2, sz2, b1, b2, b3, b4⟩ := J_bestOf1_q hg hj.1 hs hb1 N (by omega)
    obtain ⟨bc', bx', bp', cp', con', sz', l1, l2⟩ := R_lays_q hg rc.1 (t.2.2 0) (t.2.1 1) (t.2.1 2) (t.2.1 3) (t.2.1 4) (t.2.2 1) N (by omega)
    have tn : (qi x).toNatClampNeg = x := qi_nat _ (by omega)
    have kx := b2 x (by omega) (by omega)
    rw [Nat.zero_add] at kx
    have lx := l2.2.1 x (by omega) (by omega)
    refine qYesJ σ (qpick3 x3 (qbest σ.1.1.1 true x)) ?_ ?_
    · unfold sJ_best1 J_best1
      rw [gh, if_neg (show ¬ qi true.toNat = 0 by decide), b1, db_some]
      dsimp only
      rw [dk_t ((qi_inb x 256 (by omega)).mpr (by omega)), dk_t ((qi_inb x 256 (by omega)).mpr (by omega)), dk_t ((qi_inb x 256 (by omega)).mpr (by omega)), tn, kx.1, kx.2.1, kx.2.2]
      unfold qpick3
      by_cases d0 : x3 = 0
      · rw [if_pos d0, if_pos d0]
        exact ⟨_, rfl, ⟨hc, hj, hl, hb, hf, hp⟩, hh, b3, qJp_kn' hpp b4, hb0, Or.inr ⟨rfl, b2⟩, hi⟩
      · rw [if_neg d0, if_neg d0]
        by_cases d1 : x3 = 1
        · rw [if_pos d1, if_pos d1]
          exact ⟨_, rfl, ⟨hc, hj, hl, hb, hf, hp⟩, hh, b3, qJp_kn' hpp b4, hb0, Or.inr ⟨rfl, b2⟩, hi⟩
        · rw [if_neg d1, if_neg d1]
          by_cases d2 : x3 = 2
          · rw [if_pos d2, if_pos d2]
            exact ⟨_, rfl, ⟨hc, hj, hl, hb, hf, hp⟩, hh, b3, qJp_kn' hpp b4, hb0, Or.inr ⟨rfl, b2⟩, hi⟩
          · rw [if_neg d2, if_neg d2]
            exact ⟨_, rfl, ⟨hc, hj, hl, hb, hf, hp⟩, hh, b3, qJp_kn' hpp b4, hb0, Or.inr ⟨rfl, b2⟩, hi⟩
    · unfold sR_best R_best R_best_25
      rw [rs, if_neg (show ¬ qi true.toNat = 0 by decide), ri3]
      cases c3 : qin 0 2 x3 with
      | false =>
        rw [if_pos (show qi false.toNat = 0 from rfl)]
        have n3 : ¬ (x3 = 0 ∨ x3 = 1 ∨ x3 = 2) := fun h => absurd ((q_in02 x3).mpr h) (by rw [c3]; decide)
        unfold qpick3
        rw [if_neg (fun h => n3 (Or.inl h)), if_neg (fun h => n3 (Or.inr (Or.inl h))), if_neg (fun h => n3 (Or.inr (Or.inr h)))]
        exact ⟨_, rfl, hR⟩
      | true =>
        rw [if_neg (show ¬ qi true.toNat = 0 by decide), l1, db_some, if_neg (show ¬ (1 : Int32) = 0 by decide)]
        unfold R_best_45
        rw [show qi x + (256 : Int32) = qi (256 + x) by rw [show (256 : Int32) = qi 256 from rfl, qi_add, Nat.add_comm], q_dn]
        have tn2 : (qi (256 + x)).toNatClampNeg = 256 + x := qi_nat _ (by omega)
        dsimp only
        rw [dk_t ((qi_inb _ 512 (by omega)).mpr (by omega)), dk_t ((qi_inb _ 512 (by omega)).mpr (by omega)), dk_t ((qi_inb _ 512 (by omega)).mpr (by omega)), tn2, lx.1, lx.2.1, lx.2.2]
        unfold qpick3
        rcases (q_in02 x3).mp c3 with rfl | rfl | rfl
        · exact ⟨_, rfl, hR⟩
        · exact ⟨_, rfl, hR⟩
        · exact ⟨_, rfl, hR⟩
