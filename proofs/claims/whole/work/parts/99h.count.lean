theorem qq_count (σ : Qσ) (s : SJ) (t : SR) (hJ : qRelJ σ s) (hR : qRelR σ t) (N : Nat) (hN : 200000 < N) (x1 : Int32) : ∃ σ', qOk σ' (sJ_count N s x1) (sR_count N t x1) := by
  obtain ⟨⟨hc, hj, hl, hb, hf, hp⟩, hh, hs, hpp, hb0, hb1, hi⟩ := id hJ
  obtain ⟨⟨rc, r1, r2, r3, r4⟩, rh, ri⟩ := id hR
  have hg := hc.1
  have h8 := hg.1
  have h2p := q2p _ h8
  have hn : (s.1 41) = qi (qn σ.1.1.1) := hj.1.1
  have rn : (t.2.1 0) (0 : Int32).toNatClampNeg = qi (qn σ.1.1.1) := rc.1.1
  have ev := R_everything_q hg rc.1.1
  obtain ⟨bc', bx', bp', cp', con', sz', l1, l2⟩ := R_lays_q hg rc.1 (t.2.2 0) (t.2.1 1) (t.2.1 2) (t.2.1 3) (t.2.1 4) (t.2.2 1) N (by omega)
  obtain ⟨p', e1, e2⟩ := R_takesPlan_q (t.2.1 0) (t.2.1 9) N (by omega)
  obtain ⟨kcp, kli, kri, ksz, k1, k2, k3⟩ := J_knownSets_q hg hj.1 hs N (by omega)
  obtain ⟨cp1, cs1, li1, ps1, ri1, sz1, p1, p2, p3, p4⟩ := J_pairedSets_q hg hj.1 hs hpp N (by omega)
  have pl := q_plan hc hj.2 rc
  obtain ⟨z0, hz0, hz1⟩ : ∃ z0 : Int32, (∀ b : Int32 → Option (Int32 × Int32 × Int32 × (Nat → Int64) × (Nat → Int32) × (Nat → Int32) × (Nat → Int32) × (Nat → Int32) × (Nat → Int32) × (Nat → Int64) × (Nat → Int32)), (if (t.2.1 0) (59 : Int32).toNatClampNeg ≤ 0 then b 0 else b 1) = b z0) ∧ ((z0 = 0 ∧ ¬ P_isNone (s.1 44) = 0) ∨ (¬ z0 = 0 ∧ P_isNone (s.1 44) = 0 ∧ ∃ u, qtok u ∧ qts u < 2 ^ qn σ.1.1.1 ∧ (s.1 45) = qi (qtn u).length ∧ qat (qtn u) 0 (s.2.1 34) (s.2.1 33) ∧ qRp u p')) := by
    rcases pl with ⟨u1, u2, u3, u4, u5⟩ | ⟨u, u0, u1, u2, u3, u4, u5, u6, u7, u8, u9, u10, u11⟩
    · have u3' : (t.2.1 0) (59 : Int32).toNatClampNeg = qi 0 := u3
      exact ⟨0, fun b => by rw [if_pos (show (t.2.1 0) (59 : Int32).toNatClampNeg ≤ 0 by rw [u3']; decide)], Or.inl ⟨rfl, u4⟩⟩
    · have u8' : (t.2.1 0) (59 : Int32).toNatClampNeg = qi (qts u) := u8
      exact ⟨1, fun b => by rw [if_neg (show ¬ (t.2.1 0) (59 : Int32).toNatClampNeg ≤ 0 by rw [u8']; exact fun h => absurd ((qi_le _ 0 (by omega) (by omega)).mp h) (by omega))], Or.inr ⟨by decide, u10, u, u1, u2, u6, u7, fun s hs => (e2 s hs).trans (u9 s hs)⟩⟩
  have RC : ∀ (v tm : Int32) (tr : Nat → Int32), R_count_28 N 0 (t.1 1) (t.1 17) (t.2.1 0) bc' bx' bp' cp' con' p' sz' (t.2.1 14) x1 z0 = some (v, 0, tm, bc', bx', bp', cp', con', p', sz', tr) → ∃ t', sR_count N t x1 = some (v, t') ∧ qRelR σ t' := by
    intro v tm tr h
    unfold sR_count R_count
    rw [l1, db_some]
    dsimp only
    rw [e1, db_some, hz0 (fun z => R_count_28 N 0 (t.1 1) (t.1 17) (t.2.1 0) bc' bx' bp' cp' con' p' sz' (t.2.1 14) x1 z), h, db_some]
    exact ⟨_, rfl, hR⟩
  by_cases d0 : x1 = 0
  · subst d0
    refine qYesJ σ ((s.1 41)) ?_ (RC _ (t.1 17) (t.2.1 14) ?_)
    · unfold sJ_count J_count
      rw [if_pos (show (0 : Int32) = 0 from rfl)]
      exact ⟨_, rfl, hJ⟩
    · unfold R_count_28
      rw [if_pos (show (0 : Int32) = 0 from rfl), (rn.trans hn.symm)]
  by_cases d1 : x1 = 1
  · subst d1
    refine qYesJ σ ((s.1 42)) ?_ (RC _ (t.1 17) (t.2.1 14) ?_)
    · unfold sJ_count J_count
      rw [if_neg (show ¬ (1 : Int32) = 0 by decide), if_pos (show (1 : Int32) = 1 from rfl)]
      exact ⟨_, rfl, hJ⟩
    · unfold R_count_28
      rw [if_neg (show ¬ (1 : Int32) = 0 by decide), if_pos (show (1 : Int32) = 1 from rfl), ((show (t.2.1 0) (9 : Int32).toNatClampNeg = qi (qm σ.1.1.1) from rc.1.2.1).trans hj.1.2.1.symm)]
  by_cases d2 : x1 = 2
  · subst d2
    refine qYesJ σ ((s.1 43)) ?_ (RC _ (t.1 17) (t.2.1 14) ?_)
    · unfold sJ_count J_count
      rw [if_neg (show ¬ (2 : Int32) = 0 by decide), if_neg (show ¬ (2 : Int32) = 1 by decide), if_pos (show (2 : Int32) = 2 from rfl)]
      exact ⟨_, rfl, hJ⟩
    · unfold R_count_28
      rw [if_neg (show ¬ (2 : Int32) = 0 by decide), if_neg (show ¬ (2 : Int32) = 1 by decide), if_pos (show (2 : Int32) = 2 from rfl), ((show (t.2.1 0) (58 : Int32).toNatClampNeg = qi (qlim σ.1.1.1) from rc.1.2.2.1).trans hj.1.2.2.1.symm)]
  by_cases d3 : x1 = 3
  · subst d3
    have rr := R_connectedMany_q hg rc.1 (con := con') (cp := cp') (fun x hx hx2 => ⟨(l2.2.2 x hx hx2).1, (l2.2.2 x hx hx2).2.1⟩) false N (by omega)
    have rr' : R_connectedMany N (t.2.1 0) cp' con' (0 : Int32) = some (qi (qca σ.1.1.1 (2 ^ qn σ.1.1.1))) := rr
    refine qYesJ σ (qi (qca σ.1.1.1 (2 ^ qn σ.1.1.1))) ?_ (RC _ (t.1 17) (t.2.1 14) ?_)
    · unfold sJ_count J_count
      rw [if_neg (show ¬ (3 : Int32) = 0 by decide), if_neg (show ¬ (3 : Int32) = 1 by decide), if_neg (show ¬ (3 : Int32) = 2 by decide), if_pos (show (3 : Int32) = 3 from rfl), p1, db_some]
      exact ⟨_, rfl, ⟨hc, hj, hl, hb, hf, hp⟩, hh, Or.inr ⟨rfl, rfl, rfl, p2, p3⟩, Or.inr ⟨rfl, rfl, rfl, rfl, p4⟩, hb0, hb1, hi⟩
    · unfold R_count_28 R_count_126
      rw [if_neg (show ¬ (3 : Int32) = 0 by decide), if_neg (show ¬ (3 : Int32) = 1 by decide), if_neg (show ¬ (3 : Int32) = 2 by decide), if_pos (show (3 : Int32) = 3 from rfl), if_neg (show ¬ (3 : Int32) = 5 by decide), rr', db_some]
  by_cases d4 : x1 = 4
  · subst d4
    have rr := R_pairMany_q hg rc.1 (con := con') (fun x hx hx2 => (l2.2.2 x hx hx2).2.1) N (by omega)
    refine qYesJ σ (qi (qpa σ.1.1.1 (2 ^ qn σ.1.1.1))) ?_ (RC _ (t.1 17) (t.2.1 14) ?_)
    · unfold sJ_count J_count
      rw [if_neg (show ¬ (4 : Int32) = 0 by decide), if_neg (show ¬ (4 : Int32) = 1 by decide), if_neg (show ¬ (4 : Int32) = 2 by decide), if_neg (show ¬ (4 : Int32) = 3 by decide), if_pos (show (4 : Int32) = 4 from rfl), p1, db_some]
      exact ⟨_, rfl, ⟨hc, hj, hl, hb, hf, hp⟩, hh, Or.inr ⟨rfl, rfl, rfl, p2, p3⟩, Or.inr ⟨rfl, rfl, rfl, rfl, p4⟩, hb0, hb1, hi⟩
    · unfold R_count_28
      rw [if_neg (show ¬ (4 : Int32) = 0 by decide), if_neg (show ¬ (4 : Int32) = 1 by decide), if_neg (show ¬ (4 : Int32) = 2 by decide), if_neg (show ¬ (4 : Int32) = 3 by decide), if_pos (show (4 : Int32) = 4 from rfl), rr, db_some]
  by_cases d5 : x1 = 5
  · subst d5
    have rr := R_connectedMany_q hg rc.1 (con := con') (cp := cp') (fun x hx hx2 => ⟨(l2.2.2 x hx hx2).1, (l2.2.2 x hx hx2).2.1⟩) true N (by omega)
    have rr' : R_connectedMany N (t.2.1 0) cp' con' (1 : Int32) = some (qi (qcc σ.1.1.1)) := rr
    refine qYesJ σ (qi (qcc σ.1.1.1)) ?_ (RC _ (t.1 17) (t.2.1 14) ?_)
    · unfold sJ_count J_count
      rw [if_neg (show ¬ (5 : Int32) = 0 by decide), if_neg (show ¬ (5 : Int32) = 1 by decide), if_neg (show ¬ (5 : Int32) = 2 by decide), if_neg (show ¬ (5 : Int32) = 3 by decide), if_neg (show ¬ (5 : Int32) = 4 by decide), if_pos (show (5 : Int32) = 5 from rfl), k1, db_some]
      exact ⟨_, rfl, ⟨hc, hj, hl, hb, hf, hp⟩, hh, Or.inr ⟨rfl, rfl, rfl, k2, k3⟩, qJp_kn hpp, hb0, hb1, hi⟩
    · unfold R_count_28 R_count_126
      rw [if_neg (show ¬ (5 : Int32) = 0 by decide), if_neg (show ¬ (5 : Int32) = 1 by decide), if_neg (show ¬ (5 : Int32) = 2 by decide), if_neg (show ¬ (5 : Int32) = 3 by decide), if_neg (show ¬ (5 : Int32) = 4 by decide), if_pos (show (5 : Int32) = 5 from rfl), if_pos (show (5 : Int32) = 5 from rfl), rr', db_some]
  by_cases d6 : x1 = 6
  · subst d6
    have ga : G_all (s.1 41) = qi (2 ^ qn σ.1.1.1 - 1) := by rw [hn, G_all_x _ h8]
    have gh : G_holds (s.1 41) (qi (2 ^ qn σ.1.1.1 - 1)) = qi (qin 1 ((2 ^ qn σ.1.1.1 : Nat) - 1) (qi (2 ^ qn σ.1.1.1 - 1))).toNat := by rw [hn]; exact G_holds_x _ h8 _
    rw [qin_i _ _ _ (by omega)] at gh
    by_cases c0 : qn σ.1.1.1 = 0
    · refine qYesJ σ 0 ?_ (RC _ (t.1 17) (t.2.1 14) ?_)
      · have g0 : G_holds (s.1 41) (qi (2 ^ qn σ.1.1.1 - 1)) = 0 := by
          rw [gh, c0]
          rfl
        unfold sJ_count J_count J_connected
        rw [if_neg (show ¬ (6 : Int32) = 0 by decide), if_neg (show ¬ (6 : Int32) = 1 by decide), if_neg (show ¬ (6 : Int32) = 2 by decide), if_neg (show ¬ (6 : Int32) = 3 by decide), if_neg (show ¬ (6 : Int32) = 4 by decide), if_neg (show ¬ (6 : Int32) = 5 by decide), if_pos (show (6 : Int32) = 6 from rfl), ga, if_pos g0, db_some, if_pos (show (0 : Int32) = 0 from rfl)]
        exact ⟨_, rfl, hJ⟩
      · unfold R_count_28
        rw [if_neg (show ¬ (6 : Int32) = 0 by decide), if_neg (show ¬ (6 : Int32) = 1 by decide), if_neg (show ¬ (6 : Int32) = 2 by decide), if_neg (show ¬ (6 : Int32) = 3 by decide), if_neg (show ¬ (6 : Int32) = 4 by decide), if_neg (show ¬ (6 : Int32) = 5 by decide), if_pos (show (6 : Int32) = 6 from rfl), if_pos (show (t.2.1 0) (0 : Int32).toNatClampNeg ≤ 0 by rw [rn, c0]; decide)]
    · have h2 : 2 ≤ 2 ^ qn σ.1.1.1 := by
        calc 2 = 2 ^ 1 := rfl
          _ ≤ 2 ^ qn σ.1.1.1 := Nat.pow_le_pow_right (by omega) (by omega)
      have g1 : ¬ G_holds (s.1 41) (qi (2 ^ qn σ.1.1.1 - 1)) = 0 := by
        rw [gh, decide_eq_true (show (1 : Int) ≤ ((2 ^ qn σ.1.1.1 - 1 : Nat) : Int) by omega), decide_eq_true (show ((2 ^ qn σ.1.1.1 - 1 : Nat) : Int) ≤ ((2 ^ qn σ.1.1.1 : Nat) : Int) - 1 by omega)]
        decide
      have sc := p4.2 (2 ^ qn σ.1.1.1 - 1) (by omega) (by omega)
      have rcn := (l2.2.2 (2 ^ qn σ.1.1.1 - 1) (by omega) (by omega)).2.1
      refine qYesJ σ (if qcon σ.1.1.1 (2 ^ qn σ.1.1.1 - 1) then 1 else 0) ?_ (RC _ (t.1 17) (t.2.1 14) ?_)
      · unfold sJ_count J_count J_connected
        rw [if_neg (show ¬ (6 : Int32) = 0 by decide), if_neg (show ¬ (6 : Int32) = 1 by decide), if_neg (show ¬ (6 : Int32) = 2 by decide), if_neg (show ¬ (6 : Int32) = 3 by decide), if_neg (show ¬ (6 : Int32) = 4 by decide), if_neg (show ¬ (6 : Int32) = 5 by decide), if_pos (show (6 : Int32) = 6 from rfl), ga, if_neg g1, p1, db_some]
        dsimp only
        rw [dk_t ((qi_inb (2 ^ qn σ.1.1.1 - 1) 256 (by omega)).mpr (by omega)), qi_nat (2 ^ qn σ.1.1.1 - 1) (by omega)]
        cases c2 : qcon σ.1.1.1 (2 ^ qn σ.1.1.1 - 1) with
        | true =>
          rw [if_neg (show ¬ cs1 (2 ^ qn σ.1.1.1 - 1) = 0 by rw [sc, c2]; decide), db_some, if_neg (show ¬ (1 : Int32) = 0 by decide)]
          exact ⟨_, rfl, ⟨hc, hj, hl, hb, hf, hp⟩, hh, Or.inr ⟨rfl, rfl, rfl, p2, p3⟩, Or.inr ⟨rfl, rfl, rfl, rfl, p4⟩, hb0, hb1, hi⟩
        | false =>
          rw [if_pos (show cs1 (2 ^ qn σ.1.1.1 - 1) = 0 by rw [sc, c2]; decide), db_some, if_pos (show (0 : Int32) = 0 from rfl)]
          exact ⟨_, rfl, ⟨hc, hj, hl, hb, hf, hp⟩, hh, Or.inr ⟨rfl, rfl, rfl, p2, p3⟩, Or.inr ⟨rfl, rfl, rfl, rfl, p4⟩, hb0, hb1, hi⟩
      · unfold R_count_28
        rw [if_neg (show ¬ (6 : Int32) = 0 by decide), if_neg (show ¬ (6 : Int32) = 1 by decide), if_neg (show ¬ (6 : Int32) = 2 by decide), if_neg (show ¬ (6 : Int32) = 3 by decide), if_neg (show ¬ (6 : Int32) = 4 by decide), if_neg (show ¬ (6 : Int32) = 5 by decide), if_pos (show (6 : Int32) = 6 from rfl), if_neg (show ¬ (t.2.1 0) (0 : Int32).toNatClampNeg ≤ 0 by rw [rn]; exact fun h => absurd ((qi_le _ 0 (by omega) (by omega)).mp h) (by omega)), ev, dk_t ((qi_inb _ 256 (by omega)).mpr (by omega)), qi_nat _ (by omega)]
        cases c1 : qcon σ.1.1.1 (2 ^ qn σ.1.1.1 - 1) with
        | true => rw [if_neg (show ¬ con' (2 ^ qn σ.1.1.1 - 1) = 0 by rw [rcn, c1]; decide)]; rfl
        | false => rw [if_pos (show con' (2 ^ qn σ.1.1.1 - 1) = 0 by rw [rcn, c1]; decide)]; rfl
  by_cases d7 : x1 = 7
  · subst d7
    rcases hz1 with ⟨z1, z2⟩ | ⟨z1, z2, u, u1, u2, u6, u7, hRp⟩
    · refine qYesJ σ (-1) ?_ (RC _ (t.1 17) (t.2.1 14) ?_)
      · unfold sJ_count J_count
        rw [if_neg (show ¬ (7 : Int32) = 0 by decide), if_neg (show ¬ (7 : Int32) = 1 by decide), if_neg (show ¬ (7 : Int32) = 2 by decide), if_neg (show ¬ (7 : Int32) = 3 by decide), if_neg (show ¬ (7 : Int32) = 4 by decide), if_neg (show ¬ (7 : Int32) = 5 by decide), if_neg (show ¬ (7 : Int32) = 6 by decide), if_pos (show (7 : Int32) = 7 from rfl), if_neg z2]
        exact ⟨_, rfl, hJ⟩
      · unfold R_count_28
        rw [if_neg (show ¬ (7 : Int32) = 0 by decide), if_neg (show ¬ (7 : Int32) = 1 by decide), if_neg (show ¬ (7 : Int32) = 2 by decide), if_neg (show ¬ (7 : Int32) = 3 by decide), if_neg (show ¬ (7 : Int32) = 4 by decide), if_neg (show ¬ (7 : Int32) = 5 by decide), if_neg (show ¬ (7 : Int32) = 6 by decide), if_pos (show (7 : Int32) = 7 from rfl), if_pos z1]
    · have rr := R_joinMany_q u u1 hRp N (by omega)
      refine qYesJ σ ((s.1 45)) ?_ (RC _ (t.1 17) (t.2.1 14) ?_)
      · unfold sJ_count J_count
        rw [if_neg (show ¬ (7 : Int32) = 0 by decide), if_neg (show ¬ (7 : Int32) = 1 by decide), if_neg (show ¬ (7 : Int32) = 2 by decide), if_neg (show ¬ (7 : Int32) = 3 by decide), if_neg (show ¬ (7 : Int32) = 4 by decide), if_neg (show ¬ (7 : Int32) = 5 by decide), if_neg (show ¬ (7 : Int32) = 6 by decide), if_pos (show (7 : Int32) = 7 from rfl), if_pos z2]
        exact ⟨_, rfl, hJ⟩
      · unfold R_count_28
        rw [if_neg (show ¬ (7 : Int32) = 0 by decide), if_neg (show ¬ (7 : Int32) = 1 by decide), if_neg (show ¬ (7 : Int32) = 2 by decide), if_neg (show ¬ (7 : Int32) = 3 by decide), if_neg (show ¬ (7 : Int32) = 4 by decide), if_neg (show ¬ (7 : Int32) = 5 by decide), if_neg (show ¬ (7 : Int32) = 6 by decide), if_pos (show (7 : Int32) = 7 from rfl), if_neg z1, rr, db_some, u6]
  by_cases d8 : x1 = 8
  · subst d8
    rcases hz1 with ⟨z1, z2⟩ | ⟨z1, z2, u, u1, u2, u6, u7, hRp⟩
    · refine qYesJ σ (-1) ?_ (RC _ (t.1 17) (t.2.1 14) ?_)
      · unfold sJ_count J_count
        rw [if_neg (show ¬ (8 : Int32) = 0 by decide), if_neg (show ¬ (8 : Int32) = 1 by decide), if_neg (show ¬ (8 : Int32) = 2 by decide), if_neg (show ¬ (8 : Int32) = 3 by decide), if_neg (show ¬ (8 : Int32) = 4 by decide), if_neg (show ¬ (8 : Int32) = 5 by decide), if_neg (show ¬ (8 : Int32) = 6 by decide), if_neg (show ¬ (8 : Int32) = 7 by decide), if_pos (show (8 : Int32) = 8 from rfl), if_neg z2]
        exact ⟨_, rfl, hJ⟩
      · unfold R_count_28
        rw [if_neg (show ¬ (8 : Int32) = 0 by decide), if_neg (show ¬ (8 : Int32) = 1 by decide), if_neg (show ¬ (8 : Int32) = 2 by decide), if_neg (show ¬ (8 : Int32) = 3 by decide), if_neg (show ¬ (8 : Int32) = 4 by decide), if_neg (show ¬ (8 : Int32) = 5 by decide), if_neg (show ¬ (8 : Int32) = 6 by decide), if_neg (show ¬ (8 : Int32) = 7 by decide), if_pos (show (8 : Int32) = 8 from rfl), if_pos z1]
    · have rr := R_crossesOfParts_q hg rc.1 u u1 hRp N (by omega)
      have sx := S_crossesOf_q hg k2 u u1 u2 (s.2.1 34) (s.2.1 33) u7 N (by omega)
      refine qYesJ σ (qi (qcr σ.1.1.1 u)) ?_ (RC _ (t.1 17) (t.2.1 14) ?_)
      · unfold sJ_count J_count
        rw [if_neg (show ¬ (8 : Int32) = 0 by decide), if_neg (show ¬ (8 : Int32) = 1 by decide), if_neg (show ¬ (8 : Int32) = 2 by decide), if_neg (show ¬ (8 : Int32) = 3 by decide), if_neg (show ¬ (8 : Int32) = 4 by decide), if_neg (show ¬ (8 : Int32) = 5 by decide), if_neg (show ¬ (8 : Int32) = 6 by decide), if_neg (show ¬ (8 : Int32) = 7 by decide), if_pos (show (8 : Int32) = 8 from rfl), if_pos z2, k1, db_some]
        dsimp only
        rw [u6, sx, db_some]
        exact ⟨_, rfl, ⟨hc, hj, hl, hb, hf, hp⟩, hh, Or.inr ⟨rfl, rfl, rfl, k2, k3⟩, qJp_kn hpp, hb0, hb1, hi⟩
      · unfold R_count_28
        rw [if_neg (show ¬ (8 : Int32) = 0 by decide), if_neg (show ¬ (8 : Int32) = 1 by decide), if_neg (show ¬ (8 : Int32) = 2 by decide), if_neg (show ¬ (8 : Int32) = 3 by decide), if_neg (show ¬ (8 : Int32) = 4 by decide), if_neg (show ¬ (8 : Int32) = 5 by decide), if_neg (show ¬ (8 : Int32) = 6 by decide), if_neg (show ¬ (8 : Int32) = 7 by decide), if_pos (show (8 : Int32) = 8 from rfl), if_neg z1, rr, db_some]
  by_cases d9 : x1 = 9
  · subst d9
    refine qYesJ σ ((s.1 0)) ?_ (RC _ (t.1 17) (t.2.1 14) ?_)
    · unfold sJ_count J_count
      rw [if_neg (show ¬ (9 : Int32) = 0 by decide), if_neg (show ¬ (9 : Int32) = 1 by decide), if_neg (show ¬ (9 : Int32) = 2 by decide), if_neg (show ¬ (9 : Int32) = 3 by decide), if_neg (show ¬ (9 : Int32) = 4 by decide), if_neg (show ¬ (9 : Int32) = 5 by decide), if_neg (show ¬ (9 : Int32) = 6 by decide), if_neg (show ¬ (9 : Int32) = 7 by decide), if_neg (show ¬ (9 : Int32) = 8 by decide), if_pos (show (9 : Int32) = 9 from rfl)]
      exact ⟨_, rfl, hJ⟩
    · unfold R_count_28
      rw [if_neg (show ¬ (9 : Int32) = 0 by decide), if_neg (show ¬ (9 : Int32) = 1 by decide), if_neg (show ¬ (9 : Int32) = 2 by decide), if_neg (show ¬ (9 : Int32) = 3 by decide), if_neg (show ¬ (9 : Int32) = 4 by decide), if_neg (show ¬ (9 : Int32) = 5 by decide), if_neg (show ¬ (9 : Int32) = 6 by decide), if_neg (show ¬ (9 : Int32) = 7 by decide), if_neg (show ¬ (9 : Int32) = 8 by decide), if_pos (show (9 : Int32) = 9 from rfl), (rh.2.1.trans (by obtain ⟨_, _, _, _, h5, _⟩ := hh; exact h5.symm))]
  by_cases d10 : x1 = 10
  · subst d10
    refine qYesJ σ ((s.1 46)) ?_ (RC _ (t.1 17) (t.2.1 14) ?_)
    · unfold sJ_count J_count
      rw [if_neg (show ¬ (10 : Int32) = 0 by decide), if_neg (show ¬ (10 : Int32) = 1 by decide), if_neg (show ¬ (10 : Int32) = 2 by decide), if_neg (show ¬ (10 : Int32) = 3 by decide), if_neg (show ¬ (10 : Int32) = 4 by decide), if_neg (show ¬ (10 : Int32) = 5 by decide), if_neg (show ¬ (10 : Int32) = 6 by decide), if_neg (show ¬ (10 : Int32) = 7 by decide), if_neg (show ¬ (10 : Int32) = 8 by decide), if_neg (show ¬ (10 : Int32) = 9 by decide), if_pos (show (10 : Int32) = 10 from rfl)]
      exact ⟨_, rfl, hJ⟩
    · unfold R_count_28
      rw [if_neg (show ¬ (10 : Int32) = 0 by decide), if_neg (show ¬ (10 : Int32) = 1 by decide), if_neg (show ¬ (10 : Int32) = 2 by decide), if_neg (show ¬ (10 : Int32) = 3 by decide), if_neg (show ¬ (10 : Int32) = 4 by decide), if_neg (show ¬ (10 : Int32) = 5 by decide), if_neg (show ¬ (10 : Int32) = 6 by decide), if_neg (show ¬ (10 : Int32) = 7 by decide), if_neg (show ¬ (10 : Int32) = 8 by decide), if_neg (show ¬ (10 : Int32) = 9 by decide), if_pos (show (10 : Int32) = 10 from rfl), ((show (t.2.1 0) (316 : Int32).toNatClampNeg = qi σ.1.2.1.1 from r1).trans hl.symm)]
  by_cases d11 : x1 = 11
  · subst d11
    obtain ⟨X, X1, X2, X3, m', pf', ps', pa', sp', m1⟩ := A_mergeJoined_q hg k2 k3 (pa := (s.2.1 6)) (sp := (s.2.1 7)) (s.1 7) (s.1 8) (s.1 9) N (by omega)
    obtain ⟨Y, Y1, Y2, tm', tr', m2⟩ := R_partMany_q hg rc.1 (t.2.1 14) (t.1 17) N (by omega)
    have eXY := qX_len X1 Y1 X2 Y2
    refine qYesJ σ (qi X.length) ?_ (RC _ tm' tr' ?_)
    · unfold sJ_count J_count
      rw [if_neg (show ¬ (11 : Int32) = 0 by decide), if_neg (show ¬ (11 : Int32) = 1 by decide), if_neg (show ¬ (11 : Int32) = 2 by decide), if_neg (show ¬ (11 : Int32) = 3 by decide), if_neg (show ¬ (11 : Int32) = 4 by decide), if_neg (show ¬ (11 : Int32) = 5 by decide), if_neg (show ¬ (11 : Int32) = 6 by decide), if_neg (show ¬ (11 : Int32) = 7 by decide), if_neg (show ¬ (11 : Int32) = 8 by decide), if_neg (show ¬ (11 : Int32) = 9 by decide), if_neg (show ¬ (11 : Int32) = 10 by decide), if_pos (show (11 : Int32) = 11 from rfl), k1, db_some]
      dsimp only
      rw [← hn] at m1
      rw [m1, db_some]
      exact ⟨_, rfl, ⟨hc, hj, hl, hb, hf, hp⟩, hh, Or.inr ⟨rfl, rfl, rfl, k2, k3⟩, qJp_kn hpp, hb0, hb1, hi⟩
    · unfold R_count_28
      rw [if_neg (show ¬ (11 : Int32) = 0 by decide), if_neg (show ¬ (11 : Int32) = 1 by decide), if_neg (show ¬ (11 : Int32) = 2 by decide), if_neg (show ¬ (11 : Int32) = 3 by decide), if_neg (show ¬ (11 : Int32) = 4 by decide), if_neg (show ¬ (11 : Int32) = 5 by decide), if_neg (show ¬ (11 : Int32) = 6 by decide), if_neg (show ¬ (11 : Int32) = 7 by decide), if_neg (show ¬ (11 : Int32) = 8 by decide), if_neg (show ¬ (11 : Int32) = 9 by decide), if_neg (show ¬ (11 : Int32) = 10 by decide), if_pos (show (11 : Int32) = 11 from rfl), m2, db_some, eXY]
  refine qYesJ σ (-1) ?_ (RC _ (t.1 17) (t.2.1 14) ?_)
  · unfold sJ_count J_count
    rw [if_neg d0, if_neg d1, if_neg d2, if_neg d3, if_neg d4, if_neg d5, if_neg d6, if_neg d7, if_neg d8, if_neg d9, if_neg d10, if_neg d11]
    exact ⟨_, rfl, hJ⟩
  · unfold R_count_28
    rw [if_neg d0, if_neg d1, if_neg d2, if_neg d3, if_neg d4, if_neg d5, if_neg d6, if_neg d7, if_neg d8, if_neg d9, if_neg d10, if_neg d11]
