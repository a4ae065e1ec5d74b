theorem qq_size (σ : Qσ) (s : SJ) (t : SR) (hJ : qRelJ σ s) (hR : qRelR σ t) (N : Nat) (hN : 200000 < N) (x1 x2 : Int32) : ∃ σ', qOk σ' (sJ_size N s x1 x2) (sR_size N t x1 x2) := by
  obtain ⟨⟨hc, hj, hl, hb, hf, hp⟩, hh, hs, hpp, hb0, hb1, hi⟩ := id hJ
  obtain ⟨⟨rc, r1, r2, r3, r4⟩, rh, ri⟩ := id hR
  have hg := hc.1
  have h8 := hg.1
  have h2p := q2p _ h8
  have hn : (s.1 41) = qi (qn σ.1.1.1) := hj.1.1
  have gh : G_holds (s.1 41) x1 = qi (qin 1 ((2 ^ qn σ.1.1.1 : Nat) - 1) x1).toNat := by rw [hn]; exact G_holds_x _ h8 _
  have rs : R_isSet (t.2.1 0) x1 = qi (qin 1 ((2 ^ qn σ.1.1.1 : Nat) - 1) x1).toNat := R_isSet_x _ _ (R_everything_q hg rc.1.1) h8 _
  cases c1 : qin 1 ((2 ^ qn σ.1.1.1 : Nat) - 1) x1 with
  | false =>
    rw [c1] at gh rs
    refine qYesJ σ (-1) ?_ ?_
    · unfold sJ_size J_size
      rw [gh, if_pos (show qi false.toNat = 0 from rfl)]
      exact ⟨_, rfl, hJ⟩
    · unfold sR_size R_size
      rw [rs, if_pos (show qi false.toNat = 0 from rfl)]
      exact ⟨_, rfl, hR⟩
  | true =>
    rw [c1] at gh rs
    obtain ⟨x, a1, a2, rfl⟩ := q_setx h8 c1
    obtain ⟨kcp, kli, kri, ksz, k1, k2, k3⟩ := J_knownSets_q hg hj.1 hs N (by omega)
    have r5 := R_laysSize_q hg rc.1 (t.2.1 3) (t.2.2 1) x (by omega) N (by omega)
    have kx := k3 x (by omega)
    have tn : (qi x).toNatClampNeg = x := qi_nat _ (by omega)
    refine qYesJ σ (if x2 = 0 then ql (qsz σ.1.1.1 x) else if qcp σ.1.1.1 x then 1 else 0) ?_ ?_
    · unfold sJ_size J_size
      rw [gh, if_neg (show ¬ qi true.toNat = 0 by decide)]
      by_cases c2 : x2 = 0
      · rw [if_pos c2, k1, db_some, dk_t ((qi_inb x 256 (by omega)).mpr (by omega)), tn, if_pos c2]
        dsimp only
        rw [kx.2]
        exact ⟨_, rfl, ⟨hc, hj, hl, hb, hf, hp⟩, hh, Or.inr ⟨rfl, rfl, rfl, k2, k3⟩, qJp_kn hpp, hb0, hb1, hi⟩
      · rw [if_neg c2, k1, db_some, dk_t ((qi_inb x 256 (by omega)).mpr (by omega)), tn, if_neg c2]
        dsimp only
        cases e : qcp σ.1.1.1 x with
        | true =>
          rw [if_neg (show ¬ kcp x = 0 by rw [kx.1, e]; decide)]
          exact ⟨_, rfl, ⟨hc, hj, hl, hb, hf, hp⟩, hh, Or.inr ⟨rfl, rfl, rfl, k2, k3⟩, qJp_kn hpp, hb0, hb1, hi⟩
        | false =>
          rw [if_pos (show kcp x = 0 by rw [kx.1, e]; decide)]
          exact ⟨_, rfl, ⟨hc, hj, hl, hb, hf, hp⟩, hh, Or.inr ⟨rfl, rfl, rfl, k2, k3⟩, qJp_kn hpp, hb0, hb1, hi⟩
    · unfold sR_size R_size
      rw [rs, if_neg (show ¬ qi true.toNat = 0 by decide), r5, db_some]
      by_cases c2 : x2 = 0
      · rw [if_pos c2, dk_t ((qi_inb x 256 (by omega)).mpr (by omega)), tn, if_pos c2]
        dsimp only
        rw [show vp_updL (t.2.2 1) x (ql (qz σ.1.1.1 (qn σ.1.1.1) x).1) x = ql (qsz σ.1.1.1 x) by simp [vp_updL, qsz]]
        exact ⟨_, rfl, hR⟩
      · rw [if_neg c2, dk_t ((qi_inb x 256 (by omega)).mpr (by omega)), tn, if_neg c2]
        dsimp only
        have e0 : upd (t.2.1 3) x (qi (qz σ.1.1.1 (qn σ.1.1.1) x).2.toNat) x = qi (qcp σ.1.1.1 x).toNat := by rw [upd_self]; rfl
        cases e : qcp σ.1.1.1 x with
        | true =>
          rw [if_neg (show ¬ upd (t.2.1 3) x (qi (qz σ.1.1.1 (qn σ.1.1.1) x).2.toNat) x = 0 by rw [e0, e]; decide)]
          exact ⟨_, rfl, hR⟩
        | false =>
          rw [if_pos (show upd (t.2.1 3) x (qi (qz σ.1.1.1 (qn σ.1.1.1) x).2.toNat) x = 0 by rw [e0, e]; decide)]
          exact ⟨_, rfl, hR⟩
theorem qq_connected (σ : Qσ) (s : SJ) (t : SR) (hJ : qRelJ σ s) (hR : qRelR σ t) (N : Nat) (hN : 200000 < N) (x1 : Int32) : ∃ σ', qOk σ' (sJ_connected N s x1) (sR_connected N t x1) := by
  obtain ⟨⟨hc, hj, hl, hb, hf, hp⟩, hh, hs, hpp, hb0, hb1, hi⟩ := id hJ
  obtain ⟨⟨rc, r1, r2, r3, r4⟩, rh, ri⟩ := id hR
  have hg := hc.1
  have h8 := hg.1
  have h2p := q2p _ h8
  have hn : (s.1 41) = qi (qn σ.1.1.1) := hj.1.1
  have gh : G_holds (s.1 41) x1 = qi (qin 1 ((2 ^ qn σ.1.1.1 : Nat) - 1) x1).toNat := by rw [hn]; exact G_holds_x _ h8 _
  have rs : R_isSet (t.2.1 0) x1 = qi (qin 1 ((2 ^ qn σ.1.1.1 : Nat) - 1) x1).toNat := R_isSet_x _ _ (R_everything_q hg rc.1.1) h8 _
  cases c1 : qin 1 ((2 ^ qn σ.1.1.1 : Nat) - 1) x1 with
  | false =>
    rw [c1] at gh rs
    refine qYesJ σ 0 ?_ ?_
    · unfold sJ_connected J_connected
      rw [gh, if_pos (show qi false.toNat = 0 from rfl)]
      exact ⟨_, rfl, hJ⟩
    · unfold sR_connected R_connected
      rw [rs, if_pos (show qi false.toNat = 0 from rfl)]
      exact ⟨_, rfl, hR⟩
  | true =>
    rw [c1] at gh rs
    obtain ⟨x, a1, a2, rfl⟩ := q_setx h8 c1
    obtain ⟨cp1, cs1, li1, ps1, ri1, sz1, p1, p2, p3, p4⟩ := J_pairedSets_q hg hj.1 hs hpp N (by omega)
    obtain ⟨bc', bx', bp', cp', con', sz', l1, l2⟩ := R_lays_q hg rc.1 (t.2.2 0) (t.2.1 1) (t.2.1 2) (t.2.1 3) (t.2.1 4) (t.2.2 1) N (by omega)
    have kx := (l2.2.2 x (by omega) (by omega)).2.1
    have tn : (qi x).toNatClampNeg = x := qi_nat _ (by omega)
    have sc := p4.2 x (by omega) (by omega)
    refine qYesJ σ (qi (qcon σ.1.1.1 x).toNat) ?_ ?_
    · unfold sJ_connected J_connected
      rw [gh, if_neg (show ¬ qi true.toNat = 0 by decide), p1, db_some]
      dsimp only
      rw [dk_t ((qi_inb x 256 (by omega)).mpr (by omega)), tn]
      cases c2 : qcon σ.1.1.1 x with
      | true =>
        rw [if_neg (show ¬ cs1 x = 0 by rw [sc, c2]; decide)]
        exact ⟨_, rfl, ⟨hc, hj, hl, hb, hf, hp⟩, hh, Or.inr ⟨rfl, rfl, rfl, p2, p3⟩, Or.inr ⟨rfl, rfl, rfl, rfl, p4⟩, hb0, hb1, hi⟩
      | false =>
        rw [if_pos (show cs1 x = 0 by rw [sc, c2]; decide)]
        exact ⟨_, rfl, ⟨hc, hj, hl, hb, hf, hp⟩, hh, Or.inr ⟨rfl, rfl, rfl, p2, p3⟩, Or.inr ⟨rfl, rfl, rfl, rfl, p4⟩, hb0, hb1, hi⟩
    · unfold sR_connected R_connected
      rw [rs, if_neg (show ¬ qi true.toNat = 0 by decide), l1, db_some]
      dsimp only
      rw [dk_t ((qi_inb x 256 (by omega)).mpr (by omega)), tn, dk_t (show con' x &&& 1 = con' x by rw [kx]; exact qb_and1 _), kx]
      exact ⟨_, rfl, hR⟩
theorem qq_joined (σ : Qσ) (s : SJ) (t : SR) (hJ : qRelJ σ s) (hR : qRelR σ t) (N : Nat) (hN : 200000 < N) (x1 x2 : Int32) : ∃ σ', qOk σ' (sJ_joined N s x1 x2) (sR_joined N t x1 x2) := by
  obtain ⟨⟨hc, hj, hl, hb, hf, hp⟩, hh, hs, hpp, hb0, hb1, hi⟩ := id hJ
  obtain ⟨⟨rc, r1, r2, r3, r4⟩, rh, ri⟩ := id hR
  have hg := hc.1
  have h8 := hg.1
  have h2p := q2p _ h8
  have hn : (s.1 41) = qi (qn σ.1.1.1) := hj.1.1
  have gl : G_canLink (s.1 41) x1 x2 = qi (qin 1 ((2 ^ qn σ.1.1.1 : Nat) - 1) x1 && qin 1 ((2 ^ qn σ.1.1.1 : Nat) - 1) x2 && decide (x1 &&& x2 = 0)).toNat := by rw [hn]; exact G_canLink_x _ h8 x1 x2
  have rs : ∀ y, R_isSet (t.2.1 0) y = qi (qin 1 ((2 ^ qn σ.1.1.1 : Nat) - 1) y).toNat := fun y => R_isSet_x _ _ (R_everything_q hg rc.1.1) h8 _
  by_cases c1 : qin 1 ((2 ^ qn σ.1.1.1 : Nat) - 1) x1 = true ∧ qin 1 ((2 ^ qn σ.1.1.1 : Nat) - 1) x2 = true ∧ x1 &&& x2 = 0
  · obtain ⟨c1, c2, c3⟩ := c1
    have s1 := rs x1
    have s2 := rs x2
    rw [c1] at s1
    rw [c2] at s2
    have gl : G_canLink (s.1 41) x1 x2 = qi true.toNat := by rw [gl, c1, c2, decide_eq_true c3]; rfl
    obtain ⟨x, a1, a2, rfl⟩ := q_setx h8 c1
    obtain ⟨y, b1, b2, rfl⟩ := q_setx h8 c2
    obtain ⟨kcp, kli, kri, ksz, k1, k2, k3⟩ := J_knownSets_q hg hj.1 hs N (by omega)
    have sj := S_areJoined_q hg k2 x y (by omega) (by omega)
    have rj := R_isJoined_q hg rc.1 x y N (by omega)
    refine qYesJ σ (qi (qjn σ.1.1.1 x y).toNat) ?_ ?_
    · unfold sJ_joined J_joined
      rw [gl, if_neg (show ¬ qi true.toNat = 0 by decide), k1, db_some]
      dsimp only
      rw [sj, db_some]
      cases qjn σ.1.1.1 x y with
      | true =>
        rw [if_neg (show ¬ qi true.toNat = 0 by decide)]
        exact ⟨_, rfl, ⟨hc, hj, hl, hb, hf, hp⟩, hh, Or.inr ⟨rfl, rfl, rfl, k2, k3⟩, qJp_kn hpp, hb0, hb1, hi⟩
      | false =>
        rw [if_pos (show qi false.toNat = 0 by decide)]
        exact ⟨_, rfl, ⟨hc, hj, hl, hb, hf, hp⟩, hh, Or.inr ⟨rfl, rfl, rfl, k2, k3⟩, qJp_kn hpp, hb0, hb1, hi⟩
    · unfold sR_joined R_joined
      rw [s1, if_neg (show ¬ qi true.toNat = 0 by decide), s2, if_neg (show ¬ qi true.toNat = 0 by decide), if_pos c3, rj, db_some]
      cases qjn σ.1.1.1 x y with
      | true =>
        rw [if_neg (show ¬ qi true.toNat = 0 by decide)]
        exact ⟨_, rfl, hR⟩
      | false =>
        rw [if_pos (show qi false.toNat = 0 by decide)]
        exact ⟨_, rfl, hR⟩
  · refine qYesJ σ 0 ?_ ?_
    · unfold sJ_joined J_joined
      rw [if_pos (show G_canLink (s.1 41) x1 x2 = 0 by rw [gl, qi_b]; cases e1 : qin 1 ((2 ^ qn σ.1.1.1 : Nat) - 1) x1 <;> cases e2 : qin 1 ((2 ^ qn σ.1.1.1 : Nat) - 1) x2 <;> simp_all)]
      exact ⟨_, rfl, hJ⟩
    · unfold sR_joined R_joined
      have u1 := rs x1
      have u2 := rs x2
      cases e1 : qin 1 ((2 ^ qn σ.1.1.1 : Nat) - 1) x1 with
      | false => rw [if_pos (show R_isSet (t.2.1 0) x1 = 0 by rw [u1, e1]; decide)]; exact ⟨_, rfl, hR⟩
      | true =>
        rw [if_neg (show ¬ R_isSet (t.2.1 0) x1 = 0 by rw [u1, e1]; decide)]
        cases e2 : qin 1 ((2 ^ qn σ.1.1.1 : Nat) - 1) x2 with
        | false => rw [if_pos (show R_isSet (t.2.1 0) x2 = 0 by rw [u2, e2]; decide)]; exact ⟨_, rfl, hR⟩
        | true =>
          rw [if_neg (show ¬ R_isSet (t.2.1 0) x2 = 0 by rw [u2, e2]; decide), if_neg (fun h => c1 ⟨e1, e2, h⟩)]
          exact ⟨_, rfl, hR⟩
