theorem q_plan {c : Qc} (hc : qcok c) {ro jo : Int32} {st pt a : Nat → Int32} (h : qJpl c.2 ro jo st pt) (hr : qRc c a) :
    (c.2 = none ∧ ro = qi 0 ∧ a 59 = qi 0 ∧ (¬ P_isNone ro = 0) ∧ ∀ s, s < 256 → a (60 + s) = qi 0) ∨
    ∃ u, c.2 = some u ∧ qtok u ∧ qts u < 2 ^ qn c.1 ∧ qts u ≠ 0 ∧ qts u < 256 ∧ ro = qi (qts u) ∧ jo = qi (qtn u).length ∧ qat (qtn u) 0 st pt ∧ a 59 = qi (qts u) ∧ (∀ s, s < 256 → a (60 + s) = qi (qpf u s)) ∧ P_isNone ro = 0 ∧ ¬ qi (qts u) = 0 := by
  obtain ⟨g, o⟩ := c
  obtain ⟨_, h1, h2⟩ := hr
  cases o with
  | none =>
    have h : ro = qi 0 := h
    subst h
    exact Or.inl ⟨rfl, rfl, h1, by decide, h2⟩
  | some u =>
    obtain ⟨rfl, rfl, h⟩ := h
    have k := hc.2 u rfl
    have l := qts_lt u k.1
    have n0 : ¬ qi (qts u) = 0 := fun h => l.2 (qi_inj (by omega) (by omega) h)
    exact Or.inr ⟨u, rfl, k.1, k.2, l.2, l.1, rfl, rfl, h, h1, h2, by unfold P_isNone; rw [if_neg n0], n0⟩
theorem qq_step (σ : Qσ) (s : SJ) (t : SR) (hJ : qRelJ σ s) (hR : qRelR σ t) (N : Nat) (hN : 200000 < N) : ∃ σ', qOk σ' (sJ_step N s) (sR_step N t) := by
  obtain ⟨⟨hc, hj, hl, hb, hf, hp⟩, hh, hs, hpp, hb0, hb1, hi⟩ := id hJ
  obtain ⟨⟨rc, r1, r2, r3, r4⟩, rh, ri⟩ := id hR
  have hg := hc.1
  have h8 := hg.1
  have h2p := q2p _ h8
  rcases q_plan hc hj.2 rc with ⟨u1, u2, u3, u4, u5⟩ | ⟨u, u0, u1, u2, u3, u4, u5, u6, u7, u8, u9, u10, u11⟩
  · have u3' : (t.2.1 0) (59 : Int32).toNatClampNeg = 0 := u3
    refine qYesJ σ (-1) ?_ ?_
    · unfold sJ_step J_step
      rw [if_neg u4]
      exact ⟨_, rfl, hJ⟩
    · unfold sR_step R_step
      rw [q_dn, if_pos u3']
      exact ⟨_, rfl, hR⟩
  · have u8' : (t.2.1 0) (59 : Int32).toNatClampNeg = qi (qts u) := u8
    obtain ⟨kcp, kli, kri, ksz, k1, k2, k3⟩ := J_knownSets_q hg hj.1 hs N (by omega)
    obtain ⟨bc', bx', bp', cp', con', sz', l1, l2⟩ := R_lays_q hg rc.1 (t.2.2 0) (t.2.1 1) (t.2.1 2) (t.2.1 3) (t.2.1 4) (t.2.2 1) N (by omega)
    obtain ⟨p', e1, e2⟩ := R_takesPlan_q (t.2.1 0) (t.2.1 9) N (by omega)
    have hRp : qRp u p' := fun s hs => (e2 s hs).trans (u9 s hs)
    obtain ⟨mr, mj, sp, mp, ms, v1⟩ := V_stepOf_q hg k2 k3 u u1 u2 (s.2.1 34) (s.2.1 33) u7 (s.1 39) (s.1 40) (s.2.1 5) (s.2.1 27) (s.2.1 28) N (by omega)
    obtain ⟨o', f1, f2, f3, f4, f5, nd', op', p2, w1, w2, w3⟩ := R_bestMove_q hg rc.1 (sz := sz') (fun x hx hx2 => (l2.2.2 x hx hx2).2.2) u u1 u2 p' hRp (t.1 14) (t.1 18) (t.1 19) (t.1 20) (t.1 21) (t.1 22) (t.1 23) (t.2.1 6) (t.2.1 7) N (by omega)
    rcases qnk_q σ.1.1.1 u u1 with n1 | ⟨k, n0, n1, _⟩
    · have n1' : (qstp σ.1.1.1 u (2 * (qmv u).length)).1 = -1 := n1
      rw [n1'] at v1 w1
      refine qYesJ σ 0 ?_ ?_
      · unfold sJ_step J_step
        rw [if_pos u10, k1, db_some]
        dsimp only
        rw [u5, u6, v1, db_some]
        dsimp only
        rw [if_pos (show (-1 : Int32) = -1 from rfl)]
        rw [← u5, ← u6]
        exact ⟨_, rfl, ⟨hc, hj, hl, hb, hf, hp⟩, hh, Or.inr ⟨rfl, rfl, rfl, k2, k3⟩, qJp_kn hpp, hb0, hb1, hi⟩
      · unfold sR_step R_step
        rw [q_dn, u8', if_neg u11, l1, db_some]
        dsimp only
        rw [e1, db_some, w1, db_some]
        dsimp only
        rw [if_pos (show (-1 : Int32) = -1 from rfl)]
        exact ⟨_, rfl, hR⟩
    · have n1' : (qstp σ.1.1.1 u (2 * (qmv u).length)).1 = qi k := n1
      rw [n1'] at v1 w1
      have hm := qmv_lt u u1
      have km : ¬ qi k = -1 := qi_ne_m1 k (by omega)
      obtain ⟨sp', mp', ms', m1, m2, m3, m4⟩ := V_make_q u u1 (s.2.1 34) (s.2.1 33) u7 mr mj sp mp ms k n0 N (by omega)
      obtain ⟨cpp, cps, c1, c2⟩ := P_copy_q (qi (qts u)) (qi (qtn (qmk u k)).length) (qi (qts u)) (qi (qtn u).length) mp' ms' (s.2.1 33) (s.2.1 34)
      obtain ⟨nx', pr', pe', pl', po', pj', pb', ple', pri', pro', pp', ps', eR, hh'⟩ := J_remember_q hh hc hj
      have hok : qcok (σ.1.1.1, some (qmk u k)) := ⟨hg, fun t h => by cases h; exact ⟨m3, by rw [m4]; exact u2⟩⟩
      obtain ⟨g1, g2, g3, g4, g5, im1, im2⟩ := (R_isMove_q u u1 p2 nd' w2 w3 f1 f2 f3 f4 f5 k (by omega) N (by omega)).1 n0
      obtain ⟨p3, go1, go2, _⟩ := R_goes_q u u1 p2 w2 k g1 g2 g3 g4 g5 im2
      obtain ⟨ud', q1, q2⟩ := R_keeps_q _ _ _ _ rh σ.1.1 hc rc N (by omega)
      obtain ⟨a', i1, i2, i3, i4⟩ := R_isPlanNow_q (t.2.1 0) p3 (qi (qts u)) N (by omega)
      obtain ⟨x1, x2⟩ := qPlan_R hc ⟨rc, r1, r2, r3, r4⟩ ri (u := qmk u k) (a' := a') (by rw [i2, m4]) (fun s hs => by rw [i3 s hs]; exact go2 s hs) i4
      refine qYesJ (((σ.1.1.1, some (qmk u k)), σ.1.2), qrem σ.2.1 σ.1.1, σ.2.2) (1 + (qi k - qi k / 2 * 2)) ?_ ?_
      · unfold sJ_step J_step
        rw [if_pos u10, k1, db_some]
        dsimp only
        rw [eR]
        rw [u5, u6, v1, db_some]
        dsimp only
        rw [if_neg km, db_some, m1, db_some]
        dsimp only
        rw [c1, db_some]
        exact ⟨_, rfl, ⟨hok, ⟨hj.1, congrArg qi m4.symm, rfl, qat_7 m3 m2 c2⟩, hl, hb, hf, hp⟩, hh', Or.inr ⟨rfl, rfl, rfl, k2, k3⟩, qJp_kn hpp, hb0, hb1, hi⟩
      · unfold sR_step R_step
        rw [q_dn, u8', if_neg u11, l1, db_some]
        dsimp only
        rw [e1, db_some, w1, db_some]
        dsimp only
        rw [if_neg km, im1, db_some]
        dsimp only
        rw [go1, db_some, q1, db_some]
        dsimp only
        rw [i1, db_some]
        exact ⟨_, rfl, x1, q2, x2⟩
theorem qq_cost (σ : Qσ) (s : SJ) (t : SR) (hJ : qRelJ σ s) (hR : qRelR σ t) (N : Nat) (hN : 200000 < N) : ∃ σ', qOk σ' (sJ_cost N s) (sR_cost N t) := by
  obtain ⟨⟨hc, hj, hl, hb, hf, hp⟩, hh, hs, hpp, hb0, hb1, hi⟩ := id hJ
  obtain ⟨⟨rc, r1, r2, r3, r4⟩, rh, ri⟩ := id hR
  have hg := hc.1
  have h8 := hg.1
  have h2p := q2p _ h8
  rcases q_plan hc hj.2 rc with ⟨u1, u2, u3, u4, u5⟩ | ⟨u, u0, u1, u2, u3, u4, u5, u6, u7, u8, u9, u10, u11⟩
  · have u3' : (t.2.1 0) (59 : Int32).toNatClampNeg = 0 := u3
    refine qYesJ σ (-1) ?_ ?_
    · unfold sJ_cost J_cost
      rw [if_neg u4]
      exact ⟨_, rfl, hJ⟩
    · unfold sR_cost R_cost
      rw [if_pos u3']
      exact ⟨_, rfl, hR⟩
  · have u8' : (t.2.1 0) (59 : Int32).toNatClampNeg = qi (qts u) := u8
    obtain ⟨kcp, kli, kri, ksz, k1, k2, k3⟩ := J_knownSets_q hg hj.1 hs N (by omega)
    obtain ⟨bc', bx', bp', cp', con', sz', l1, l2⟩ := R_lays_q hg rc.1 (t.2.2 0) (t.2.1 1) (t.2.1 2) (t.2.1 3) (t.2.1 4) (t.2.2 1) N (by omega)
    obtain ⟨p', e1, e2⟩ := R_takesPlan_q (t.2.1 0) (t.2.1 9) N (by omega)
    have hRp : qRp u p' := fun s hs => (e2 s hs).trans (u9 s hs)
    have v1 := S_costOf_q hg k3 u u1 u2 (s.2.1 34) (s.2.1 33) u7 (qts u) N (by omega)
    have w1 := R_costOfParts_q hg (sz := sz') u u1 u2 (fun x hx hx2 => (l2.2.2 x hx hx2).2.2) hRp (qts u) N (by omega)
    refine qYesJ σ (ql (qco σ.1.1.1 (qts u) u)) ?_ ?_
    · unfold sJ_cost J_cost
      rw [if_pos u10, k1, db_some]
      dsimp only
      rw [u5, u6, v1, db_some]
      exact ⟨_, rfl, ⟨hc, hj, hl, hb, hf, hp⟩, hh, Or.inr ⟨rfl, rfl, rfl, k2, k3⟩, qJp_kn hpp, hb0, hb1, hi⟩
    · unfold sR_cost R_cost
      rw [if_neg (show ¬ (t.2.1 0) (59 : Int32).toNatClampNeg = 0 by rw [u8']; exact u11), l1, db_some]
      dsimp only
      rw [e1, db_some, u8', w1, db_some]
      exact ⟨_, rfl, hR⟩
theorem qq_told (σ : Qσ) (s : SJ) (t : SR) (hJ : qRelJ σ s) (hR : qRelR σ t) (N : Nat) (hN : 200000 < N) (x1 : Int32) : ∃ σ', qOk σ' (sJ_told N s x1) (sR_told N t x1) := by
  obtain ⟨⟨hc, hj, hl, hb, hf, hp⟩, hh, hs, hpp, hb0, hb1, hi⟩ := id hJ
  obtain ⟨⟨rc, r1, r2, r3, r4⟩, rh, ri⟩ := id hR
  have hg := hc.1
  rcases q_plan hc hj.2 rc with ⟨u1, u2, u3, u4, u5⟩ | ⟨u, u0, u1, u2, u3, u4, u5, u6, u7, u8, u9, u10, u11⟩
  · have u3' : (t.2.1 0) (59 : Int32).toNatClampNeg = 0 := u3
    refine qYesJ σ (-1) ?_ ?_
    · unfold sJ_told J_told
      rw [if_neg u4]
      exact ⟨_, rfl, hJ⟩
    · unfold sR_told R_told
      rw [if_pos u3']
      exact ⟨_, rfl, hR⟩
  · have u8' : (t.2.1 0) (59 : Int32).toNatClampNeg = qi (qts u) := u8
    obtain ⟨p', e1, e2⟩ := R_takesPlan_q (t.2.1 0) (t.2.1 9) N (by omega)
    have hRp : qRp u p' := fun s hs => (e2 s hs).trans (u9 s hs)
    obtain ⟨w', v1, v2⟩ := P_tell_q u u1 (s.2.1 34) (s.2.1 33) u7 (s.2.1 0) N (by omega)
    obtain ⟨op', ou', w1, w2⟩ := R_tells_q u u1 p' hRp (t.1 14) (t.1 24) (t.2.1 7) (t.2.1 8) N (by omega)
    have hL : (qtl u).length ≤ 29 := by have := qtl_len u; have := qtn_le u u1; omega
    have nn : ¬ (t.2.1 0) (59 : Int32).toNatClampNeg = 0 := by rw [u8']; exact u11
    by_cases c1 : x1 = -1
    · refine qYesJ σ (qi (qtl u).length) ?_ ?_
      · unfold sJ_told J_told
        rw [if_pos u10, u5, u6, v1, db_some, if_pos c1]
        exact ⟨_, rfl, hJ⟩
      · unfold sR_told R_told
        rw [if_neg nn, e1, db_some, u8', w1, db_some, if_pos c1]
        exact ⟨_, rfl, hR⟩
    · have rin : R_in x1.toInt64 (0 : Int64) ((qi (qtl u).length - (1 : Int32)).toInt64) = qi (qin 0 (((qtl u).length : Int) - 1) x1).toNat := by
        rw [R_in_x, qi_pred _ (by omega)]
        rfl
      have gi : G_hasRelation (qi (qtl u).length) x1 = qi (qin 0 (((qtl u).length : Int) - 1) x1).toNat := G_hasRelation_x _ (by omega) x1
      cases c2 : qin 0 (((qtl u).length : Int) - 1) x1 with
      | false =>
        rw [c2] at rin gi
        refine qYesJ σ (-1) ?_ ?_
        · unfold sJ_told J_told
          rw [if_pos u10, u5, u6, v1, db_some, if_neg c1]
          by_cases c3 : x1 < 0
          · rw [if_pos c3]
            exact ⟨_, rfl, hJ⟩
          · rw [if_neg c3]
            have : ¬ x1 < qi (qtl u).length := by
              intro h
              unfold G_hasRelation at gi
              rw [if_neg c3, if_neg (Int32.not_le.mpr h)] at gi
              exact absurd gi (by decide)
            dsimp only
            rw [if_neg this]
            exact ⟨_, rfl, hJ⟩
        · unfold sR_told R_told
          rw [if_neg nn, e1, db_some, u8', w1, db_some, if_neg c1]
          dsimp only
          rw [rin, if_pos (show qi false.toNat = 0 by decide)]
          exact ⟨_, rfl, hR⟩
      | true =>
        rw [c2] at rin gi
        obtain ⟨k, k1, k2, rfl⟩ := qin_t (lo := 0) (hi := (qtl u).length - 1) (x := x1) (by rw [show (((qtl u).length - 1 : Nat) : Int) = ((qtl u).length : Int) - 1 by have := qtl_pos u; omega]; exact c2) (by omega)
        have hk : k < (qtl u).length := by have := qtl_pos u; omega
        have tn : (qi k).toNatClampNeg = k := qi_nat _ (by omega)
        have gk : (qtl u)[k]? = some (qtl u)[k] := List.getElem?_eq_getElem hk
        have z1 : w' k = qi (qtl u)[k] := by have := v2 k _ gk; rw [Nat.zero_add] at this; exact this
        have z2 : ou' k = qi (qtl u)[k] := w2 k _ gk
        refine qYesJ σ (qi (qtl u)[k]) ?_ ?_
        · unfold sJ_told J_told
          rw [if_pos u10, u5, u6, v1, db_some, if_neg c1]
          rw [if_neg (show ¬ qi k < 0 from fun h => absurd ((qi_lt k 0 (by omega) (by omega)).mp h) (by omega))]
          dsimp only
          rw [if_pos ((qi_lt _ _ (by omega) (by omega)).mpr hk), dk_t ((qi_inb k 29 (by omega)).mpr (by omega)), tn, z1]
          exact ⟨_, rfl, hJ⟩
        · unfold sR_told R_told
          rw [if_neg nn, e1, db_some, u8', w1, db_some, if_neg c1]
          dsimp only
          rw [rin, if_neg (show ¬ qi true.toNat = 0 by decide), dk_t ((qi_inb k 80 (by omega)).mpr (by omega)), tn, z2]
          exact ⟨_, rfl, hR⟩
theorem qq_move (σ : Qσ) (s : SJ) (t : SR) (hJ : qRelJ σ s) (hR : qRelR σ t) (N : Nat) (hN : 200000 < N) (x1 : Int32) : ∃ σ', qOk σ' (sJ_move N s x1) (sR_move N t x1) := by
  obtain ⟨⟨hc, hj, hl, hb, hf, hp⟩, hh, hs, hpp, hb0, hb1, hi⟩ := id hJ
  obtain ⟨⟨rc, r1, r2, r3, r4⟩, rh, ri⟩ := id hR
  have hg := hc.1
  have h8 := hg.1
  have h2p := q2p _ h8
  rcases q_plan hc hj.2 rc with ⟨u1, u2, u3, u4, u5⟩ | ⟨u, u0, u1, u2, u3, u4, u5, u6, u7, u8, u9, u10, u11⟩
  · have u3' : (t.2.1 0) (59 : Int32).toNatClampNeg = 0 := u3
    refine qYesJ σ (-1) ?_ ?_
    · unfold sJ_move J_move
      rw [if_neg u4]
      exact ⟨_, rfl, hJ⟩
    · unfold sR_move R_move R_move_22
      rw [q_dn, if_pos u3']
      exact ⟨_, rfl, hR⟩
  · have u8' : (t.2.1 0) (59 : Int32).toNatClampNeg = qi (qts u) := u8
    have hm := qmv_lt u u1
    have hml := qmv_len u u1
    have vm : V_movesOf (s.1 45) = qi (2 * (qmv u).length) := by
      rw [u6]
      unfold V_movesOf
      by_cases c : 2 ≤ (qtn u).length
      · rw [if_pos (show (2 : Int32) ≤ qi (qtn u).length from (qi_le 2 _ (by omega) (by have := qtn_le u u1; omega)).mpr c), show (1 : Int32) = qi 1 from rfl, show (2 : Int32) = qi 2 from rfl, qi_sub _ _ (by omega), qi_mul, hml]
      · rw [if_neg (show ¬ (2 : Int32) ≤ qi (qtn u).length from fun h => c ((qi_le 2 _ (by omega) (by have := qtn_le u u1; omega)).mp h)), hml, show (qtn u).length - 1 = 0 by omega]
        rfl
    obtain ⟨bc', bx', bp', cp', con', sz', l1, l2⟩ := R_lays_q hg rc.1 (t.2.2 0) (t.2.1 1) (t.2.1 2) (t.2.1 3) (t.2.1 4) (t.2.2 1) N (by omega)
    obtain ⟨p', e1, e2⟩ := R_takesPlan_q (t.2.1 0) (t.2.1 9) N (by omega)
    have hRp : qRp u p' := fun s hs => (e2 s hs).trans (u9 s hs)
    obtain ⟨nd', op', w1, w2⟩ := R_laysNodes_q u u1 p' hRp (t.1 14) (t.1 18) (t.2.1 6) (t.2.1 7) N (by omega)
    by_cases c1 : x1 = -1
    · subst c1
      obtain ⟨g1, g2, g3, g4, g5, m1⟩ := R_moveMany_q u u1 p' nd' hRp w2 (t.1 19) (t.1 20) (t.1 21) (t.1 22) (t.1 23) N (by omega)
      refine qYesJ σ (qi (2 * (qmv u).length)).toInt64 ?_ ?_
      · unfold sJ_move J_move
        rw [if_pos u10, q_dn, vm, if_pos (show (-1 : Int32) = -1 from rfl)]
        exact ⟨_, rfl, hJ⟩
      · unfold sR_move R_move
        rw [q_dn, u8', if_neg u11, if_pos (show (-1 : Int32) ≤ -1 by decide), l1, db_some]
        dsimp only
        rw [e1, db_some, w1, db_some]
        dsimp only
        rw [if_pos (show (-1 : Int32) = -1 from rfl), m1, db_some]
        exact ⟨_, rfl, hR⟩
    · by_cases c0 : x1 < 0
      · have nle : ¬ (-1 : Int32) ≤ x1 := by
          intro h
          apply c1
          have h1 := Int32.le_iff_toInt_le.mp h
          have h2 := Int32.lt_iff_toInt_lt.mp c0
          rw [show (-1 : Int32).toInt = -1 from rfl] at h1
          rw [show (0 : Int32).toInt = 0 from rfl] at h2
          apply Int32.toInt_inj.mp
          rw [show (-1 : Int32).toInt = -1 from rfl]
          omega
        refine qYesJ σ (-1) ?_ ?_
        · unfold sJ_move J_move J_move_45
          rw [if_pos u10, q_dn, if_neg c1, if_pos c0]
          exact ⟨_, rfl, hJ⟩
        · unfold sR_move R_move R_move_22
          rw [q_dn, u8', if_neg u11, if_neg nle]
          exact ⟨_, rfl, hR⟩
      · have le : (-1 : Int32) ≤ x1 := by
          have h2 := Int32.le_iff_toInt_le.mp (Int32.not_lt.mp c0)
          rw [show (0 : Int32).toInt = 0 from rfl] at h2
          apply Int32.le_iff_toInt_le.mpr
          rw [show (-1 : Int32).toInt = -1 from rfl]
          omega
        obtain ⟨k, hk, rfl⟩ := q_i32_nat x1 c0
        have im := R_isMove_q u u1 p' nd' hRp w2 (t.1 19) (t.1 20) (t.1 21) (t.1 22) (t.1 23) k hk N (by omega)
        by_cases c2 : k < 2 * (qmv u).length
        · obtain ⟨g1, g2, g3, g4, g5, im1, im2⟩ := im.1 c2
          obtain ⟨p3, go1, go2, _⟩ := R_goes_q u u1 p' hRp k g1 g2 g3 g4 g5 im2
          obtain ⟨sp', mp', ms', m1, m2, m3, m4⟩ := V_make_q u u1 (s.2.1 34) (s.2.1 33) u7 (s.1 39) (s.1 40) (s.2.1 5) (s.2.1 27) (s.2.1 28) k c2 N (by omega)
          have u2' : qts (qmk u k) < 2 ^ qn σ.1.1.1 := by rw [m4]; exact u2
          obtain ⟨kcp, kli, kri, ksz, k1, k2, k3⟩ := J_knownSets_q hg hj.1 hs N (by omega)
          have v1 := S_costOf_q hg k3 (qmk u k) m3 u2' ms' mp' m2 (qts u) N (by omega)
          have wc := R_costOfParts_q hg (sz := sz') (qmk u k) m3 u2' (fun x hx hx2 => (l2.2.2 x hx hx2).2.2) go2 (qts u) N (by omega)
          refine qYesJ σ (ql (qco σ.1.1.1 (qts u) (qmk u k))) ?_ ?_
          · unfold sJ_move J_move
            rw [if_pos u10, q_dn, vm, if_neg c1, if_neg c0, if_pos ((qi_lt _ _ (by omega) (by omega)).mpr c2), k1, u5, u6, m1, db_some]
            dsimp only
            rw [db_some]
            dsimp only
            rw [v1, db_some]
            exact ⟨_, rfl, ⟨hc, hj, hl, hb, hf, hp⟩, hh, Or.inr ⟨rfl, rfl, rfl, k2, k3⟩, qJp_kn hpp, hb0, hb1, hi⟩
          · unfold sR_move R_move
            rw [q_dn, u8', if_neg u11, if_pos le, l1, db_some]
            dsimp only
            rw [e1, db_some, w1, db_some]
            dsimp only
            rw [if_neg c1, im1, db_some]
            dsimp only
            rw [if_neg (show ¬ qi 1 = 0 by decide), go1, db_some, wc, db_some]
            exact ⟨_, rfl, hR⟩
        · have im1 := im.2 (by omega)
          refine qYesJ σ (-1) ?_ ?_
          · unfold sJ_move J_move J_move_45
            rw [if_pos u10, q_dn, vm, if_neg c1, if_neg c0, if_neg (fun h => c2 ((qi_lt _ _ (by omega) (by omega)).mp h))]
            exact ⟨_, rfl, hJ⟩
          · unfold sR_move R_move
            rw [q_dn, u8', if_neg u11, if_pos le, l1, db_some]
            dsimp only
            rw [e1, db_some, w1, db_some]
            dsimp only
            rw [if_neg c1, im1, db_some]
            dsimp only
            rw [if_pos (show qi 0 = 0 by decide)]
            exact ⟨_, rfl, hR⟩
theorem qq_steps (σ : Qσ) (s : SJ) (t : SR) (hJ : qRelJ σ s) (hR : qRelR σ t) (N : Nat) (hN : 200000 < N) : ∃ σ', qOk σ' (sJ_steps N s) (sR_steps N t) := by
  obtain ⟨⟨hc, hj, hl, hb, hf, hp⟩, hh, hs, hpp, hb0, hb1, hi⟩ := id hJ
  obtain ⟨⟨rc, r1, r2, r3, r4⟩, rh, ri⟩ := id hR
  have hg := hc.1
  have h8 := hg.1
  have h2p := q2p _ h8
  rcases q_plan hc hj.2 rc with ⟨u1, u2, u3, u4, u5⟩ | ⟨u, u0, u1, u2, u3, u4, u5, u6, u7, u8, u9, u10, u11⟩
  · have u3' : (t.2.1 0) (59 : Int32).toNatClampNeg = 0 := u3
    refine qYesJ σ (-1) ?_ ?_
    · unfold sJ_steps J_steps
      rw [if_neg u4]
      exact ⟨_, rfl, hJ⟩
    · unfold sR_steps R_steps
      rw [q_dn, if_pos u3']
      exact ⟨_, rfl, hR⟩
  · have u8' : (t.2.1 0) (59 : Int32).toNatClampNeg = qi (qts u) := u8
    obtain ⟨bc', bx', bp', cp', con', sz', l1, l2⟩ := R_lays_q hg rc.1 (t.2.2 0) (t.2.1 1) (t.2.1 2) (t.2.1 3) (t.2.1 4) (t.2.2 1) N (by omega)
    obtain ⟨p', e1, e2⟩ := R_takesPlan_q (t.2.1 0) (t.2.1 9) N (by omega)
    have hRp : qRp u p' := fun s hs => (e2 s hs).trans (u9 s hs)
    obtain ⟨o', f1, f2, f3, f4, f5, nd', op', p2, w1, w2, w3⟩ := R_bestMove_q hg rc.1 (sz := sz') (fun x hx hx2 => (l2.2.2 x hx hx2).2.2) u u1 u2 p' hRp (t.1 14) (t.1 18) (t.1 19) (t.1 20) (t.1 21) (t.1 22) (t.1 23) (t.2.1 6) (t.2.1 7) N (by omega)
    obtain ⟨n, hn, hn1, hn2⟩ := qitr_end (g := σ.1.1.1) u1
    obtain ⟨cpp, cps, c1, c2⟩ := P_copy_q (qi (qts u)) (qi (qtn u).length) (s.1 37) (s.1 38) (s.2.1 33) (s.2.1 34) (s.2.1 25) (s.2.1 26)
    obtain ⟨wr, wj, mr', mj', sp', cp2, li2, ri2, sz2, wp', ws', mp', ms', j1, j2, j3⟩ := J_steps_core hg u u1 u2 n hn hn1 hn2 hj.1 hs cpp cps (qat_7 u1 u7 c2) (s.1 39) (s.1 40) (s.2.1 5) (s.2.1 27) (s.2.1 28) (qi (qts u)) (qi (qtn u).length) (s.2.1 33) (s.2.1 34) N hN
    obtain ⟨o2, nm, g1, g2, g3, g4, g5, nd2, op2, p3, s1⟩ := R_steps_core hg rc.1 (sz := sz') (fun x hx hx2 => (l2.2.2 x hx hx2).2.2) u u1 u2 n hn hn1 hn2 0 o' f1 f2 f3 f4 f5 bc' bx' bp' cp' con' nd' op' p2 w2 w3 N hN
    refine qYesJ σ (qi n) ?_ ?_
    · unfold sJ_steps J_steps
      rw [if_pos u10, u5, u6, c1, db_some]
      dsimp only
      have j1' := j1
      rw [show (qi 0 : Int32) = (0 : Int32) from rfl] at j1'
      rw [j1', db_some]
      exact ⟨_, rfl, ⟨hc, hj, hl, hb, hf, hp⟩, hh, Or.inr ⟨rfl, rfl, rfl, j2, j3⟩, qJp_kn hpp, hb0, hb1, hi⟩
    · unfold sR_steps R_steps
      rw [q_dn, u8', if_neg u11, l1, db_some]
      dsimp only
      rw [e1, db_some, w1, db_some]
      dsimp only
      have s1' := s1
      rw [show (qi 0 : Int32) = (0 : Int32) from rfl] at s1'
      unfold qnk at s1'
      rw [s1', db_some]
      exact ⟨_, rfl, hR⟩
