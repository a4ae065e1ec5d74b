theorem q_rootpart (u : Qt) : ((qtn u).length = 0 ∧ qpf u (qts u) = 0) ∨ (qtn u).length ≠ 0 ∧ (qtn u)[0]? = some (qts u, qpf u (qts u)) := by
  cases u with
  | var r => exact Or.inl ⟨rfl, rfl⟩
  | op a b => exact Or.inr ⟨by simp [qtn], by rw [qpf_root]; rfl⟩
theorem qq_greedy (σ : Qσ) (s : SJ) (t : SR) (hJ : qRelJ σ s) (hR : qRelR σ t) (N : Nat) (hN : 200000 < N) (x1 : Int32) : ∃ σ', qOk σ' (sJ_greedy N s x1) (sR_greedy N t x1) := by
  obtain ⟨⟨hc, hj, hl, hb, hf, hp⟩, hh, hs, hpp, hb0, hb1, hi⟩ := id hJ
  obtain ⟨⟨rc, r1, r2, r3, r4⟩, rh, ri⟩ := id hR
  have hg := hc.1
  have h8 := hg.1
  have h2p := q2p _ h8
  have hn : (s.1 41) = qi (qn σ.1.1.1) := hj.1.1
  have rn : (t.2.1 0) (0 : Int32).toNatClampNeg = qi (qn σ.1.1.1) := rc.1.1
  by_cases c0 : qn σ.1.1.1 = 0
  · refine qYesJ σ (-1) ?_ ?_
    · unfold sJ_greedy J_greedy
      rw [if_pos (by rw [hn, c0]; rfl)]
      exact ⟨_, rfl, hJ⟩
    · unfold sR_greedy R_greedy R_greedy_26
      rw [if_pos (by rw [rn, c0]; rfl)]
      exact ⟨_, rfl, hR⟩
  · have n0 : ¬ qi (qn σ.1.1.1) = 0 := fun h => c0 (qi_inj (by omega) (by omega) h)
    obtain ⟨kcp, kli, kri, ksz, k1, k2, k3⟩ := J_knownSets_q hg hj.1 hs N (by omega)
    obtain ⟨bc', bx', bp', cp', con', sz', l1, l2⟩ := R_lays_q hg rc.1 (t.2.2 0) (t.2.1 1) (t.2.1 2) (t.2.1 3) (t.2.1 4) (t.2.2 1) N (by omega)
    obtain ⟨u, u1, u2, u3, m', pf', ps', pa', sp', m1, m2⟩ := A_mergeAll_q hg (by omega) k2 k3 (pa := (s.2.1 6)) (sp := (s.2.1 7)) (s.1 7) (s.1 8) (s.1 9) N (by omega)
    obtain ⟨u', v1, tm', pp', tr', v2, v3⟩ := R_partsOfGreedy_q hg (by omega) rc.1 (p := (t.2.1 9)) (tr := (t.2.1 14)) (sz := sz') (fun x hx hx2 => (l2.2.2 x hx hx2).2.2) (t.1 17) N (by omega)
    have huu : u' = u := qchain_det _ _ _ _ _ (qini_fo _ h8) (List.Perm.refl _) v1 u3
    subst huu
    have ul : qts u' < 2 ^ qn σ.1.1.1 := by rw [u2]; exact Nat.sub_lt (by omega) (by omega)
    have ut := qts_lt u' u1
    have ev : R_everything (t.2.1 0) = qi (qts u') := by rw [R_everything_q hg rc.1.1, u2]
    obtain ⟨pt', st2, t1, t2⟩ := P_take_q u' u1 sp' (s.2.1 25) (s.2.1 26) (s.1 37) (s.1 38) m2
    have ri3 : R_in x1.toInt64 (0 : Int64) (2 : Int64) = qi (qin 0 2 x1).toNat := R_in_x x1 0 2
    have sc := S_costOf_q hg k3 u' u1 ul st2 pt' t2 (qts u') N (by omega)
    have sx := S_crossesOf_q hg k2 u' u1 ul st2 pt' t2 N (by omega)
    have rco := R_costOfParts_q hg (sz := sz') u' u1 ul (fun x hx hx2 => (l2.2.2 x hx hx2).2.2) v3 (qts u') N (by omega)
    have rcx := R_crossesOfParts_q hg rc.1 u' u1 v3 N (by omega)
    have hq := q_rootpart u'
    refine qYesJ σ (if x1 = 0 then ql (qco σ.1.1.1 (qts u') u') else if x1 = 1 then (qi (qcr σ.1.1.1 u')).toInt64 else if x1 = 2 then (qi (qpf u' (qts u'))).toInt64 else -1) ?_ ?_
    · unfold sJ_greedy J_greedy
      rw [if_neg (show ¬ (s.1 41) = 0 by rw [hn]; exact n0), k1, db_some]
      dsimp only
      rw [← hn] at m1
      rw [m1, db_some]
      dsimp only
      rw [show G_all (s.1 41) = qi (qts u') by rw [hn, G_all_x _ h8, u2], t1, db_some]
      dsimp only
      rw [sc, sx, db_some, db_some]
      by_cases d0 : x1 = 0
      · rw [if_pos d0, if_pos d0]
        exact ⟨_, rfl, ⟨hc, hj, hl, hb, hf, hp⟩, hh, Or.inr ⟨rfl, rfl, rfl, k2, k3⟩, qJp_kn hpp, hb0, hb1, hi⟩
      · rw [if_neg d0, if_neg d0]
        by_cases d1 : x1 = 1
        · rw [if_pos d1, if_pos d1]
          exact ⟨_, rfl, ⟨hc, hj, hl, hb, hf, hp⟩, hh, Or.inr ⟨rfl, rfl, rfl, k2, k3⟩, qJp_kn hpp, hb0, hb1, hi⟩
        · rw [if_neg d1, if_neg d1]
          by_cases d2 : x1 = 2
          · rw [if_pos d2, if_pos d2]
            rcases hq with ⟨q1, q2⟩ | ⟨q1, q2⟩
            · rw [if_pos (by rw [q1]; rfl), q2]
              exact ⟨_, rfl, ⟨hc, hj, hl, hb, hf, hp⟩, hh, Or.inr ⟨rfl, rfl, rfl, k2, k3⟩, qJp_kn hpp, hb0, hb1, hi⟩
            · have hle := qtn_le u' u1
              rw [if_neg (show ¬ qi (qtn u').length = 0 from fun h => q1 (qi_inj (by omega) (by omega) h)), show pt' (0 : Int32).toNatClampNeg = qi (qpf u' (qts u')) from (t2 0 _ q2).2]
              exact ⟨_, rfl, ⟨hc, hj, hl, hb, hf, hp⟩, hh, Or.inr ⟨rfl, rfl, rfl, k2, k3⟩, qJp_kn hpp, hb0, hb1, hi⟩
          · rw [if_neg d2, if_neg d2]
            exact ⟨_, rfl, ⟨hc, hj, hl, hb, hf, hp⟩, hh, Or.inr ⟨rfl, rfl, rfl, k2, k3⟩, qJp_kn hpp, hb0, hb1, hi⟩
    · unfold sR_greedy R_greedy R_greedy_26
      rw [if_neg (show ¬ (t.2.1 0) (0 : Int32).toNatClampNeg = 0 by rw [rn]; exact n0), ri3]
      cases c3 : qin 0 2 x1 with
      | false =>
        rw [if_pos (show qi false.toNat = 0 from rfl)]
        have n3 : ¬ (x1 = 0 ∨ x1 = 1 ∨ x1 = 2) := fun h => absurd ((q_in02 x1).mpr h) (by rw [c3]; decide)
        rw [if_neg (fun h => n3 (Or.inl h)), if_neg (fun h => n3 (Or.inr (Or.inl h))), if_neg (fun h => n3 (Or.inr (Or.inr h)))]
        exact ⟨_, rfl, hR⟩
      | true =>
        rw [if_neg (show ¬ qi true.toNat = 0 by decide), l1, db_some]
        dsimp only
        rw [v2, db_some]
        dsimp only
        rw [ev, rco, rcx, db_some, db_some, dk_t ((qi_inb _ 256 (by omega)).mpr ut.1), qi_nat _ (by omega), v3 _ ut.1]
        rcases (q_in02 x1).mp c3 with rfl | rfl | rfl
        · exact ⟨_, rfl, hR⟩
        · exact ⟨_, rfl, hR⟩
        · exact ⟨_, rfl, hR⟩
def qThrE (edg x1 x2 : Int32) : Prop := G_hasEdge edg x1 = 0 ∨ (¬ G_hasEdge edg x1 = 0 ∧ ¬ x2 = 0 ∧ ¬ x2 = 1 ∧ ¬ x2 = 2)
theorem qq_edge (σ : Qσ) (s : SJ) (t : SR) (hJ : qRelJ σ s) (hR : qRelR σ t) (N : Nat) (hN : 200000 < N) (x1 x2 : Int32) :
    (∃ v t', sJ_edge s x1 x2 = some (v, s) ∧ sR_edge t x1 x2 = some (v, t') ∧ t'.1 0 = 0 ∧ qRelR σ t') ∨
    (qThrE (s.1 42) x1 x2 ∧ ∃ v t', sR_edge t x1 x2 = some (v, t') ∧ t'.1 0 = 1 ∧ qRelR σ t') := by
  obtain ⟨⟨hc, hj, hl, hb, hf, hp⟩, hh, hs, hpp, hb0, hb1, hi⟩ := id hJ
  obtain ⟨⟨rc, r1, r2, r3, r4⟩, rh, ri⟩ := id hR
  have hg := hc.1
  have h16 := hg.2.1
  have hm : (s.1 42) = qi (qm σ.1.1.1) := hj.1.2.1
  have gh : G_hasEdge (s.1 42) x1 = qi (qin 0 ((qm σ.1.1.1 : Int) - 1) x1).toNat := by rw [hm]; exact G_hasEdge_x _ (by omega) _
  have rs := R_isEdge_x (t.2.1 0) _ rc.1.2.1 (by omega) x1
  have ri3 : R_in x2.toInt64 (0 : Int64) (2 : Int64) = qi (qin 0 2 x2).toNat := R_in_x x2 0 2
  cases c1 : qin 0 ((qm σ.1.1.1 : Int) - 1) x1 with
  | false =>
    rw [c1] at gh rs
    refine Or.inr ⟨Or.inl (by rw [gh]; rfl), ?_⟩
    unfold sR_edge R_edge R_edge_25 R_edge_26
    rw [rs, db_some, if_pos (show qi false.toNat = 0 from rfl), if_neg (show ¬ (1 : Int32) ≤ 0 by decide)]
    exact ⟨_, _, rfl, rfl, hR⟩
  | true =>
    rw [c1] at gh rs
    have gn : ¬ G_hasEdge (s.1 42) x1 = 0 := by rw [gh]; decide
    obtain ⟨e, he, rfl⟩ := q_edge_ix h16 c1
    cases c3 : qin 0 2 x2 with
    | false =>
      have n3 : ¬ (x2 = 0 ∨ x2 = 1 ∨ x2 = 2) := fun h => absurd ((q_in02 x2).mpr h) (by rw [c3]; decide)
      rw [c3] at ri3
      refine Or.inr ⟨Or.inr ⟨gn, fun h => n3 (Or.inl h), fun h => n3 (Or.inr (Or.inl h)), fun h => n3 (Or.inr (Or.inr h))⟩, ?_⟩
      unfold sR_edge R_edge R_edge_25 R_edge_26
      rw [rs, db_some, if_neg (show ¬ qi true.toNat = 0 by decide), ri3, if_pos (show qi false.toNat = 0 from rfl), if_neg (show ¬ (1 : Int32) ≤ 0 by decide)]
      exact ⟨_, _, rfl, rfl, hR⟩
    | true =>
      rw [c3] at ri3
      have tn : (qi e).toNatClampNeg = e := qi_nat _ (by omega)
      have je := hj.1.2.2.2.2 e he
      have re := rc.1.2.2.2.2 e he
      have ix : ∀ d, (10 : Int32) + (3 : Int32) * qi e + qi d = qi (10 + 3 * e + d) := by
        intro d
        rw [show (10 : Int32) = qi 10 from rfl, show (3 : Int32) = qi 3 from rfl, qi_mul, qi_add, qi_add]
      have Rv : ∀ d, d ≤ 2 → ∀ v, (t.2.1 0) (10 + 3 * e + d) = v → R_edge (t.1 0) (t.2.1 0) (qi e) (qi d) = some (v, 0) := by
        intro d hd v hv
        have r3 : R_in (qi d).toInt64 (0 : Int64) (2 : Int64) = qi true.toNat := by
          rw [show R_in (qi d).toInt64 (0 : Int64) (2 : Int64) = qi (qin 0 2 (qi d)).toNat from R_in_x (qi d) 0 2, qin_i 0 2 d (by omega), show (decide ((0 : Int) ≤ (d : Int)) && decide ((d : Int) ≤ 2)) = true by rw [Bool.and_eq_true]; exact ⟨decide_eq_true (by omega), decide_eq_true (by omega)⟩]
        unfold R_edge R_edge_26
        rw [rs, db_some, if_neg (show ¬ qi true.toNat = 0 by decide), r3, if_neg (show ¬ qi true.toNat = 0 by decide), if_pos (show (0 : Int32) ≤ 0 by decide), ix d, dk_t ((qi_inb _ 1276 (by omega)).mpr (by omega)), qi_nat _ (by omega), hv]
      refine Or.inl ?_
      rcases (q_in02 x2).mp c3 with rfl | rfl | rfl
      · refine ⟨qi (qle σ.1.1.1 e), (va_up t.1 0 0, t.2.1, t.2.2), ?_, ?_, rfl, hR⟩
        · unfold sJ_edge J_edge
          rw [if_neg gn, if_pos (show (0 : Int32) = 0 from rfl), dk_t ((qi_inb e 16 (by omega)).mpr (by omega)), tn, je.1]
          rfl
        · unfold sR_edge
          have r0 : R_edge (t.1 0) (t.2.1 0) (qi e) (0 : Int32) = _ := Rv 0 (by omega) _ re.1
          rw [r0]
          rfl
      · refine ⟨qi (qri σ.1.1.1 e), (va_up t.1 0 0, t.2.1, t.2.2), ?_, ?_, rfl, hR⟩
        · unfold sJ_edge J_edge
          rw [if_neg gn, if_neg (show ¬ (1 : Int32) = 0 by decide), if_pos (show (1 : Int32) = 1 from rfl), dk_t ((qi_inb e 16 (by omega)).mpr (by omega)), tn, je.2.1]
          rfl
        · unfold sR_edge
          have r0 : R_edge (t.1 0) (t.2.1 0) (qi e) (1 : Int32) = _ := Rv 1 (by omega) _ re.2.1
          rw [r0]
          rfl
      · refine ⟨qi (qby σ.1.1.1 e), (va_up t.1 0 0, t.2.1, t.2.2), ?_, ?_, rfl, hR⟩
        · unfold sJ_edge J_edge
          rw [if_neg gn, if_neg (show ¬ (2 : Int32) = 0 by decide), if_neg (show ¬ (2 : Int32) = 1 by decide), if_pos (show (2 : Int32) = 2 from rfl), dk_t ((qi_inb e 16 (by omega)).mpr (by omega)), tn, je.2.2]
          rfl
        · unfold sR_edge
          have r0 : R_edge (t.1 0) (t.2.1 0) (qi e) (2 : Int32) = _ := Rv 2 (by omega) _ re.2.2
          rw [r0]
          rfl
theorem R_laysNodes_0 (p : Nat → Int32) (hp : p 0 = qi 0) (o n : Int32) (nd op : Nat → Int32) (N : Nat) (hN : 300 < N) : ∃ op', R_laysNodes N o n nd op p (qi 0) = some (qi 0, qi 0, nd, op') := by
  obtain ⟨M, rfl⟩ : ∃ M, N = M + 2 := ⟨N - 2, by omega⟩
  refine ⟨upd op 0 (qi 0), ?_⟩
  unfold R_laysNodes R_laysNodes_17
  rw [q_dn]
  have b1 : R_laysNodes_b17 (M + 2) (1 : Int32) (0 : Int32) nd (upd op 0 (qi 0)) p = some (Sum.inl (0, 0, nd, upd op 0 (qi 0))) := by
    unfold R_laysNodes_b17
    rw [if_neg (show ¬ (1 : Int32) ≤ 0 by decide), q_dn, dk_t (show inb ((1 : Int32) - 1) 502 by decide), q_dn]
    have e : upd op 0 (qi 0) ((1 : Int32) - 1).toNatClampNeg = qi 0 := rfl
    rw [e, dk_t (show inb (qi 0) 256 by decide), if_pos (show p (qi 0).toNatClampNeg ≤ 0 by rw [show p (qi 0).toNatClampNeg = qi 0 from hp]; decide)]
    rfl
  have b2 : R_laysNodes_b17 (M + 2) (0 : Int32) (0 : Int32) nd (upd op 0 (qi 0)) p = some (Sum.inr (0, 0, nd, upd op 0 (qi 0))) := by
    unfold R_laysNodes_b17
    rw [if_pos (show (0 : Int32) ≤ 0 by decide)]
  have l : lp (fun x : Int32 × Int32 × (Nat → Int32) × (Nat → Int32) => R_laysNodes_b17 (M + 2) x.1 x.2.1 x.2.2.1 x.2.2.2 p) (M + 2) (1, 0, nd, upd op 0 (qi 0)) = some (0, 0, nd, upd op 0 (qi 0)) := by
    rw [lp, b1]
    dsimp only
    rw [lp, b2]
  have e0 : upd op (0 : Int32).toNatClampNeg (qi 0) = upd op 0 (qi 0) := rfl
  rw [e0, l]
  rfl
theorem q_in04 (x : Int32) : qin 0 4 x = true ↔ x = 0 ∨ x = 1 ∨ x = 2 ∨ x = 3 ∨ x = 4 := by
  constructor
  · intro h
    obtain ⟨v, v1, v2, rfl⟩ := qin_t (lo := 0) (hi := 4) h (by omega)
    match v, v2 with
    | 0, _ => exact Or.inl rfl
    | 1, _ => exact Or.inr (Or.inl rfl)
    | 2, _ => exact Or.inr (Or.inr (Or.inl rfl))
    | 3, _ => exact Or.inr (Or.inr (Or.inr (Or.inl rfl)))
    | 4, _ => exact Or.inr (Or.inr (Or.inr (Or.inr rfl)))
  · rintro (rfl | rfl | rfl | rfl | rfl) <;> decide
def qThrN (ro jo x1 x2 : Int32) : Prop := (¬ P_isNone ro = 0) ∨ (P_isNone ro = 0 ∧ x1 < 0) ∨ (P_isNone ro = 0 ∧ ¬ x1 < 0 ∧ ¬ x1 < jo) ∨ (P_isNone ro = 0 ∧ ¬ x1 < 0 ∧ x1 < jo ∧ ¬ x2 = 0 ∧ ¬ x2 = 1 ∧ ¬ x2 = 2 ∧ ¬ x2 = 3 ∧ ¬ x2 = 4)
theorem qq_node (σ : Qσ) (s : SJ) (t : SR) (hJ : qRelJ σ s) (hR : qRelR σ t) (N : Nat) (hN : 200000 < N) (x1 x2 : Int32) :
    (∃ v s' t', sJ_node N s x1 x2 = some (v, s') ∧ sR_node N t x1 x2 = some (v, t') ∧ t'.1 0 = 0 ∧ qRelJ σ s' ∧ qRelR σ t') ∨
    (qThrN (s.1 44) (s.1 45) x1 x2 ∧ ∃ v t', sR_node N t x1 x2 = some (v, t') ∧ t'.1 0 = 1 ∧ qRelR σ t') := by
  obtain ⟨⟨hc, hj, hl, hb, hf, hp⟩, hh, hs, hpp, hb0, hb1, hi⟩ := id hJ
  obtain ⟨⟨rc, r1, r2, r3, r4⟩, rh, ri⟩ := id hR
  have hg := hc.1
  have h8 := hg.1
  have h2p := q2p _ h8
  obtain ⟨bc', bx', bp', cp', con', sz', l1, l2⟩ := R_lays_q hg rc.1 (t.2.2 0) (t.2.1 1) (t.2.1 2) (t.2.1 3) (t.2.1 4) (t.2.2 1) N (by omega)
  obtain ⟨p', e1, e2⟩ := R_takesPlan_q (t.2.1 0) (t.2.1 9) N (by omega)
  have ri3 : R_in x2.toInt64 (0 : Int64) (4 : Int64) = qi (qin 0 4 x2).toNat := R_in_x x2 0 4
  rcases q_plan hc hj.2 rc with ⟨u1, u2, u3, u4, u5⟩ | ⟨u, u0, u1, u2, u3, u4, u5, u6, u7, u8, u9, u10, u11⟩
  · have u3' : (t.2.1 0) (59 : Int32).toNatClampNeg = qi 0 := u3
    obtain ⟨op', n1⟩ := R_laysNodes_0 p' ((e2 0 (by omega)).trans (u5 0 (by omega))) (t.1 14) (t.1 18) (t.2.1 6) (t.2.1 7) N (by omega)
    have ri : R_in x1.toInt64 (0 : Int64) ((qi 0 - (1 : Int32)).toInt64) = 0 := by
      rw [R_in_x, qi_pred 0 (by omega)]
      unfold qin
      have : (decide ((0 : Int64).toInt ≤ x1.toInt) && decide (x1.toInt ≤ ((0 : Nat) : Int) - 1)) = false := by
        rw [show (0 : Int64).toInt = 0 from rfl]
        by_cases k : (0 : Int) ≤ x1.toInt
        · rw [decide_eq_false (show ¬ x1.toInt ≤ ((0 : Nat) : Int) - 1 by omega), Bool.and_false]
        · rw [decide_eq_false k, Bool.false_and]
      rw [this]
      rfl
    refine Or.inr ⟨Or.inl u4, ?_⟩
    unfold sR_node R_node R_node_52 R_node_53
    rw [l1, db_some]
    dsimp only
    rw [e1, db_some, u3', n1, db_some]
    dsimp only
    rw [if_pos ri, if_neg (show ¬ (1 : Int32) ≤ 0 by decide)]
    exact ⟨_, _, rfl, rfl, hR⟩
  · have u8' : (t.2.1 0) (59 : Int32).toNatClampNeg = qi (qts u) := u8
    have hRp : qRp u p' := fun s hs => (e2 s hs).trans (u9 s hs)
    obtain ⟨nd', op', w1, w2⟩ := R_laysNodes_q u u1 p' hRp (t.1 14) (t.1 18) (t.2.1 6) (t.2.1 7) N (by omega)
    have hle := qtn_le u u1
    have rin : R_in x1.toInt64 (0 : Int64) ((qi (qtn u).length - (1 : Int32)).toInt64) = qi (qin 0 (((qtn u).length : Int) - 1) x1).toNat := by
      rw [R_in_x, qi_pred _ (by omega)]
      rfl
    have gi : G_hasRelation (qi (qtn u).length) x1 = qi (qin 0 (((qtn u).length : Int) - 1) x1).toNat := G_hasRelation_x _ (by omega) x1
    cases c2 : qin 0 (((qtn u).length : Int) - 1) x1 with
    | false =>
      rw [c2] at rin gi
      refine Or.inr ⟨?_, ?_⟩
      · by_cases c3 : x1 < 0
        · exact Or.inr (Or.inl ⟨u10, c3⟩)
        · refine Or.inr (Or.inr (Or.inl ⟨u10, c3, ?_⟩))
          rw [u6]
          intro h
          unfold G_hasRelation at gi
          rw [if_neg c3, if_neg (Int32.not_le.mpr h)] at gi
          exact absurd gi (by decide)
      · unfold sR_node R_node R_node_52 R_node_53
        rw [l1, db_some]
        dsimp only
        rw [e1, db_some, u8', w1, db_some]
        dsimp only
        rw [rin, if_pos (show qi false.toNat = 0 from rfl), if_neg (show ¬ (1 : Int32) ≤ 0 by decide)]
        exact ⟨_, _, rfl, rfl, hR⟩
    | true =>
      rw [c2] at rin gi
      obtain ⟨k, hk, rfl⟩ := q_edge_ix (m := (qtn u).length) (by omega) c2
      have k0 : ¬ qi k < 0 := fun h => absurd ((qi_lt k 0 (by omega) (by omega)).mp h) (by omega)
      have kj : qi k < (s.1 45) := by rw [u6]; exact (qi_lt _ _ (by omega) (by omega)).mpr hk
      cases c3 : qin 0 4 x2 with
      | false =>
        have n3 : ¬ (x2 = 0 ∨ x2 = 1 ∨ x2 = 2 ∨ x2 = 3 ∨ x2 = 4) := fun h => absurd ((q_in04 x2).mpr h) (by rw [c3]; decide)
        rw [c3] at ri3
        refine Or.inr ⟨Or.inr (Or.inr (Or.inr ⟨u10, k0, kj, fun h => n3 (Or.inl h), fun h => n3 (Or.inr (Or.inl h)), fun h => n3 (Or.inr (Or.inr (Or.inl h))), fun h => n3 (Or.inr (Or.inr (Or.inr (Or.inl h)))), fun h => n3 (Or.inr (Or.inr (Or.inr (Or.inr h))))⟩)), ?_⟩
        unfold sR_node R_node R_node_52 R_node_53
        rw [l1, db_some]
        dsimp only
        rw [e1, db_some, u8', w1, db_some]
        dsimp only
        rw [rin, if_neg (show ¬ qi true.toNat = 0 by decide), ri3, if_pos (show qi false.toNat = 0 from rfl), if_neg (show ¬ (1 : Int32) ≤ 0 by decide)]
        exact ⟨_, _, rfl, rfl, hR⟩
      | true =>
        rw [c3] at ri3
        have gk : (qtn u)[k]? = some (qtn u)[k] := List.getElem?_eq_getElem hk
        obtain ⟨z, hz⟩ : ∃ z, z = (qtn u)[k] := ⟨_, rfl⟩
        rw [← hz] at gk
        have zm : z ∈ qtn u := by rw [hz]; exact List.getElem_mem hk
        have zs := qtn_sub u u1 z zm
        have zp := qpf_mem u u1 z zm
        have za := qparts_all zs.2.2.1 zs.2.2.2.1
        have zl : z.1 < 2 ^ qn σ.1.1.1 := Nat.lt_of_le_of_lt (q_sub_le zs.1) u2
        have tn : (qi k).toNatClampNeg = k := qi_nat _ (by omega)
        have tz : (qi z.1).toNatClampNeg = z.1 := qi_nat _ (by omega)
        have js : (s.2.1 34) k = qi z.1 := by have := (u7 k z gk).1; rw [Nat.zero_add] at this; exact this
        have jp : (s.2.1 33) k = qi z.2 := by have := (u7 k z gk).2; rw [Nat.zero_add] at this; exact this
        have rd : nd' k = qi z.1 := w2 k z.1 (by unfold qns; rw [List.getElem?_map, gk]; rfl)
        have rp : p' z.1 = qi z.2 := by rw [hRp _ zs.2.2.1, zp]
        obtain ⟨kcp, kli, kri, ksz, k1, k2, k3⟩ := J_knownSets_q hg hj.1 hs N (by omega)
        have ksz' : ksz z.1 = ql (qsz σ.1.1.1 z.1) := (k3 z.1 zl).2
        have rsz : sz' z.1 = ql (qsz σ.1.1.1 z.1) := (l2.2.2 z.1 zs.2.1 zl).2.2
        have sc := S_costOf_q hg k3 u u1 u2 (s.2.1 34) (s.2.1 33) u7 z.1 N (by omega)
        have rco := R_costOfParts_q hg (sz := sz') u u1 u2 (fun x hx hx2 => (l2.2.2 x hx hx2).2.2) hRp z.1 N (by omega)
        have sj := S_areJoined_q hg k2 z.2 (z.1 ^^^ z.2) (by omega) (by omega)
        have rj := R_isJoined_q hg rc.1 z.2 (z.1 ^^^ z.2) N (by omega)
        have rx : qi z.1 &&& (qi z.2 ^^^ (-1 : Int32)) = qi (z.1 ^^^ z.2) := by rw [← q_and_xor za.2.2.1]; exact qi_not _ _
        have RN : ∀ v, R_node_53 N (t.1 0) (qi 0) (qi (qtn u).length) (t.2.1 0) bc' bx' bp' cp' con' nd' op' p' sz' (qi k) x2 0 = some (v, 0, qi 0, qi (qtn u).length, bc', bx', bp', cp', con', nd', op', p', sz') →
            ∃ t', sR_node N t (qi k) x2 = some (v, t') ∧ t'.1 0 = 0 ∧ qRelR σ t' := by
          intro v hv
          unfold sR_node R_node
          rw [l1, db_some]
          dsimp only
          rw [e1, db_some, u8', w1, db_some]
          dsimp only
          rw [rin, if_neg (show ¬ qi true.toNat = 0 by decide), ri3, if_neg (show ¬ qi true.toNat = 0 by decide), hv, db_some]
          exact ⟨_, rfl, rfl, hR⟩
        have JK : ∀ v : Int64, (∃ s', db (some (v, qi 1, qi (qcc σ.1.1.1), qi (2 ^ qn σ.1.1.1), kcp, kli, kri, ksz)) (fun r => some (r.1, ((va_up (va_up (va_up s.1 21 (r.2.1)) 23 (r.2.2.1)) 26 (r.2.2.2.1)), (va_up (va_up (va_up s.2.1 11 (r.2.2.2.2.1)) 12 (r.2.2.2.2.2.1)) 14 (r.2.2.2.2.2.2.1)), (va_up s.2.2.1 2 (r.2.2.2.2.2.2.2)), s.2.2.2.1, s.2.2.2.2))) = some (v, s') ∧ qRelJ σ s') := by
          intro v
          exact ⟨_, rfl, ⟨hc, hj, hl, hb, hf, hp⟩, hh, Or.inr ⟨rfl, rfl, rfl, k2, k3⟩, qJp_kn hpp, hb0, hb1, hi⟩
        have inb7 : inb (qi k) 7 := (qi_inb k 7 (by omega)).mpr (by omega)
        have inz : inb (qi z.1) 256 := (qi_inb _ 256 (by omega)).mpr (by omega)
        have fin : ∀ v, (∃ s', sJ_node N s (qi k) x2 = some (v, s') ∧ qRelJ σ s') → (∃ t', sR_node N t (qi k) x2 = some (v, t') ∧ t'.1 0 = 0 ∧ qRelR σ t') → ∃ v s' t', sJ_node N s (qi k) x2 = some (v, s') ∧ sR_node N t (qi k) x2 = some (v, t') ∧ t'.1 0 = 0 ∧ qRelJ σ s' ∧ qRelR σ t' := by
          rintro v ⟨s', a1, a2⟩ ⟨t', b1, b2, b3⟩
          exact ⟨v, s', t', a1, b1, b2, a2, b3⟩
        refine Or.inl ?_
        rcases (q_in04 x2).mp c3 with rfl | rfl | rfl | rfl | rfl
        · refine fin (qi z.1).toInt64 ?_ (RN _ ?_)
          · unfold sJ_node J_node
            rw [if_pos u10, if_neg k0, if_pos kj, if_pos (show (0 : Int32) = 0 from rfl), dk_t inb7, tn, js]
            exact ⟨_, rfl, hJ⟩
          · unfold R_node_53
            rw [if_pos (show (0 : Int32) ≤ 0 by decide), dk_t ((qi_inb k 8 (by omega)).mpr (by omega)), q_dn, tn, rd, if_pos (show (0 : Int32) = 0 from rfl)]
        · refine fin (qi z.2).toInt64 ?_ (RN _ ?_)
          · unfold sJ_node J_node
            rw [if_pos u10, if_neg k0, if_pos kj, if_neg (show ¬ (1 : Int32) = 0 by decide), if_pos (show (1 : Int32) = 1 from rfl), dk_t inb7, tn, jp]
            exact ⟨_, rfl, hJ⟩
          · unfold R_node_53
            rw [if_pos (show (0 : Int32) ≤ 0 by decide), dk_t ((qi_inb k 8 (by omega)).mpr (by omega)), q_dn, tn, rd, if_neg (show ¬ (1 : Int32) = 0 by decide), if_pos (show (1 : Int32) = 1 from rfl), dk_t inz, tz, rp]
        · refine fin (ql (qsz σ.1.1.1 z.1)) ?_ (RN _ ?_)
          · unfold sJ_node J_node
            rw [if_pos u10, if_neg k0, if_pos kj, if_neg (show ¬ (2 : Int32) = 0 by decide), if_neg (show ¬ (2 : Int32) = 1 by decide), if_pos (show (2 : Int32) = 2 from rfl), k1, db_some, dk_t inb7, tn, js, dk_t inz, tz]
            dsimp only
            rw [ksz']
            exact JK _
          · unfold R_node_53
            rw [if_pos (show (0 : Int32) ≤ 0 by decide), dk_t ((qi_inb k 8 (by omega)).mpr (by omega)), q_dn, tn, rd, if_neg (show ¬ (2 : Int32) = 0 by decide), if_neg (show ¬ (2 : Int32) = 1 by decide), if_pos (show (2 : Int32) = 2 from rfl), dk_t inz, tz, rsz]
        · refine fin (ql (qco σ.1.1.1 z.1 u)) ?_ (RN _ ?_)
          · unfold sJ_node J_node
            rw [if_pos u10, if_neg k0, if_pos kj, if_neg (show ¬ (3 : Int32) = 0 by decide), if_neg (show ¬ (3 : Int32) = 1 by decide), if_neg (show ¬ (3 : Int32) = 2 by decide), if_pos (show (3 : Int32) = 3 from rfl), k1, db_some, dk_t inb7, tn, js, u6]
            dsimp only
            rw [sc, db_some]
            exact JK _
          · unfold R_node_53
            rw [if_pos (show (0 : Int32) ≤ 0 by decide), dk_t ((qi_inb k 8 (by omega)).mpr (by omega)), q_dn, tn, rd, if_neg (show ¬ (3 : Int32) = 0 by decide), if_neg (show ¬ (3 : Int32) = 1 by decide), if_neg (show ¬ (3 : Int32) = 2 by decide), if_pos (show (3 : Int32) = 3 from rfl), rco, db_some]
        · refine fin (if qjn σ.1.1.1 z.2 (z.1 ^^^ z.2) then 0 else 1) ?_ (RN _ ?_)
          · unfold sJ_node J_node S_isCross
            rw [if_pos u10, if_neg k0, if_pos kj, if_neg (show ¬ (4 : Int32) = 0 by decide), if_neg (show ¬ (4 : Int32) = 1 by decide), if_neg (show ¬ (4 : Int32) = 2 by decide), if_neg (show ¬ (4 : Int32) = 3 by decide), if_pos (show (4 : Int32) = 4 from rfl), k1, db_some]
            dsimp only
            rw [dk_t inb7, tn, js, jp, qi_xor, sj, db_some]
            cases qjn σ.1.1.1 z.2 (z.1 ^^^ z.2) with
            | true =>
              rw [if_neg (show ¬ qi true.toNat = 0 by decide), db_some, if_pos (show (0 : Int32) = 0 from rfl)]
              exact JK _
            | false =>
              rw [if_pos (show qi false.toNat = 0 by decide), db_some, if_neg (show ¬ (1 : Int32) = 0 by decide)]
              exact JK _
          · unfold R_node_53
            rw [if_pos (show (0 : Int32) ≤ 0 by decide), dk_t ((qi_inb k 8 (by omega)).mpr (by omega)), q_dn, tn, rd, if_neg (show ¬ (4 : Int32) = 0 by decide), if_neg (show ¬ (4 : Int32) = 1 by decide), if_neg (show ¬ (4 : Int32) = 2 by decide), if_neg (show ¬ (4 : Int32) = 3 by decide), dk_t inz, tz, rp, rx, rj, db_some]
            cases qjn σ.1.1.1 z.2 (z.1 ^^^ z.2) with
            | true => rw [if_neg (show ¬ qi true.toNat = 0 by decide)]; rfl
            | false => rw [if_pos (show qi false.toNat = 0 by decide)]; rfl
