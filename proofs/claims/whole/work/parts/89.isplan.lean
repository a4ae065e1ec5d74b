theorem R_isPlan_q (b : Nat → Nat) (len : Nat) (tx : Nat → Int32) (hb : qtx' b len tx) (n : Nat) (hn : n ≤ 8) (all : Nat → Int32) (h0 : all 0 = qi n) (re be so si va : Int32) (wo : Int64) (wr : Int32) (op pl td : Nat → Int32) (hz : ∀ s, s < 256 → td (60 + s) = qi 0)
    (hA : qAt b len 0 re be so si va wo) (N : Nat) (hN2 : 2000 < N) :
    ∃ ok re' be' so' si' va' wo' wr' bt' ba' pi' od' jo' ha' op' pl' td', R_isPlan N re (qi len) be so si va wo wr (Int32.ofInt (-1)) (qi 0) (qi 0) (qi 0) (qi 0) (qi 0) all op pl tx td = some (ok, re', be', so', si', va', wo', wr', bt', ba', pi', od', jo', ha', op', pl', td') ∧
      ((ok = qi 0 ∧ (qPR b len n qP0 0).1 = 1 ∧ (qPR b len n qP0 0).2.1 = wr') ∨
       (ok = qi 1 ∧ ba' = qi (qPR b len n qP0 0).1 ∧ bt' = (qPR b len n qP0 0).2.1 ∧ (qPR b len n qP0 0).1 ≤ 4 ∧
        ((qPR b len n qP0 0).1 = 0 → ∃ t, (qPR b len n qP0 0).2.2 = [t] ∧ qtok t ∧ qts t < 2 ^ n ∧ pl' 0 = qi (qts t) ∧ (∀ s, s < 256 → td' (60 + s) = qi (qpf t s)) ∧ jo' = qi (qtn t).length))) := by
  have hb1 := hb.1
  have hN : 600 < N := by omega
  have key := qlp_dn (body := fun x : Int32 × Int32 × Int32 × Int32 × Int32 × Int64 × Int32 × Int32 × Int32 × Int32 × Int32 × Int32 × Int32 × (Nat → Int32) × (Nat → Int32) × (Nat → Int32) =>
      R_isPlan_b0 N x.1 (qi len) x.2.1 x.2.2.1 x.2.2.2.1 x.2.2.2.2.1 x.2.2.2.2.2.1 x.2.2.2.2.2.2.1 x.2.2.2.2.2.2.2.1 x.2.2.2.2.2.2.2.2.1 x.2.2.2.2.2.2.2.2.2.1 x.2.2.2.2.2.2.2.2.2.2.1 x.2.2.2.2.2.2.2.2.2.2.2.1 x.2.2.2.2.2.2.2.2.2.2.2.2.1 all x.2.2.2.2.2.2.2.2.2.2.2.2.2.1 x.2.2.2.2.2.2.2.2.2.2.2.2.2.2.1 tx x.2.2.2.2.2.2.2.2.2.2.2.2.2.2.2)
    (Inv := fun m x => ∃ τ p re be so si va wo bt ba jo ha op pl td, x = (re, be, so, si, va, wo, wr, bt, ba, qi τ.1.sum, qi (qdp τ.1), jo, ha, op, pl, td) ∧ m = len - p ∧ p ≤ len ∧ qPR b len n qP0 0 = qPR b len n τ p ∧ qAt b len p re be so si va wo ∧ qTp n τ p bt ba (qi τ.1.sum) ha jo pl td ∧ qopr op τ.1 ∧ qfl τ.1 = false)
    (Q := fun y => ∃ re' be' so' si' va' wo' wr' bt' ba' pi' od' jo' ha' op' pl' td',
      ((y = .inl (re', be', so', si', va', wo', wr', bt', ba', pi', od', jo', ha', op', pl', td') ∧ (qPR b len n qP0 0).1 = 1 ∧ (qPR b len n qP0 0).2.1 = wr') ∨
       (y = .inr (re', be', so', si', va', wo', wr', bt', ba', pi', od', jo', ha', op', pl', td') ∧ ∃ τ p, p ≤ len ∧ qPR b len n qP0 0 = qPR b len n τ p ∧ qAt b len p re' be' so' si' va' wo' ∧ qTp n τ p bt' ba' pi' ha' jo' pl' td' ∧ qdp τ.1 = 0 ∧ qhd τ.1 = 1)))
    ?_ len (re, be, so, si, va, wo, wr, Int32.ofInt (-1), qi 0, qi 0, qi 0, qi 0, qi 0, op, pl, td) ?_ N (by omega)
  · obtain ⟨y, e, re', be', so', si', va', wo', wr', bt', ba', pi', od', jo', ha', op', pl', td', q⟩ := key
    have pre : R_isPlan N re (qi len) be so si va wo wr (Int32.ofInt (-1)) (qi 0) (qi 0) (qi 0) (qi 0) (qi 0) all op pl tx td = R_isPlan_a0 N (qi len) all tx y := by
      unfold R_isPlan R_isPlan_0
      rw [e]; rfl
    rw [pre]
    rcases q with ⟨rfl, h1, h2⟩ | ⟨rfl, τ, p, hp, hR, hA, hT, hd, hh⟩
    · exact ⟨qi 0, re', be', so', si', va', wo', wr', bt', ba', pi', od', jo', ha', op', pl', td', rfl, .inl ⟨rfl, h1, h2⟩⟩
    · have hend := qks_end hA.2.2.1
      have hfull : qfl τ.1 = true := by
        unfold qfl
        rw [hd, if_pos rfl]
        exact decide_eq_true hh
      by_cases k0 : (qT b len p).1 = 0
      · have hc : qcs τ.1 (qT b len p).1 = true := by
          rw [k0]; unfold qcs
          rw [if_pos rfl, hfull, hd]; rfl
        have hres := qPR_eq b len n τ p hp
        rw [if_neg (by rw [hc]; decide), if_pos k0] at hres
        refine ⟨qi 1, re', be', so', si', va', wo', wr', bt', ba', pi', od', jo', ha', op', pl', td', ?_, .inr ⟨rfl, ?_⟩⟩
        · show R_isPlan_67 N re' (qi len) be' so' si' va' wo' wr' bt' ba' pi' od' jo' ha' all op' pl' tx td' = _
          unfold R_isPlan_67
          rw [if_pos (show so' = (0 : Int32) from hend.mpr k0)]
          rfl
        · rw [hR, hres]
          obtain ⟨d1, d2, d3, d4, _, d6, _, d8⟩ := hT
          rcases d8 with ⟨f0, g1, rfl, rfl, g4, g5, g6, g7, g8⟩ | ⟨f1, rfl, a, ha', rfl, hpl⟩
          · have eab : qpab n τ 0 (qT b len p).2.1 (qT b len p).2.2.1 = (τ.1, 0, Int32.ofInt (-1), τ.2.2.2.1, τ.2.2.2.2) := by
              unfold qpab
              rw [if_neg (by simp [f0])]
              rfl
            rw [eab]
            refine ⟨rfl, rfl, by show 0 ≤ 4; omega, fun _ => ?_⟩
            have hs1 : τ.1.sum = 1 := by
              cases hds : τ.1 with
              | nil => exact absurd hds d1.1
              | cons c r =>
                rw [hds] at hd hh
                have : r = [] := by
                  cases r with
                  | nil => rfl
                  | cons x y => simp [qdp] at hd
                subst this
                have : c = 1 := hh
                simp [this]
            have hl := g4.2.2.2.2
            rw [hs1] at hl
            obtain ⟨t, ht⟩ := List.length_eq_one_iff.mp hl
            rw [ht] at g5 g7 g8
            refine ⟨t, ht, g4.2.1.1 t (by rw [ht]; simp), ?_, g5.1, ?_, ?_⟩
            · have h1 := g4.2.2.1
              rw [ht] at h1
              have e1 : qun [t] = qts t ||| 0 := rfl
              rw [e1, Nat.or_zero] at h1
              rw [h1]; exact g4.2.2.2.1
            · intro s hs
              have := g7 s hs
              have this : td' (60 + s) = qi (qpf t s + 0) := this
              rw [Nat.add_zero] at this
              exact this
            · have this : jo' = qi ((qtn t).length + 0) := g8
              rw [Nat.add_zero] at this
              exact this
          · have eab : qpab n τ 0 (qT b len p).2.1 (qT b len p).2.2.1 = τ := by unfold qpab; rw [if_pos f1]
            rw [eab]
            exact ⟨rfl, hpl.symm, d2, fun h => absurd h f1⟩
      · have hc : qcs τ.1 (qT b len p).1 = false := by
          unfold qcs
          rw [hfull, hd]
          simp [k0]
        have hf := qPR_form (n := n) (τ := τ) hp hc
        refine ⟨qi 0, re', be', so', si', va', wo', qi (qT b len p).2.1, bt', ba', pi', od', jo', ha', op', pl', td', ?_, .inl ⟨rfl, by rw [hR]; exact hf.1, by rw [hR]; exact hf.2⟩⟩
        show R_isPlan_67 N re' (qi len) be' so' si' va' wo' wr' bt' ba' pi' od' jo' ha' all op' pl' tx td' = _
        unfold R_isPlan_67
        rw [if_neg (show ¬ (so' = (0 : Int32)) from fun e => k0 (hend.mp e)), hA.2.1]
        unfold R_fails
        rw [db_some]
        exact if_pos rfl
  · rintro m x ⟨τ, p, re, be, so, si, va, wo, bt, ba, jo, ha, op, pl, td, rfl, hm, hp, hR, hA, hT, ho, hf⟩
    have hle := qtk_le (qT_q b len p hp)
    have hDok := hT.1
    have hdp := hDok.2.1
    have hsg := (qks_sign hA.2.2.1).2.2.1
    by_cases k4 : (qT b len p).1 = 4
    · left
      have hse := hle.2.2.2.1 (by omega)
      have hc : qcs τ.1 (qT b len p).1 = true := by
        rw [k4]; unfold qcs
        rw [if_neg (by omega), if_pos (.inr rfl), hf]
        simp
        omega
      have hR1 := qPR_next (n := n) (τ := τ) hp hc (by omega)
      rw [k4] at hR1 hc
      obtain ⟨so1, si1, va1, wo1, et1, at1⟩ := R_tok_n b len tx hb p hp hA N hN
      have hds' : (qpgo (qpab n τ 4 (qT b len p).2.1 (qT b len p).2.2.1) 4).1 = 0 :: τ.1 := by
        show qpps (qpab n τ 4 (qT b len p).2.1 (qT b len p).2.2.1).1 4 = _
        rw [qpab_1]; rfl
      have hne := hDok.1
      have hlen : 0 < τ.1.length := List.length_pos_iff.mpr hne
      have hdp' : qdp (0 :: τ.1) = qdp τ.1 + 1 := by unfold qdp; simp; omega
      have ⟨s1, s2⟩ := hsg.mpr k4
      refine ⟨(qi (qT b len (qT b len p).2.2.2).2.2.2, qi (qT b len (qT b len p).2.2.2).2.1, so1, si1, va1, wo1, wr, bt, ba, qi (qpgo (qpab n τ 4 (qT b len p).2.1 (qT b len p).2.2.1) 4).1.sum, qi (qdp (qpgo (qpab n τ 4 (qT b len p).2.1 (qT b len p).2.2.1) 4).1), jo, ha, upd op (qdp τ.1) (qi 0), pl, td), len - (qT b len p).2.2.2, ?_,
        ⟨qpgo (qpab n τ 4 (qT b len p).2.1 (qT b len p).2.2.1) 4, (qT b len p).2.2.2, _, _, so1, si1, va1, wo1, bt, ba, jo, ha, upd op (qdp τ.1) (qi 0), pl, td, rfl, rfl, by omega, hR.trans hR1, at1, ?_, ?_, ?_⟩, by omega⟩
      · simp only []
        unfold R_isPlan_b0
        rw [if_pos (show so = (4 : Int32) from s1), if_pos (show si = (40 : Int32) from s2), et1, db_some]
        simp only []
        rw [dk_t ((qi_inb _ _ (by omega)).mpr (by omega)), q_dn, q_dn, qi_nat _ (by omega), show (1 : Int32) = qi 1 from rfl, qi_add, hds', hdp']
        rw [show (0 :: τ.1).sum = τ.1.sum by simp]
        rfl
      · obtain ⟨d1, d2, d3, d4, d5, d6, d7, d8⟩ := hT
        have D' := qDok_step (e := (qT b len p).2.2.2) d1 hc (by omega)
        have hpp : qpps τ.1 4 = 0 :: τ.1 := rfl
        rw [hpp] at D'
        have hs0 : (0 :: τ.1).sum = τ.1.sum := by simp
        refine ⟨by rw [hds']; exact D', ?_, by omega, d4, rfl, by rw [hds', hs0]; exact d6, d7, ?_⟩
        · show (qpab n τ 4 (qT b len p).2.1 (qT b len p).2.2.1).2.1 ≤ 4
          unfold qpab
          split
          · exact d2
          · show 0 ≤ 4; omega
        · rcases d8 with ⟨f0, g1, rfl, rfl, g4, g5, g6, g7, g8⟩ | ⟨f1, rfl, a, ha', rfl, hpl⟩
          · have eab : qpab n τ 4 (qT b len p).2.1 (qT b len p).2.2.1 = (τ.1, 0, Int32.ofInt (-1), τ.2.2.2.1, τ.2.2.2.2) := by
              unfold qpab
              rw [if_neg (by simp [f0])]
              rfl
            left
            show (qpab n τ 4 (qT b len p).2.1 (qT b len p).2.2.1).2.1 = 0 ∧ (qpab n τ 4 (qT b len p).2.1 (qT b len p).2.2.1).2.2.1 = _ ∧ _ ∧ _ ∧ qPok n (qpps (qpab n τ 4 (qT b len p).2.1 (qT b len p).2.2.1).1 4) (qpab n τ 4 (qT b len p).2.1 (qT b len p).2.2.1).2.2.2.1 (qpab n τ 4 (qT b len p).2.1 (qT b len p).2.2.1).2.2.2.2 ∧ qwsr pl (qpab n τ 4 (qT b len p).2.1 (qT b len p).2.2.1).2.2.2.1 ∧ ha = qi (qpab n τ 4 (qT b len p).2.1 (qT b len p).2.2.1).2.2.2.2 ∧ (∀ s, s < 256 → td (60 + s) = qi (qpfs (qpab n τ 4 (qT b len p).2.1 (qT b len p).2.2.1).2.2.2.1 s)) ∧ jo = qi (qnj' (qpab n τ 4 (qT b len p).2.1 (qT b len p).2.2.1).2.2.2.1)
            rw [eab]
            refine ⟨rfl, rfl, rfl, rfl, ?_, g5, g6, g7, g8⟩
            obtain ⟨w1, w2, w3, w4, w5⟩ := g4
            exact ⟨w1, w2, w3, w4, by show _ = (0 :: τ.1).sum; rw [hs0]; exact w5⟩
          · have eab : qpab n τ 4 (qT b len p).2.1 (qT b len p).2.2.1 = τ := by unfold qpab; rw [if_pos f1]
            right
            show (qpab n τ 4 (qT b len p).2.1 (qT b len p).2.2.1).2.1 ≠ 0 ∧ qi τ.2.1 = qi (qpab n τ 4 (qT b len p).2.1 (qT b len p).2.2.1).2.1 ∧ ∃ a', a' < (qT b len p).2.2.2 ∧ qi a = qi a' ∧ (qpab n τ 4 (qT b len p).2.1 (qT b len p).2.2.1).2.2.1 = qi a'
            rw [eab]
            exact ⟨f1, rfl, a, by omega, rfl, hpl⟩
      · rw [hds']
        refine ⟨fun _ => ?_, qopr_f τ.1 ho (fun i hi => upd_ne _ _ (by unfold qdp; omega))⟩
        show upd op (qdp τ.1) (qi 0) (τ.1.length - 1) = qi 0
        exact upd_self _ _ _
      · rw [hds']
        unfold qfl
        rw [hdp', if_neg (by omega)]
        rfl
    · -- a number must come
      have htn := R_takesNumber_q b len tx hb n all h0 p hp hA τ hf wr bt ba (qi τ.1.sum) ha jo pl td hT N hN
      have pre : R_isPlan_b0 N re (qi len) be so si va wo wr bt ba (qi τ.1.sum) (qi (qdp τ.1)) jo ha all op pl tx td = R_isPlan_44 N re (qi len) be so si va wo wr bt ba (qi τ.1.sum) (qi (qdp τ.1)) jo ha all op pl tx td := by
        unfold R_isPlan_b0
        by_cases c4 : so = (4 : Int32)
        · rw [if_pos c4, if_neg (show ¬ (si = (40 : Int32)) from fun e => k4 (hsg.mp ⟨c4, e⟩))]
        · rw [if_neg c4]
      by_cases k1 : (qT b len p).1 = 1
      · obtain ⟨hc, re1, be1, so1, si1, va1, wo1, bt1, ba1, pi1, ha1, pl1, et, at1, T1⟩ := htn.2 k1
        have hse := hle.2.2.2.1 (by omega)
        have hR1 := qPR_next (n := n) (τ := τ) hp (by rw [k1]; exact hc) (by omega)
        rw [k1] at hR1
        have hpi := T1.2.2.2.2.1
        obtain ⟨c, cs, hds⟩ : ∃ c cs, τ.1 = c :: cs := by
          cases hd : τ.1 with
          | nil => exact absurd hd hDok.1
          | cons c cs => exact ⟨c, cs, rfl⟩
        have hds1 : (qpgo (qpab n τ 1 (qT b len p).2.1 (qT b len p).2.2.1) 1).1 = (c + 1) :: cs := by
          show qpps (qpab n τ 1 (qT b len p).2.1 (qT b len p).2.2.1).1 1 = _
          rw [qpab_1, hds]; rfl
        have hdp1 : qdp (qpgo (qpab n τ 1 (qT b len p).2.1 (qT b len p).2.2.1) 1).1 = qdp τ.1 := by rw [hds1, hds]; rfl
        rw [hds] at ho
        rw [hpi] at T1
        obtain ⟨ok, re2, be2, so2, si2, va2, wo2, wr2, pi2, od2, jo2, op2, pl2, td2, ec, q⟩ := R_closes_q b len tx hb n (qpgo (qpab n τ 1 (qT b len p).2.1 (qT b len p).2.2.1) 1) (qT b len p).2.2.2 wr bt1 ba1 ha1 N hN2 re1 be1 so1 si1 va1 wo1 jo op pl1 td (by omega) at1 T1
          (by rw [hds1]; show 1 ≤ c + 1; omega) ⟨c + 1, cs, hds1, fun h => by rw [Nat.add_sub_cancel]; exact ho.1 h, ho.2⟩
        rw [hdp1] at ec
        have e44 : R_isPlan_44 N re (qi len) be so si va wo wr bt ba (qi τ.1.sum) (qi (qdp τ.1)) jo ha all op pl tx td =
            (if ok = (0 : Int32) then some (.inr (.inl (re2, be2, so2, si2, va2, wo2, wr2, bt1, ba1, pi2, od2, jo2, ha1, op2, pl2, td2))) else if (0 : Int32) < od2 then some (.inl (re2, be2, so2, si2, va2, wo2, wr2, bt1, ba1, pi2, od2, jo2, ha1, op2, pl2, td2)) else some (.inr (.inr (re2, be2, so2, si2, va2, wo2, wr2, bt1, ba1, pi2, od2, jo2, ha1, op2, pl2, td2)))) := by
          unfold R_isPlan_44
          rw [et, db_some]
          simp only []
          rw [if_neg (show ¬ (qi 1 = (0 : Int32)) by decide), hpi, ec, db_some]
        rcases q with ⟨rfl, h1, h2⟩ | ⟨rfl, rfl, τ2, p2, l1, l2, hR2, A2, T2, rfl, ho2, hf1, hf2⟩
        · right
          refine ⟨.inl (re2, be2, so2, si2, va2, wo2, wr2, bt1, ba1, pi2, od2, jo2, ha1, op2, pl2, td2), ?_, re2, be2, so2, si2, va2, wo2, wr2, bt1, ba1, pi2, od2, jo2, ha1, op2, pl2, td2, .inl ⟨rfl, by rw [hR, hR1]; exact h1, by rw [hR, hR1]; exact h2⟩⟩
          simp only []
          rw [pre, e44, if_pos (show qi 0 = (0 : Int32) from rfl)]
        · have hdp2 := T2.1.2.1
          have hpi2 := T2.2.2.2.2.1
          by_cases c0 : 0 < qdp τ2.1
          · left
            subst hpi2
            refine ⟨(re2, be2, so2, si2, va2, wo2, wr2, bt1, ba1, qi τ2.1.sum, qi (qdp τ2.1), jo2, ha1, op2, pl2, td2), len - p2, ?_, ⟨τ2, p2, re2, be2, so2, si2, va2, wo2, bt1, ba1, jo2, ha1, op2, pl2, td2, rfl, rfl, l2, hR.trans (hR1.trans hR2), A2, T2, ho2, hf1 c0⟩, by omega⟩
            simp only []
            rw [pre, e44, if_neg (show ¬ (qi 1 = (0 : Int32)) by decide), if_pos (show (0 : Int32) < qi (qdp τ2.1) from (qi_lt 0 _ (by omega) (by omega)).mpr c0)]
          · right
            refine ⟨.inr (re2, be2, so2, si2, va2, wo2, wr2, bt1, ba1, pi2, qi (qdp τ2.1), jo2, ha1, op2, pl2, td2), ?_, re2, be2, so2, si2, va2, wo2, wr2, bt1, ba1, pi2, qi (qdp τ2.1), jo2, ha1, op2, pl2, td2, .inr ⟨rfl, τ2, p2, l2, hR.trans (hR1.trans hR2), A2, T2, by omega, hf2 (by omega)⟩⟩
            simp only []
            rw [pre, e44, if_neg (show ¬ (qi 1 = (0 : Int32)) by decide), if_neg (show ¬ ((0 : Int32) < qi (qdp τ2.1)) from fun h => c0 ((qi_lt 0 _ (by omega) (by omega)).mp h))]
      · right
        have hc : qcs τ.1 (qT b len p).1 = false := by
          unfold qcs
          rw [hf]
          simp [k1, k4]
        have hfm := qPR_form (n := n) (τ := τ) hp hc
        refine ⟨.inl (re, be, so, si, va, wo, qi (qT b len p).2.1, bt, ba, qi τ.1.sum, qi (qdp τ.1), jo, ha, op, pl, td), ?_, re, be, so, si, va, wo, qi (qT b len p).2.1, bt, ba, qi τ.1.sum, qi (qdp τ.1), jo, ha, op, pl, td, .inl ⟨rfl, by rw [hR]; exact hfm.1, by rw [hR]; exact hfm.2⟩⟩
        simp only []
        rw [pre]
        unfold R_isPlan_44
        rw [htn.1 k1, db_some]
        simp only []
        rw [if_pos (show qi 0 = (0 : Int32) from rfl)]
  · refine ⟨qP0, 0, re, be, so, si, va, wo, Int32.ofInt (-1), qi 0, qi 0, qi 0, op, pl, td, rfl, by omega, by omega, rfl, hA, ?_, ⟨fun h => absurd rfl h, trivial⟩, by decide⟩
    refine ⟨⟨by decide, by decide, by decide, ?_, by decide, by decide⟩, by decide, by omega, hn, rfl, ?_, ⟨0, by omega, rfl⟩, .inl ⟨rfl, rfl, rfl, rfl, ⟨hn, ⟨fun u hu => (by cases hu), List.Pairwise.nil⟩, rfl, Nat.two_pow_pos n, rfl⟩, trivial, rfl, hz, rfl⟩⟩
    · intro i c hc hi
      cases i with
      | zero => omega
      | succ i => simp [qP0] at hc
    · intro j hj
      have : j < 0 := hj
      omega
