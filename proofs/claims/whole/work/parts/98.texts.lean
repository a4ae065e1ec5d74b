theorem qq_query (σ : Qσ) (s : SJ) (t : SR) (hJ : qRelJ σ s) (hR : qRelR σ t) (N : Nat) (hN : 200000 < N) : ∃ σ', qOk σ' (sJ_query N s) (sR_query N t) := by
  obtain ⟨⟨hc, hj, hl, hb, hf, hp⟩, hh, hs, hpp, hb0, hb1, hi⟩ := id hJ
  obtain ⟨⟨rc, r1, r2, r3, r4⟩, rh, ri⟩ := id hR
  obtain ⟨ret, un', re', be', so', si', va', wo', wr', bt', ba', rd', sd', all', td', f1, f2, f3, f4, f5, f6, f7⟩ := R_query_q σ.1.2.1.2 σ.1.2.1.1 (t.2.1 12) r4 (t.2.1 0) r1 (t.1 0) (t.1 1) (t.1 2) (t.1 3) (t.1 4) (t.1 5) (t.1 6) (t.1 7) (t.2.2 99 0) (t.1 8) (t.1 9) (t.1 10) (t.1 11) (t.1 12) (t.2.1 13) N (by omega)
  obtain ⟨kd', st', nu', at2, fa', pl', aw', le', ri', rel', edg', lim', gb', gl', gr', gw', e1, e2, e3, e4, e5⟩ := Q_read_q σ.1.2.1.2 σ.1.2.1.1 (s.2.1 35) hb (s.1 47) (s.1 48) (s.1 49) (s.1 50) (s.1 16) (s.1 17) (s.1 18) (s.1 19) (s.1 20) (s.1 51) (s.1 52) (s.1 53) (s.2.1 36) (s.2.1 37) (s.2.1 38) (s.2.1 39) N (by omega)
  have hQ : qS0 = (0, 0, Int32.ofInt (-1), 0, 0, (0, 0, 1000, fun _ => 0, fun _ => 0, fun _ => 0, fun _ => 0)) := rfl
  rw [← hQ] at e2 e3 e4 e5
  generalize hR' : qR σ.1.2.1.2 σ.1.2.1.1 qS0 0 = R at f3 f4 f6 f7 e2 e3 e4 e5
  have hb0' : qby' σ.1.2.1.2 0 (s.2.1 35) := ⟨by omega, hb.2.1, fun i hi => by omega⟩
  have r40' : qtx' σ.1.2.1.2 0 (t.2.1 12) := ⟨by omega, r4.2.1, fun i hi => by omega⟩
  by_cases c : R.1 = 0
  · obtain ⟨g1, g2, g3, g4, g5⟩ := f6 c
    obtain ⟨hq1, hq2⟩ := e5 c
    have f0 : fa' = 0 := by rw [e2, c]; rfl
    refine qYesJ (((R.2.2, none), (0, σ.1.2.1.2), qi R.1, R.2.1), [], σ.2.2) (qi (qn R.2.2)) ?_ ?_
    · unfold sJ_query J_query J_isSoundQ
      rw [hl, e1, db_some]
      dsimp only
      rw [if_pos f0, db_some]
      dsimp only
      rw [if_neg (show ¬ (1 : Int32) = 0 by decide)]
      obtain ⟨b3, le3, ri3, ro3, k1, k2⟩ := G_copy_q hq2 hq1 (s.1 41) (s.1 42) (s.1 43) (s.2.1 29) (s.2.1 30) (s.2.1 31) (s.2.1 32)
      rw [k1, db_some]
      dsimp only
      rw [show rel' = qi (qn R.2.2) from hq1.1] at k2 ⊢
      obtain ⟨x, hx1, hx2, hx3, hx4, hx5⟩ := hh
      exact ⟨_, rfl, ⟨⟨hq2, fun _ h => nomatch h⟩, ⟨k2, rfl⟩, rfl, hb0', e2, e3⟩, ⟨x, hx1, hx2, Nat.zero_le _, rfl, fun i c h => by simp at h⟩, Or.inl rfl, Or.inl rfl, Or.inl rfl, Or.inl rfl, hi⟩
    · unfold sR_query
      rw [f1, db_some]
      dsimp only
      rw [g1]
      exact ⟨_, rfl, ⟨⟨g3, g5 59 (by omega) (by omega), fun z hz => g5 _ (by omega) (by omega)⟩, f2, f3, f4, r40'⟩, ⟨Nat.zero_le _, g2, fun i c h => by simp at h⟩, qIRs_c ri f5 (fun _ _ => rfl)⟩
  · obtain ⟨g1, g2, g3⟩ := f7 c
    have f0 : ¬ fa' = 0 := by rw [e2]; exact fun h => c (qi_inj (by omega) (by omega) h)
    refine qYesJ ((σ.1.1, (0, σ.1.2.1.2), qi R.1, R.2.1), σ.2) (-1) ?_ ?_
    · unfold sJ_query J_query J_isSoundQ
      rw [hl, e1, db_some]
      dsimp only
      rw [if_neg f0, db_some]
      dsimp only
      rw [if_pos rfl]
      exact ⟨_, rfl, ⟨hc, hj, rfl, hb0', e2, e3⟩, hh, hs, hpp, hb0, hb1, hi⟩
    · unfold sR_query
      rw [f1, db_some]
      dsimp only
      rw [g1, g2]
      exact ⟨_, rfl, ⟨qRc_c hc rc g3, f2, f3, f4, r40'⟩, rh, qIRs_c ri f5 (fun _ _ => rfl)⟩
theorem R_plan_q (b : Nat → Nat) (len : Nat) (tx : Nat → Int32) (hb : qtx' b len tx) {c : Qc} (hc : qcok c) {all : Nat → Int32} (rc : qRc c all) (hl : all 316 = qi len) {H : List Qc} {un : Int32} {ud : Nat → Int32} (rh : qRh H un ud)
    (ra re ln be so si va : Int32) (wo : Int64) (wr bt ba pi od jo ha : Int32) (op pl td : Nat → Int32) (N : Nat) (hN : 3000 < N) :
    ∃ re' be' so' si' va' wo' wr' bt' ba' pi' od' ha' op' pl' td', (qPR b len (qn c.1) qP0 0).1 ≤ 4 ∧
      ((qPR b len (qn c.1) qP0 0).1 ≠ 0 → ∃ all' jo', R_plan N ra un re ln be so si va wo wr bt ba pi od jo ha all op pl tx td ud = some (-1, 0, un, re', qi len, be', so', si', va', wo', wr', bt', ba', pi', od', jo', ha', all', op', pl', td', ud) ∧
        all' 316 = qi 0 ∧ all' 317 = qi (qPR b len (qn c.1) qP0 0).1 ∧ all' 318 = (qPR b len (qn c.1) qP0 0).2.1 ∧ (∀ j, j < 316 ∨ 319 ≤ j → all' j = all j)) ∧
      ((qPR b len (qn c.1) qP0 0).1 = 0 → ∃ u all' ud', (qPR b len (qn c.1) qP0 0).2.2 = [u] ∧ qtok u ∧ qts u < 2 ^ qn c.1 ∧ R_plan N ra un re ln be so si va wo wr bt ba pi od jo ha all op pl tx td ud = some (qi (qtn u).length, 0, qi (qrem H c).length, re', qi len, be', so', si', va', wo', wr', bt', ba', pi', od', qi (qtn u).length, ha', all', op', pl', td', ud') ∧
        all' 316 = qi 0 ∧ all' 317 = qi 0 ∧ all' 318 = (qPR b len (qn c.1) qP0 0).2.1 ∧ (∀ j, j < 59 ∨ 319 ≤ j → all' j = all j) ∧ all' 59 = qi (qts u) ∧ (∀ z, z < 256 → all' (60 + z) = qi (qpf u z)) ∧ qRh (qrem H c) (qi (qrem H c).length) ud') := by
  have h8 := hc.1.1
  obtain ⟨re1, be1, so1, si1, va1, wo1, e1, hA⟩ := R_starts_q b len tx hb all hl re ln be so si va wo bt ba N (by omega)
  have key := qlp_rel (body := fun x : (Nat → Int32) × Int32 => R_plan_b11 N 0 un re1 (qi len) be1 so1 si1 va1 wo1 wr (Int32.ofInt (-1)) (qi 0) pi od jo ha (upd all 316 (qi 0)) op pl tx x.1 ud x.2)
    (Inv := fun i x => x.2 = qi i ∧ ∀ j, j < i → x.1 (60 + j) = qi 0) 256 (Q := fun y => ∀ j, j < 256 → y (60 + j) = qi 0)
    (by
      rintro i ⟨f, x⟩ hi ⟨rfl, k⟩
      simp only at k
      refine ⟨(upd f (60 + i) (qi 0), qi (i + 1)), ?_, rfl, ?_⟩
      · simp (disch := omega) only [R_plan_b11, qi_lit, qi_m1, qi_add, qi_mul, qi_and, qi_or, qi_xor, qi_not, qi_shl, qi_shr, qi_and31, qi_nat, qi_inb, qi_eq, qi_lt, qi_le, qi_sub, dn, db_some, dk_t, if_neg (show ¬ 256 ≤ i by omega)]
      · intro j hj
        show upd f (60 + i) (qi 0) (60 + j) = _
        by_cases e : j = i
        · subst e; exact upd_self _ _ _
        · rw [upd_ne _ _ (by omega)]; exact k j (by omega))
    (by
      rintro ⟨f, x⟩ ⟨rfl, k⟩
      exact ⟨f, by simp (disch := omega) only [R_plan_b11, qi_lit, qi_m1, qi_add, qi_mul, qi_and, qi_or, qi_xor, qi_not, qi_shl, qi_shr, qi_and31, qi_nat, qi_inb, qi_eq, qi_lt, qi_le, qi_sub]; simp, k⟩)
    (td, qi 0) ⟨rfl, by intro j h; omega⟩ N (by omega)
  obtain ⟨td1, e2, z1⟩ := key
  have a0 : (upd all 316 (qi 0)) 0 = qi (qn c.1) := (upd_ne _ _ (by omega)).trans rc.1.1
  obtain ⟨ok, re2, be2, so2, si2, va2, wo2, wr2, bt2, ba2, pi2, od2, jo2, ha2, op2, pl2, td2, e3, hcase⟩ := R_isPlan_q b len tx hb (qn c.1) h8 (upd all 316 (qi 0)) a0 re1 be1 so1 si1 va1 wo1 wr op pl td1 z1 hA N (by omega)
  have e2' : lp (fun x : (Nat → Int32) × Int32 => R_plan_b11 N (0 : Int32) un re1 (qi len) be1 so1 si1 va1 wo1 wr (Int32.ofInt (-1)) (qi 0) pi od jo ha (upd all 316 (qi 0)) op pl tx x.1 ud x.2) N (td, (0 : Int32)) = some td1 := e2
  have e3' : R_isPlan N re1 (qi len) be1 so1 si1 va1 wo1 wr (Int32.ofInt (-1)) (qi 0) (0 : Int32) (0 : Int32) (0 : Int32) (0 : Int32) (upd all 316 (qi 0)) op pl tx td1 = some (ok, re2, be2, so2, si2, va2, wo2, wr2, bt2, ba2, pi2, od2, jo2, ha2, op2, pl2, td2) := e3
  have start : R_plan N ra un re ln be so si va wo wr bt ba pi od jo ha all op pl tx td ud = db (R_isFine wr2 bt2 ba2 (upd all 316 (qi 0)) ok) fun t9 => if t9.1 = 0 then (some ((-1 : Int32), (0 : Int32), un, re2, qi len, be2, so2, si2, va2, wo2, wr2, bt2, ba2, pi2, od2, jo2, ha2, t9.2, op2, pl2, td2, ud)) else (db (R_keeps N un t9.2 ud) fun t12 => dn (upd t9.2 (59 : Int32).toNatClampNeg (pl2 (0 : Int32).toNatClampNeg)) fun v14 => R_plan_86 N (0 : Int32) t12.1 re2 (qi len) be2 so2 si2 va2 wo2 wr2 bt2 ba2 pi2 od2 jo2 ha2 v14 op2 pl2 tx td2 t12.2 (0 : Int32)) := by
    unfold R_plan
    rw [e1, db_some]
    dsimp only
    unfold R_plan_11
    rw [e2', db_some]
    unfold R_plan_a11 R_plan_34
    rw [e3', db_some]
  have hpl : (qPR b len (qn c.1) qP0 0).1 ≤ 4 := by rcases hcase with ⟨_, h, _⟩ | ⟨_, _, _, h, _⟩ <;> omega
  have hx : ∃ xb : Bool, ok = qi xb.toNat ∧ (xb = true → ba2 = qi (qPR b len (qn c.1) qP0 0).1) ∧ (xb = false → (qPR b len (qn c.1) qP0 0).1 = 1) ∧ (if xb then bt2 else wr2) = (qPR b len (qn c.1) qP0 0).2.1 := by
    rcases hcase with ⟨h1, h2, h3⟩ | ⟨h1, h2, h3, _⟩
    · exact ⟨false, h1, fun h => absurd h (by decide), fun _ => h2, h3.symm⟩
    · exact ⟨true, h1, fun _ => h2, fun h => absurd h (by decide), h3⟩
  obtain ⟨xb, hx1, hx2, hx3, hx4⟩ := hx
  have e4 := R_isFine_q wr2 bt2 ba2 (upd all 316 (qi 0)) xb (qPR b len (qn c.1) qP0 0).1 hpl hx2 hx3
  rw [hx4] at e4
  generalize hP : qPR b len (qn c.1) qP0 0 = P at *
  have hu : ∀ j, j < 316 ∨ 319 ≤ j → upd (upd (upd all 316 (qi 0)) 317 (qi P.1)) 318 P.2.1 j = all j := by
    intro j hj
    rw [upd_ne _ _ (by omega), upd_ne _ _ (by omega), upd_ne _ _ (by omega)]
  have u316 : upd (upd (upd all 316 (qi 0)) 317 (qi P.1)) 318 P.2.1 316 = qi 0 := by rw [upd_ne _ _ (by omega), upd_ne _ _ (by omega), upd_self]
  have u317 : upd (upd (upd all 316 (qi 0)) 317 (qi P.1)) 318 P.2.1 317 = qi P.1 := by rw [upd_ne _ _ (by omega), upd_self]
  have u318 : upd (upd (upd all 316 (qi 0)) 317 (qi P.1)) 318 P.2.1 318 = P.2.1 := upd_self _ _ _
  rw [hx1, e4, db_some] at start
  dsimp only at start
  refine ⟨re2, be2, so2, si2, va2, wo2, wr2, bt2, ba2, pi2, od2, ha2, op2, pl2, td2, hpl, ?_, ?_⟩
  · intro h0
    rw [decide_eq_false h0, if_pos (show qi false.toNat = 0 from rfl)] at start
    exact ⟨_, jo2, start, u316, u317, u318, hu⟩
  · intro h0
    rw [decide_eq_true h0, if_neg (show ¬ qi true.toNat = 0 by decide)] at start
    rcases hcase with ⟨_, h1, _⟩ | ⟨_, _, _, _, h1⟩
    · omega
    · obtain ⟨u, w1, w2, w3, w4, w5, w6⟩ := h1 h0
      have rc1 : qRc c (upd (upd (upd all 316 (qi 0)) 317 (qi P.1)) 318 P.2.1) := qRc_c hc rc (fun j hj => hu j (by omega))
      obtain ⟨ud', k1, k2⟩ := R_keeps_q H un ud _ rh c hc rc1 N (by omega)
      rw [k1, db_some, q_dn] at start
      dsimp only at start
      rw [show pl2 (0 : Int32).toNatClampNeg = qi (qts u) from w4] at start
      have key := qlp_rel (body := fun x : (Nat → Int32) × Int32 => R_plan_b86 N 0 (qi (qrem H c).length) re2 (qi len) be2 so2 si2 va2 wo2 wr2 bt2 ba2 pi2 od2 jo2 ha2 x.1 op2 pl2 tx td2 ud' x.2)
        (Inv := fun i x => x.2 = qi i ∧ (∀ j, j < i → x.1 (60 + j) = qi (qpf u j)) ∧ x.1 59 = qi (qts u) ∧ ∀ j, j < 59 ∨ 316 ≤ j → x.1 j = upd (upd (upd all 316 (qi 0)) 317 (qi P.1)) 318 P.2.1 j) 256
        (Q := fun y => (∀ j, j < 256 → y (60 + j) = qi (qpf u j)) ∧ y 59 = qi (qts u) ∧ ∀ j, j < 59 ∨ 316 ≤ j → y j = upd (upd (upd all 316 (qi 0)) 317 (qi P.1)) 318 P.2.1 j)
        (by
          rintro i ⟨f, x⟩ hi ⟨rfl, k1, k2, k3⟩
          simp only at k1 k2 k3
          have t1 := w5 i (by omega)
          refine ⟨(upd f (60 + i) (qi (qpf u i)), qi (i + 1)), ?_, rfl, ?_, ?_, ?_⟩
          · simp (disch := omega) only [R_plan_b86, qi_lit, qi_m1, qi_add, qi_mul, qi_and, qi_or, qi_xor, qi_not, qi_shl, qi_shr, qi_and31, qi_nat, qi_inb, qi_eq, qi_lt, qi_le, qi_sub, dn, db_some, dk_t, if_neg (show ¬ 256 ≤ i by omega), t1]
          · intro j hj
            show upd f (60 + i) _ (60 + j) = _
            by_cases e : j = i
            · subst e; exact upd_self _ _ _
            · rw [upd_ne _ _ (by omega)]; exact k1 j (by omega)
          · show upd f (60 + i) _ 59 = _
            rw [upd_ne _ _ (by omega)]; exact k2
          · intro j hj
            show upd f (60 + i) _ j = _
            rw [upd_ne _ _ (by omega)]; exact k3 j hj)
        (by
          rintro ⟨f, x⟩ ⟨rfl, k⟩
          exact ⟨f, by simp (disch := omega) only [R_plan_b86, qi_lit, qi_m1, qi_add, qi_mul, qi_and, qi_or, qi_xor, qi_not, qi_shl, qi_shr, qi_and31, qi_nat, qi_inb, qi_eq, qi_lt, qi_le, qi_sub]; simp, k⟩)
        (upd (upd (upd (upd all 316 (qi 0)) 317 (qi P.1)) 318 P.2.1) 59 (qi (qts u)), qi 0) ⟨rfl, by intro j h; omega, upd_self (upd (upd (upd all 316 (qi 0)) 317 (qi P.1)) 318 P.2.1) 59 (qi (qts u)), fun j hj => upd_ne _ _ (by omega)⟩ N (by omega)
      obtain ⟨y, y1, y2, y3, y4⟩ := key
      have y1' : lp (fun x : (Nat → Int32) × Int32 => R_plan_b86 N (0 : Int32) (qi (qrem H c).length) re2 (qi len) be2 so2 si2 va2 wo2 wr2 bt2 ba2 pi2 od2 jo2 ha2 x.1 op2 pl2 tx td2 ud' x.2) N (upd (upd (upd (upd all 316 (qi 0)) 317 (qi P.1)) 318 P.2.1) (59 : Int32).toNatClampNeg (qi (qts u)), (0 : Int32)) = some y := y1
      unfold R_plan_86 at start
      rw [y1', db_some] at start
      unfold R_plan_a86 R_plan_117 at start
      rw [w6] at start
      refine ⟨u, y, ud', w1, w2, w3, start, (y4 316 (by omega)).trans u316, ?_, (y4 318 (by omega)).trans u318, fun j hj => (y4 j (by omega)).trans (hu j (by omega)), y3, y2, k2⟩
      rw [y4 317 (by omega), u317, h0]
theorem qq_plan (σ : Qσ) (s : SJ) (t : SR) (hJ : qRelJ σ s) (hR : qRelR σ t) (N : Nat) (hN : 200000 < N) : ∃ σ', qOk σ' (sJ_plan N s) (sR_plan N t) := by
  obtain ⟨⟨hc, hj, hl, hb, hf, hp⟩, hh, hs, hpp, hb0, hb1, hi⟩ := id hJ
  obtain ⟨⟨rc, r1, r2, r3, r4⟩, rh, ri⟩ := id hR
  have hg := hc.1
  have hn : (s.1 41) = qi (qn σ.1.1.1) := hj.1.1
  obtain ⟨re', be', so', si', va', wo', wr', bt', ba', pi', od', ha', op', pl', td', f0, f1, f2⟩ := R_plan_q σ.1.2.1.2 σ.1.2.1.1 (t.2.1 12) r4 hc rc r1 rh (t.1 0) (t.1 2) (t.1 3) (t.1 4) (t.1 5) (t.1 6) (t.1 7) (t.2.2 99 0) (t.1 8) (t.1 9) (t.1 10) (t.1 13) (t.1 14) (t.1 15) (t.1 16) (t.2.1 7) (t.2.1 10) (t.2.1 13) N (by omega)
  obtain ⟨kd', st', nu', at2, fa', pl2, dp', wm', tk', sp', wa', wi', e1, e2, e3, e4, e5⟩ := L_read_q σ.1.2.1.2 σ.1.2.1.1 (s.2.1 35) hb (qn σ.1.1.1) hg.1 (s.1 47) (s.1 48) (s.1 49) (s.1 50) (s.1 10) (s.1 11) (s.1 13) (s.1 14) (s.1 15) (s.2.1 8) (s.2.1 9) (s.2.1 10) N (by omega)
  generalize hP : qPR σ.1.2.1.2 σ.1.2.1.1 (qn σ.1.1.1) qP0 0 = P at *
  have hb0' : qby' σ.1.2.1.2 0 (s.2.1 35) := ⟨by omega, hb.2.1, fun i hi => by omega⟩
  have r40' : qtx' σ.1.2.1.2 0 (t.2.1 12) := ⟨by omega, r4.2.1, fun i hi => by omega⟩
  rw [← hn, ← hl] at e1
  by_cases c : P.1 = 0
  · obtain ⟨u, all', ud', w1, w2, w3, w4, w5, w6, w7, w8, w9, w10, w11⟩ := f2 c
    obtain ⟨u', v1, v2, v3, v4, v5⟩ := e5 c
    have huu : u' = u := by rw [w1] at v1; exact (List.cons.inj v1).1.symm
    subst huu
    have fa0 : fa' = 0 := by rw [e2, c]; rfl
    have hok : qcok (σ.1.1.1, some u') := ⟨hg, fun t h => by cases h; exact ⟨v2, v3⟩⟩
    refine qYesJ (((σ.1.1.1, some u'), (0, σ.1.2.1.2), qi 0, P.2.1), qrem σ.2.1 σ.1.1, σ.2.2) (qi (qtn u').length) ?_ ?_
    · unfold sJ_plan J_plan J_isSoundL
      obtain ⟨nx', pr', pe', pl', po', pj', pb', ple', pri', pro', pp', ps', eR, hh'⟩ := J_remember_q hh hc hj
      rw [e1, db_some]
      dsimp only
      rw [if_pos fa0, db_some]
      dsimp only
      rw [if_neg (show ¬ (1 : Int32) = 0 by decide), eR, db_some]
      dsimp only
      obtain ⟨pt', st2, k1, k2⟩ := P_take_q u' v2 sp' (s.2.1 33) (s.2.1 34) (s.1 44) (s.1 45) v5
      rw [show L_whole wa' = qi (qts u') from v4, k1, db_some]
      exact ⟨_, rfl, ⟨hok, ⟨hj.1, rfl, rfl, k2⟩, rfl, hb0', fa0, e3⟩, hh', hs, hpp, hb0, hb1, hi⟩
    · unfold sR_plan
      rw [w4, db_some]
      refine ⟨_, rfl, ⟨⟨qRg_c hg rc.1 (fun j hj => w8 j (by omega)), w9, w10⟩, w5, w6, w7, r40'⟩, w11, qIRs_c ri (fun j hj => w8 j (by omega)) (fun _ _ => rfl)⟩
  · obtain ⟨all', jo', w4, w5, w6, w7, w8⟩ := f1 c
    have fa0 : ¬ fa' = 0 := by rw [e2]; exact fun h => c (qi_inj (by omega) (by omega) h)
    refine qYesJ ((σ.1.1, (0, σ.1.2.1.2), qi P.1, P.2.1), σ.2) (-1) ?_ ?_
    · unfold sJ_plan J_plan J_isSoundL
      rw [e1, db_some]
      dsimp only
      rw [if_neg fa0, db_some]
      dsimp only
      rw [if_pos rfl]
      exact ⟨_, rfl, ⟨hc, hj, rfl, hb0', e2, e3⟩, hh, hs, hpp, hb0, hb1, hi⟩
    · unfold sR_plan
      rw [w4, db_some]
      exact ⟨_, rfl, ⟨qRc_c hc rc (fun j hj => w8 j (by omega)), w5, w6, w7, r40'⟩, rh, qIRs_c ri (fun j hj => w8 j (by omega)) (fun _ _ => rfl)⟩
