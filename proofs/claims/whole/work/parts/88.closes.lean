theorem R_joinsTwo_q (n : Nat) (τ : Qp) (p s v e : Nat) (bt ba ha jo : Int32) (pl td : Nat → Int32) (hT : qTp n τ p bt ba (qi τ.1.sum) ha jo pl td) (hc : qcs τ.1 5 = true) (hpe : p < e) (he : e ≤ 500) :
    ∃ jo' pl' td', R_joinsTwo (qi τ.1.sum) jo pl td = some (qi (qpps τ.1 5).sum, jo', pl', td') ∧ qTp n (qpgo (qpab n τ 5 s v) 5) e bt ba (qi (qpps τ.1 5).sum) ha jo' pl' td' := by
  obtain ⟨d1, d2, d3, d4, _, d6, ⟨hh, hh8, rfl⟩, d8⟩ := hT
  have D' := qDok_step (e := e) d1 hc hpe
  have hsum := d1.2.2.2.2.2
  have hfull : qfl τ.1 = true ∧ 0 < qdp τ.1 := by
    unfold qcs at hc
    simpa using hc
  have hds : ∃ c' r, τ.1 = 2 :: c' :: r := by
    have hh := of_decide_eq_true hfull.1
    rw [if_neg (by omega)] at hh
    cases hd : τ.1 with
    | nil => exact absurd hd d1.1
    | cons c r =>
      rw [hd] at hh hfull
      have hc2 : c = 2 := hh
      cases r with
      | nil => have := hfull.2; simp [qdp] at this
      | cons c' r => exact ⟨c', r, by rw [hc2]⟩
  obtain ⟨c', r, hd⟩ := hds
  have hs2 : τ.1.sum = (c' + r.sum) + 2 := by rw [hd]; simp; omega
  have hs1 : (qpps τ.1 5).sum = (c' + r.sum) + 1 := by
    rw [hd]
    show ((c' + 1) :: r).sum = _
    simp; omega
  have hd1 : (qpgo (qpab n τ 5 s v) 5).1 = qpps τ.1 5 := by
    show qpps (qpab n τ 5 s v).1 5 = _
    rw [qpab_1]
  generalize hM : c' + r.sum = M at *
  obtain ⟨xa, hxa, ea⟩ := d6 M (by omega)
  obtain ⟨xb, hxb, eb⟩ := d6 (M + 1) (by omega)
  have hor : xa ||| xb < 256 := q_or_lt (n := 8) hxa hxb
  have run : ∀ z, (z = xa ∨ z = xb) → (R_isAheadOf (qi xa) (qi xb) = 0 → z = xb) → (R_isAheadOf (qi xa) (qi xb) ≠ 0 → z = xa) → R_joinsTwo (qi τ.1.sum) jo pl td = some (qi (M + 1), jo + 1, upd pl M (qi (xa ||| xb)), upd td (60 + (xa ||| xb)) (qi z)) := by
    intro z _ h0 h1
    rw [hs2]
    have e55 : R_joinsTwo_55 (qi M) jo pl td (qi xa) (qi xb) (qi (60 + (xa ||| xb))) (qi z) = some (qi (M + 1), jo + 1, upd pl M (qi (xa ||| xb)), upd td (60 + (xa ||| xb)) (qi z)) := by
      unfold R_joinsTwo_55
      rw [dk_t ((qi_inb _ _ (by omega)).mpr (by omega)), q_dn, q_dn, qi_or, R_puts_q _ _ (by omega), db_some, qi_nat _ (by omega)]
    unfold R_joinsTwo
    rw [show (2 : Int32) = qi 2 from rfl, qi_sub _ _ (by omega), show M + 2 - 2 = M by omega, q_dn, dk_t ((qi_inb _ _ (by omega)).mpr (by omega)), q_dn, show (1 : Int32) = qi 1 from rfl, qi_add, dk_t ((qi_inb _ _ (by omega)).mpr (by omega)), q_dn, qi_nat _ (by omega), qi_nat _ (by omega), ea, eb, qi_or, show (60 : Int32) = qi 60 from rfl, qi_add]
    by_cases c : R_isAheadOf (qi xa) (qi xb) = 0
    · rw [if_pos c]
      have hz := h0 c
      rw [hz] at e55 ⊢
      exact e55
    · rw [if_neg c]
      have hz := h1 c
      rw [hz] at e55 ⊢
      exact e55
  have pile' : ∀ j, j < M + 1 → ∃ x, x < 256 ∧ upd pl M (qi (xa ||| xb)) j = qi x := by
    intro j hj
    by_cases ej : j = M
    · exact ⟨xa ||| xb, hor, by rw [ej, upd_self]⟩
    · obtain ⟨x, hx, ex⟩ := d6 j (by omega)
      exact ⟨x, hx, by rw [upd_ne _ _ ej]; exact ex⟩
  rcases d8 with ⟨f0, g1, rfl, rfl, g4, g5, g6, g7, g8⟩ | ⟨f1, rfl, a, ha', rfl, hpl⟩
  · have hf0 : (qpb n τ.2.2.2.2 τ.2.2.2.1 5 v).1 = 0 := by
      unfold qpb
      rw [if_neg (by omega), if_pos rfl]
      split <;> rfl
    obtain ⟨hok, hws⟩ := qPok_step (v := v) g4 hc d1.1 hf0
    obtain ⟨tb, ta, rs, hw⟩ := hws rfl
    have hX : qpb n τ.2.2.2.2 τ.2.2.2.1 5 v = (0, qjo ta tb :: rs, τ.2.2.2.2) := by
      unfold qpb
      rw [if_neg (by omega), if_pos rfl, hw]
    have eab : qpab n τ 5 s v = (τ.1, 0, Int32.ofInt (-1), qjo ta tb :: rs, τ.2.2.2.2) := by
      unfold qpab
      rw [if_neg (by simp [f0]), hX]
      rfl
    rw [hX] at hok
    have hfo := g4.2.1
    rw [hw] at hfo g5 g7 g8
    have hlen : rs.length = M := by
      have := g4.2.2.2.2
      rw [hw, hs2] at this
      simp at this
      omega
    obtain ⟨w1, w2, w3⟩ := g5
    have w1 : pl (rs.length + 1) = qi (qts tb) := w1
    have la := qts_lt ta (hfo.1 ta (by simp))
    have lb := qts_lt tb (hfo.1 tb (by simp))
    rw [hlen] at w1 w2
    have exa : xa = qts ta := (qi_eq _ _ (by omega) (by omega)).mp (ea.symm.trans w2)
    have exb : xb = qts tb := (qi_eq _ _ (by omega) (by omega)).mp (eb.symm.trans w1)
    have p1 := List.pairwise_cons.mp hfo.2
    have p2 := List.pairwise_cons.mp p1.2
    have dab : qts ta &&& qts tb = 0 := by rw [Nat.and_comm]; exact p1.1 ta (by simp)
    obtain ⟨j1, j2, j3⟩ := qjo_q (hfo.1 ta (by simp)) (hfo.1 tb (by simp)) dab
    have hah := R_isAheadOf_q (qts ta) (qts tb) la.1 lb.1 la.2 lb.2 dab
    have hrun := run (qfst (qts ta) (qts tb)) (by unfold qfst; rw [exa, exb]; split; exact .inl rfl; exact .inr rfl)
      (by
        rw [exa, exb, hah]
        intro h
        unfold qfst
        by_cases c : qlow (qts ta) < qlow (qts tb)
        · rw [decide_eq_true c] at h; exact absurd h (by decide)
        · rw [if_neg c])
      (by
        rw [exa, exb, hah]
        intro h
        unfold qfst
        by_cases c : qlow (qts ta) < qlow (qts tb)
        · rw [if_pos c]
        · rw [decide_eq_false c] at h; exact absurd rfl h)
    have hnl : (qtn (qjo ta tb)).length = (qtn ta).length + (qtn tb).length + 1 := by
      unfold qjo
      split
      · show ((_, _) :: (qtn ta ++ qtn tb)).length = _
        simp
      · show ((_, _) :: (qtn tb ++ qtn ta)).length = _
        simp; omega
    refine ⟨_, _, _, by rw [hs1]; exact hrun, by rw [hd1]; exact D', ?_, he, d4, by rw [hd1], by rw [hd1, hs1]; exact pile', ⟨hh, hh8, rfl⟩, .inl ⟨?_, ?_, rfl, rfl, ?_, ?_, ?_, ?_, ?_⟩⟩
    · show (qpab n τ 5 s v).2.1 ≤ 4
      rw [eab]; show 0 ≤ 4; omega
    · show (qpab n τ 5 s v).2.1 = 0
      rw [eab]
    · show (qpab n τ 5 s v).2.2.1 = _
      rw [eab]
    · show qPok n (qpps (qpab n τ 5 s v).1 5) (qpab n τ 5 s v).2.2.2.1 (qpab n τ 5 s v).2.2.2.2
      rw [eab]; exact hok
    · show qwsr _ (qpab n τ 5 s v).2.2.2.1
      rw [eab]
      refine ⟨?_, qwsr_f rs w3 (fun i hi => upd_ne _ _ (by omega))⟩
      rw [hlen, upd_self, j2, exa, exb]
    · show qi hh = qi (qpab n τ 5 s v).2.2.2.2
      rw [eab]; exact g6
    · intro x hx
      show upd td (60 + (xa ||| xb)) (qi (qfst (qts ta) (qts tb))) (60 + x) = qi (qpfs (qpab n τ 5 s v).2.2.2.1 x)
      rw [eab]
      show _ = qi (qpf (qjo ta tb) x + qpfs rs x)
      rw [j3 x]
      have hg := g7 x hx
      have hg : td (60 + x) = qi (qpf tb x + (qpf ta x + qpfs rs x)) := hg
      by_cases z : x = qts ta ||| qts tb
      · rw [if_pos z, show 60 + x = 60 + (xa ||| xb) by rw [z, exa, exb], upd_self]
        have hz : qpfs rs x = 0 := by
          apply qpfs_0
          intro u hu
          apply qpf_big (hfo.1 u (by simp [hu]))
          intro e2
          have : (qts ta ||| qts tb) &&& qts u = 0 := by rw [Nat.and_or_distrib_right, p2.1 u hu, p1.1 u (by simp [hu])]; rfl
          rw [z, this] at e2
          have := @Nat.left_le_or (qts ta) (qts tb)
          omega
        rw [hz, Nat.add_zero]
      · rw [if_neg z, upd_ne _ _ (by rw [exa, exb]; omega), hg]
        congr 1; omega
    · show jo + 1 = qi (qnj' (qpab n τ 5 s v).2.2.2.1)
      rw [eab, g8, show (1 : Int32) = qi 1 from rfl, qi_add]
      show qi (((qtn tb).length + ((qtn ta).length + qnj' rs)) + 1) = qi ((qtn (qjo ta tb)).length + qnj' rs)
      rw [hnl]
      congr 1; omega
  · have eab : qpab n τ 5 s v = τ := by unfold qpab; rw [if_pos f1]
    have hrun : ∃ z, R_joinsTwo (qi τ.1.sum) jo pl td = some (qi (M + 1), jo + 1, upd pl M (qi (xa ||| xb)), upd td (60 + (xa ||| xb)) (qi z)) := by
      by_cases c : R_isAheadOf (qi xa) (qi xb) = 0
      · exact ⟨xb, run xb (.inr rfl) (fun _ => rfl) (fun h => absurd c h)⟩
      · exact ⟨xa, run xa (.inl rfl) (fun h => absurd h c) (fun _ => rfl)⟩
    obtain ⟨z, hrun⟩ := hrun
    refine ⟨_, _, _, by rw [hs1]; exact hrun, by rw [hd1]; exact D', ?_, he, d4, by rw [hd1], by rw [hd1, hs1]; exact pile', ⟨hh, hh8, rfl⟩, .inr ⟨?_, ?_, a, by omega, rfl, ?_⟩⟩
    · show (qpab n τ 5 s v).2.1 ≤ 4
      rw [eab]; exact d2
    · show (qpab n τ 5 s v).2.1 ≠ 0
      rw [eab]; exact f1
    · show qi τ.2.1 = qi (qpab n τ 5 s v).2.1
      rw [eab]
    · show (qpab n τ 5 s v).2.2.1 = _
      rw [eab]; exact hpl
theorem qpps_sum5 (ds : List Nat) : True := trivial
/-- the brackets that end -/
theorem R_closes_q (b : Nat → Nat) (len : Nat) (tx : Nat → Int32) (hb : qtx' b len tx) (n : Nat) (τ0 : Qp) (p0 : Nat) (wr bt ba ha : Int32) (N : Nat) (hN2 : 2000 < N) :
    ∀ (re be so si va : Int32) (wo : Int64) (jo : Int32) (op pl td : Nat → Int32), p0 ≤ len → qAt b len p0 re be so si va wo → qTp n τ0 p0 bt ba (qi τ0.1.sum) ha jo pl td → 1 ≤ qhd τ0.1 →
      (∃ c cs, τ0.1 = c :: cs ∧ (cs ≠ [] → op (cs.length - 1) = qi (c - 1)) ∧ qopr op cs) →
    ∃ ok re' be' so' si' va' wo' wr' pi' od' jo' op' pl' td', R_closes N re (qi len) be so si va wo wr (qi τ0.1.sum) (qi (qdp τ0.1)) jo op pl tx td = some (ok, re', be', so', si', va', wo', wr', pi', od', jo', op', pl', td') ∧
      ((ok = qi 0 ∧ (qPR b len n τ0 p0).1 = 1 ∧ (qPR b len n τ0 p0).2.1 = wr') ∨
       (ok = qi 1 ∧ wr' = wr ∧ ∃ τ p, p0 ≤ p ∧ p ≤ len ∧ qPR b len n τ0 p0 = qPR b len n τ p ∧ qAt b len p re' be' so' si' va' wo' ∧ qTp n τ p bt ba pi' ha jo' pl' td' ∧ od' = qi (qdp τ.1) ∧ qopr op' τ.1 ∧ (0 < qdp τ.1 → qfl τ.1 = false) ∧ (qdp τ.1 = 0 → qhd τ.1 = 1))) := by
  intro re be so si va wo jo op pl td hp0 hA hT h1 hop
  have hN : 600 < N := by omega
  have hb1 := hb.1
  have key := qlp_dn (body := fun x : Int32 × Int32 × Int32 × Int32 × Int32 × Int64 × Int32 × Int32 × Int32 × Int32 × (Nat → Int32) × (Nat → Int32) × (Nat → Int32) × Int32 =>
      R_closes_b13 N x.1 (qi len) x.2.1 x.2.2.1 x.2.2.2.1 x.2.2.2.2.1 x.2.2.2.2.2.1 x.2.2.2.2.2.2.1 x.2.2.2.2.2.2.2.1 x.2.2.2.2.2.2.2.2.1 x.2.2.2.2.2.2.2.2.2.1 x.2.2.2.2.2.2.2.2.2.2.1 x.2.2.2.2.2.2.2.2.2.2.2.1 tx x.2.2.2.2.2.2.2.2.2.2.2.2.1 x.2.2.2.2.2.2.2.2.2.2.2.2.2)
    (Inv := fun m x => ∃ τ p re be so si va wo jo op pl td, ∃ mo : Bool, x = (re, be, so, si, va, wo, wr, qi τ.1.sum, qi (qdp τ.1), jo, op, pl, td, qi mo.toNat) ∧ m = 2 * (len - p) + mo.toNat ∧ p0 ≤ p ∧ p ≤ len ∧ qPR b len n τ0 p0 = qPR b len n τ p ∧ qAt b len p re be so si va wo ∧ qTp n τ p bt ba (qi τ.1.sum) ha jo pl td ∧
      ((mo = true ∧ 0 < qdp τ.1 ∧ 1 ≤ qhd τ.1 ∧ ∃ c cs, τ.1 = c :: cs ∧ (cs ≠ [] → op (cs.length - 1) = qi (c - 1)) ∧ qopr op cs) ∨
       (mo = false ∧ qopr op τ.1 ∧ (0 < qdp τ.1 → qfl τ.1 = false) ∧ (qdp τ.1 = 0 → qhd τ.1 = 1))))
    (Q := fun y => ∃ re' be' so' si' va' wo' wr' pi' od' jo' op' pl' td',
      ((y = .inl (re', be', so', si', va', wo', wr', pi', od', jo', op', pl', td') ∧ (qPR b len n τ0 p0).1 = 1 ∧ (qPR b len n τ0 p0).2.1 = wr') ∨
       (y = .inr (re', be', so', si', va', wo', wr', pi', od', jo', op', pl', td') ∧ wr' = wr ∧ ∃ τ p, p0 ≤ p ∧ p ≤ len ∧ qPR b len n τ0 p0 = qPR b len n τ p ∧ qAt b len p re' be' so' si' va' wo' ∧ qTp n τ p bt ba pi' ha jo' pl' td' ∧ od' = qi (qdp τ.1) ∧ qopr op' τ.1 ∧ (0 < qdp τ.1 → qfl τ.1 = false) ∧ (qdp τ.1 = 0 → qhd τ.1 = 1))))
    ?_ (2 * (len - p0) + (decide (0 < qdp τ0.1)).toNat) (re, be, so, si, va, wo, wr, qi τ0.1.sum, qi (qdp τ0.1), jo, op, pl, td, qi (decide (0 < qdp τ0.1)).toNat) ?_ N (by
      have : (decide (0 < qdp τ0.1)).toNat ≤ 1 := by cases decide (0 < qdp τ0.1) <;> decide
      omega)
  · obtain ⟨y, e, re', be', so', si', va', wo', wr', pi', od', jo', op', pl', td', q⟩ := key
    have hdp := hT.1.2.1
    have hp5 := hT.2.2.1
    have pre : R_closes N re (qi len) be so si va wo wr (qi τ0.1.sum) (qi (qdp τ0.1)) jo op pl tx td = R_closes_a13 N (qi len) tx y := by
      have e12 : R_closes_12 N re (qi len) be so si va wo wr (qi τ0.1.sum) (qi (qdp τ0.1)) jo op pl tx td (qi (decide (0 < qdp τ0.1)).toNat) = R_closes_a13 N (qi len) tx y := by
        unfold R_closes_12 R_closes_13
        rw [e]; rfl
      unfold R_closes
      by_cases c : 0 < qdp τ0.1
      · rw [if_neg (show ¬ (qi (qdp τ0.1) ≤ (0 : Int32)) from fun h => by have := (qi_le _ 0 (by omega) (by omega)).mp h; omega)]
        rw [decide_eq_true c] at e12
        exact e12
      · rw [if_pos (show qi (qdp τ0.1) ≤ (0 : Int32) from (qi_le _ 0 (by omega) (by omega)).mpr (by omega))]
        rw [decide_eq_false c] at e12
        exact e12
    rw [pre]
    rcases q with ⟨rfl, h1, h2⟩ | ⟨rfl, h1, h2⟩
    · exact ⟨qi 0, re', be', so', si', va', wo', wr', pi', od', jo', op', pl', td', rfl, .inl ⟨rfl, h1, h2⟩⟩
    · exact ⟨qi 1, re', be', so', si', va', wo', wr', pi', od', jo', op', pl', td', rfl, .inr ⟨rfl, h1, h2⟩⟩
  · rintro m x ⟨τ, p, re, be, so, si, va, wo, jo, op, pl, td, mo, rfl, hm, hpp, hp, hR, hA, hT, hmo⟩
    have hDok := hT.1
    have hdp := hDok.2.1
    have hsum := hDok.2.2.2.2.2
    rcases hmo with ⟨rfl, hd0, hh1, c, cs, hds, hopc, hopr⟩ | ⟨rfl, ho, hf1, hf2⟩
    · have hcs : cs ≠ [] := by
        intro e
        rw [hds, e] at hd0
        simp [qdp] at hd0
      have hcl : 0 < cs.length := List.length_pos_iff.mpr hcs
      have hqd : qdp τ.1 = cs.length := by rw [hds]; rfl
      have hqh : qhd τ.1 = c := by rw [hds]; rfl
      have hc2 := hDok.2.2.1 c (by rw [hds]; simp)
      rw [hqh] at hh1
      rw [hqd] at hdp
      have eop := hopc hcs
      have hupd : upd op (cs.length - 1) (qi c) (cs.length - 1) = qi c := upd_self _ _ _
      have pre : R_closes_b13 N re (qi len) be so si va wo wr (qi τ.1.sum) (qi (qdp τ.1)) jo op pl tx td (qi true.toNat) = R_closes_52 N re (qi len) be so si va wo wr (qi τ.1.sum) (qi (qdp τ.1)) jo (upd op (cs.length - 1) (qi c)) pl tx td (qi (decide (c = 2)).toNat) := by
        unfold R_closes_b13
        rw [if_neg (show ¬ (qi true.toNat = (0 : Int32)) by decide), hqd, show (1 : Int32) = qi 1 from rfl, qi_sub _ _ (by omega), dk_t ((qi_inb _ _ (by omega)).mpr (by omega)), q_dn, qi_nat _ (by omega), eop, qi_add, show c - 1 + 1 = c by omega, hupd]
        by_cases c2 : c = 2
        · rw [if_pos (show qi c = (2 : Int32) by rw [c2]; rfl), decide_eq_true c2]; rfl
        · rw [if_neg (show ¬ (qi c = (2 : Int32)) from fun e => c2 ((qi_eq c 2 (by omega) (by omega)).mp e)), decide_eq_false c2]; rfl
      have hopr' : qopr (upd op (cs.length - 1) (qi c)) cs := qopr_f cs hopr (fun i hi => upd_ne _ _ (by omega))
      have hopr2 : qopr (upd op (cs.length - 1) (qi c)) τ.1 := by rw [hds]; exact ⟨fun _ => hupd, hopr'⟩
      by_cases c2 : c = 2
      · have hfull : qfl τ.1 = true := by
          unfold qfl
          rw [hqh, if_neg (by omega)]
          exact decide_eq_true c2
        have hsg := R_takesSign_q b len tx hb p hp hA wr 41 5 (qks_sign hA.2.2.1).2.2.2 N hN
        have hle := qtk_le (qT_q b len p hp)
        by_cases k5 : (qT b len p).1 = 5
        · left
          have hc : qcs τ.1 (qT b len p).1 = true := by
            rw [k5]
            unfold qcs
            rw [if_neg (by omega), if_neg (by omega), if_pos rfl, hfull]
            simp; omega
          have hse := hle.2.2.2.1 (by omega)
          obtain ⟨re1, be1, so1, si1, va1, wo1, et, at1⟩ := hsg.2 k5
          have hR1 := qPR_next (n := n) (τ := τ) hp hc (by omega)
          rw [k5] at hR1 hc
          obtain ⟨jo', pl', td', ej, T'⟩ := R_joinsTwo_q n τ p (qT b len p).2.1 (qT b len p).2.2.1 (qT b len p).2.2.2 bt ba ha jo pl td hT hc (by omega) (by omega)
          obtain ⟨c', r', hcs'⟩ : ∃ c' r', cs = c' :: r' := by
            cases cs with
            | nil => exact absurd rfl hcs
            | cons c' r' => exact ⟨c', r', rfl⟩
          have hds' : (qpgo (qpab n τ 5 (qT b len p).2.1 (qT b len p).2.2.1) 5).1 = (c' + 1) :: r' := by
            show qpps (qpab n τ 5 (qT b len p).2.1 (qT b len p).2.2.1).1 5 = _
            rw [qpab_1, hds, hcs']; rfl
          have hdp' : qdp (qpgo (qpab n τ 5 (qT b len p).2.1 (qT b len p).2.2.1) 5).1 = r'.length := by rw [hds']; rfl
          have hcsl : cs.length = r'.length + 1 := by rw [hcs']; rfl
          have hsum' : (qpps τ.1 5).sum = (qpgo (qpab n τ 5 (qT b len p).2.1 (qT b len p).2.2.1) 5).1.sum := by
            rw [hds', hds, hcs']; rfl
          rw [hsum'] at ej T'
          refine ⟨(re1, be1, so1, si1, va1, wo1, wr, qi (qpgo (qpab n τ 5 (qT b len p).2.1 (qT b len p).2.2.1) 5).1.sum, qi (qdp (qpgo (qpab n τ 5 (qT b len p).2.1 (qT b len p).2.2.1) 5).1), jo', upd op (cs.length - 1) (qi c), pl', td', qi (decide (0 < r'.length)).toNat), 2 * (len - (qT b len p).2.2.2) + (decide (0 < r'.length)).toNat, ?_,
            ⟨qpgo (qpab n τ 5 (qT b len p).2.1 (qT b len p).2.2.1) 5, (qT b len p).2.2.2, re1, be1, so1, si1, va1, wo1, jo', upd op (cs.length - 1) (qi c), pl', td', decide (0 < r'.length), rfl, rfl, by omega, by omega, hR.trans hR1, at1, T', ?_⟩, ?_⟩
          · simp only []
            rw [pre, decide_eq_true c2]
            unfold R_closes_52
            rw [if_neg (show ¬ (qi true.toNat = (0 : Int32)) by decide), show (41 : Int32) = qi 41 from rfl, et, db_some]
            simp only []
            rw [if_neg (show ¬ (qi 1 = (0 : Int32)) by decide), ej, db_some, q_dn, hqd, hdp', show (1 : Int32) = qi 1 from rfl, qi_sub _ _ (by omega), show cs.length - 1 = r'.length by omega]
            by_cases c3 : 0 < r'.length
            · rw [if_neg (show ¬ (qi r'.length ≤ (0 : Int32)) from fun h => by have := (qi_le _ 0 (by omega) (by omega)).mp h; omega), decide_eq_true c3]
              rfl
            · rw [if_pos (show qi r'.length ≤ (0 : Int32) from (qi_le _ 0 (by omega) (by omega)).mpr (by omega)), decide_eq_false c3]
              rfl
          · by_cases c3 : 0 < r'.length
            · left
              refine ⟨decide_eq_true c3, by rw [hdp']; exact c3, by rw [hds']; show 1 ≤ c' + 1; omega, c' + 1, r', hds', ?_, ?_⟩
              · intro hr
                have hq : qopr (upd op (cs.length - 1) (qi c)) (c' :: r') := by
                  rw [← hcs']; exact hopr'
                rw [Nat.add_sub_cancel]
                exact hq.1 hr
              · have hq : qopr (upd op (cs.length - 1) (qi c)) (c' :: r') := by
                  rw [← hcs']; exact hopr'
                exact hq.2
            · right
              have hr : r' = [] := List.length_eq_zero_iff.mp (by omega)
              refine ⟨decide_eq_false c3, ?_, ?_, ?_⟩
              · rw [hds', hr]
                exact ⟨fun h => absurd rfl h, trivial⟩
              · intro h; rw [hdp'] at h; omega
              · intro _
                rw [hds']
                have := T'.1.2.2.2.2.1 (by rw [hdp']; omega)
                rw [hds'] at this
                have this : c' + 1 ≤ 1 := this
                show c' + 1 = 1
                omega
          · rw [hm]
            have : (decide (0 < r'.length)).toNat ≤ 1 := by cases decide (0 < r'.length) <;> decide
            show _ < 2 * (len - p) + true.toNat
            have : true.toNat = 1 := rfl
            omega
        · right
          have hc : qcs τ.1 (qT b len p).1 = false := by
            unfold qcs
            rw [hfull]
            have hnz : ¬ (qdp τ.1 = 0) := by omega
            simp [hnz, k5]
          have hf := qPR_form (n := n) (τ := τ) hp hc
          refine ⟨.inl (re, be, so, si, va, wo, qi (qT b len p).2.1, qi τ.1.sum, qi (qdp τ.1), jo, upd op (cs.length - 1) (qi c), pl, td), ?_, re, be, so, si, va, wo, qi (qT b len p).2.1, qi τ.1.sum, qi (qdp τ.1), jo, upd op (cs.length - 1) (qi c), pl, td, .inl ⟨rfl, by rw [hR]; exact hf.1, by rw [hR]; exact hf.2⟩⟩
          simp only []
          rw [pre, decide_eq_true c2]
          unfold R_closes_52
          rw [if_neg (show ¬ (qi true.toNat = (0 : Int32)) by decide), show (41 : Int32) = qi 41 from rfl, hsg.1 k5, db_some]
          simp only []
          rw [if_pos (show qi 0 = (0 : Int32) from rfl)]
      · left
        refine ⟨(re, be, so, si, va, wo, wr, qi τ.1.sum, qi (qdp τ.1), jo, upd op (cs.length - 1) (qi c), pl, td, qi false.toNat), 2 * (len - p) + false.toNat, ?_, ⟨τ, p, re, be, so, si, va, wo, jo, upd op (cs.length - 1) (qi c), pl, td, false, rfl, rfl, hpp, hp, hR, hA, hT, .inr ⟨rfl, hopr2, ?_, ?_⟩⟩, ?_⟩
        · simp only []
          rw [pre, decide_eq_false c2]
          unfold R_closes_52
          rw [if_pos (show qi false.toNat = (0 : Int32) from rfl)]
        · intro _
          unfold qfl
          rw [hqh, if_neg (by omega)]
          exact decide_eq_false c2
        · intro h; omega
        · rw [hm]
          have : true.toNat = 1 := rfl
          have : false.toNat = 0 := rfl
          omega
    · right
      refine ⟨.inr (re, be, so, si, va, wo, wr, qi τ.1.sum, qi (qdp τ.1), jo, op, pl, td), ?_, re, be, so, si, va, wo, wr, qi τ.1.sum, qi (qdp τ.1), jo, op, pl, td, .inr ⟨rfl, rfl, τ, p, hpp, hp, hR, hA, hT, rfl, ho, hf1, hf2⟩⟩
      unfold R_closes_b13
      rw [if_pos (show qi false.toNat = (0 : Int32) from rfl)]
  · refine ⟨τ0, p0, re, be, so, si, va, wo, jo, op, pl, td, decide (0 < qdp τ0.1), rfl, rfl, Nat.le_refl _, hp0, rfl, hA, hT, ?_⟩
    obtain ⟨c, cs, hds, hop1, hop2⟩ := hop
    by_cases c0 : 0 < qdp τ0.1
    · exact .inl ⟨decide_eq_true c0, c0, h1, c, cs, hds, hop1, hop2⟩
    · right
      have hcs : cs = [] := by
        rw [hds] at c0
        have : ¬ (0 < cs.length) := c0
        exact List.length_eq_zero_iff.mp (by omega)
      refine ⟨decide_eq_false c0, ?_, fun h => absurd h c0, ?_⟩
      · rw [hds, hcs]; exact ⟨fun h => absurd rfl h, trivial⟩
      · intro hz
        have := hT.1.2.2.2.2.1 hz
        omega
