theorem qTq_td {σ : Qs} {p : Nat} {bt ba : Int32} {td : Nat → Int32} (h : qTq σ p bt ba td) : ∃ n' m', n' ≤ 8 ∧ m' ≤ 16 ∧ td 0 = qi n' ∧ td 9 = qi m' ∧ (σ.2.1 = 0 → qn σ.2.2.2.2.2 = n' ∧ qm σ.2.2.2.2.2 = m' ∧ qRg σ.2.2.2.2.2 td ∧ qMok σ.1 σ.2.2.2.1 σ.2.2.2.2.1 σ.2.2.2.2.2) := by
  obtain ⟨⟨n', m', h1, h2, h3, h4⟩, _, _, _, _, h6⟩ := h
  refine ⟨n', m', h1, h2, h3, h4, ?_⟩
  intro f0
  rcases h6 with ⟨_, _, _, _, hg, hM⟩ | ⟨f1, _⟩
  · have a1 := hM.1.1
    have a2 := hM.1.2.1
    refine ⟨?_, ?_, hg, hM⟩
    · exact (qi_eq _ _ (by omega) (by omega)).mp (hg.1.symm.trans h3)
    · exact (qi_eq _ _ (by omega) (by omega)).mp (hg.2.1.symm.trans h4)
  · exact absurd f0 f1
/-- a piece of the reference's descent: it fails where the machine has a fault of form, or it comes to a later token -/
def qOut (b : Nat → Nat) (len : Nat) (σ : Qs) (p aw' : Nat) (ok wr bt ba : Int32) (td : Nat → Int32) (re be so si va : Int32) (wo : Int64) : Prop :=
  (ok = qi 0 ∧ (qR b len σ p).1 = 1 ∧ (qR b len σ p).2.1 = wr) ∨
  (ok = qi 1 ∧ ∃ σ' p', p < p' ∧ p' ≤ len ∧ σ'.1 = aw' ∧ qR b len σ p = qR b len σ' p' ∧ qAt b len p' re be so si va wo ∧ qTq σ' p' bt ba td)
theorem R_relationLine_q (b : Nat → Nat) (len : Nat) (tx : Nat → Int32) (hb : qtx' b len tx) (p : Nat) (hp : p ≤ len) {re be so si va : Int32} {wo : Int64} (h : qAt b len p re be so si va wo) (σ : Qs) (ha : σ.1 = 0) (hk : (qT b len p).1 = 6)
    (wr bt ba rd : Int32) (td : Nat → Int32) (hT : qTq σ p bt ba td) (N : Nat) (hN : 600 < N) :
    ∃ ok re' be' so' si' va' wo' wr' bt' ba' rd' td', R_relationLine N re (qi len) be so si va wo wr bt ba rd tx td = some (ok, re', be', so', si', va', wo', wr', bt', ba', rd', td') ∧ qOut b len σ p 2 ok wr' bt' ba' td' re' be' so' si' va' wo' := by
  have hb1 := hb.1
  have hle := qtk_le (qT_q b len p hp)
  have hse := hle.2.2.2.1 (by omega)
  obtain ⟨n', m', hn8, hm16, t0, t9, hg⟩ := qTq_td hT
  have haf : qaf σ.1 (qT b len p).1 ≠ 99 := by rw [ha, hk]; decide
  -- the word
  obtain ⟨bt1, ba1, e1, T1⟩ := qTq_step hT (qT b len p).1 (qT b len p).2.1 (qT b len p).2.2.1 (qT b len p).2.2.2 haf (by omega) hle.1 hse (by omega) td ⟨n', m', hn8, hm16, t0, t9⟩ hT.2.1 (decide (n' = 8)) 4 (by omega) (by omega)
    (by
      intro f0
      have ⟨g1, g2, g3, g4⟩ := hg f0
      unfold qab
      rw [if_pos hk, g1]
      by_cases c : n' = 8
      · simp [c]
      · have : n' < 8 := by omega
        simp [c, this])
    (by
      intro f0 _
      have ⟨g1, g2, g3, g4⟩ := hg f0
      unfold qab
      rw [if_pos hk]
      exact g3)
  have hR1 := qR_next (σ := σ) hp haf (by omega)
  have haw1 : (qpas (qabs σ (qT b len p).1 (qT b len p).2.1 (qT b len p).2.2.1) (qT b len p).1).1 = 1 := by rw [qpas_1, ha, hk]; rfl
  generalize hσ1 : qpas (qabs σ (qT b len p).1 (qT b len p).2.1 (qT b len p).2.2.1) (qT b len p).1 = σ1 at *
  obtain ⟨so1, si1, va1, wo1, et1, at1⟩ := R_tok_n b len tx hb p hp h N hN
  generalize hp1 : (qT b len p).2.2.2 = p1 at *
  have hp1l : p1 ≤ len := by omega
  have htk1 := R_takes_q b len tx hb p1 hp1l at1 wr bt1 ba1 rd 1 1000000 (by omega) (by omega) N hN
  have pre : R_relationLine N re (qi len) be so si va wo wr bt ba rd tx td = R_relationLine_20 N re (qi len) be so si va wo wr bt1 ba1 rd tx td := by
    unfold R_relationLine
    rw [show (0 : Int32).toNatClampNeg = 0 from rfl, t0]
    by_cases c : n' = 8
    · rw [if_pos (show qi n' = (8 : Int32) by rw [c]; rfl)]
      rw [decide_eq_true c, if_pos rfl] at e1
      rw [h.2.1, show (4 : Int32) = qi 4 from rfl, e1, db_some]
    · rw [if_neg (show ¬ (qi n' = (8 : Int32)) from fun e => c ((qi_eq n' 8 (by omega) (by omega)).mp e))]
      rw [decide_eq_false c, if_neg (by decide)] at e1
      cases e1
      rfl
  have hle1 := qtk_le (qT_q b len p1 hp1l)
  have hk1 := qtk_k (qT_q b len p1 hp1l)
  by_cases k1 : (qT b len p1).1 = 1
  · have hse1 := hle1.2.2.2.1 (by omega)
    have haf1 : qaf σ1.1 (qT b len p1).1 ≠ 99 := by rw [haw1, k1]; decide
    have hv := hk1.2 k1
    obtain ⟨n1, m1, hn1, hm1, t01, t91, hg1⟩ := qTq_td T1
    have en : n1 = n' := (qi_eq _ _ (by omega) (by omega)).mp (t01.symm.trans t0)
    subst en
    obtain ⟨bt2, ba2, e2, T2⟩ := qTq_step T1 (qT b len p1).1 (qT b len p1).2.1 (qT b len p1).2.2.1 (qT b len p1).2.2.2 haf1 (by omega) hle1.1 hse1 (by omega)
      (if n1 < 8 then upd (upd td (1 + n1) (qi (qT b len p1).2.2.1)) 0 (qi (n1 + 1)) else td)
      (by
        by_cases c : n1 < 8
        · rw [if_pos c]
          exact ⟨n1 + 1, m1, by omega, hm1, upd_self _ _ _, by rw [upd_ne _ _ (by omega), upd_ne _ _ (by omega)]; exact t91⟩
        · rw [if_neg c]; exact ⟨n1, m1, hn1, hm1, t0, t91⟩)
      (by
        intro j j1 j2
        by_cases c : n1 < 8
        · rw [if_pos c, upd_ne _ _ (by omega), upd_ne _ _ (by omega)]; exact T1.2.1 j j1 j2
        · rw [if_neg c]; exact T1.2.1 j j1 j2)
      (!decide (1 ≤ (qT b len p1).2.2.1 ∧ (qT b len p1).2.2.1 ≤ 1000000)) 2 (by omega) (by omega)
      (by
        intro f0
        have ⟨g1, g2, g3, g4⟩ := hg1 f0
        unfold qab
        rw [if_neg (by omega), if_neg (by omega), if_pos k1, if_pos haw1]
        by_cases c : 1 ≤ (qT b len p1).2.2.1 ∧ (qT b len p1).2.2.1 ≤ 1000000
        · rw [if_pos c, decide_eq_true c]; rfl
        · rw [if_neg c, decide_eq_false c]; rfl)
      (by
        intro f0 hc
        have ⟨g1, g2, g3, g4⟩ := hg1 f0
        have c : 1 ≤ (qT b len p1).2.2.1 ∧ (qT b len p1).2.2.1 ≤ 1000000 := by
          have : decide (1 ≤ (qT b len p1).2.2.1 ∧ (qT b len p1).2.2.1 ≤ 1000000) = true := by simpa using hc
          exact of_decide_eq_true this
        have n8 : qn σ1.2.2.2.2.2 < 8 := g4.2.2.2.2.1 haw1
        unfold qab
        rw [if_neg (by omega), if_neg (by omega), if_pos k1, if_pos haw1, if_pos c, if_pos n8, if_pos (by omega)]
        obtain ⟨r1, r2, r3, r4, r5⟩ := g3
        have hm' := g4.1.2.1
        refine ⟨?_, ?_, ?_, ?_, ?_⟩
        · rw [upd_self, ← g1]; rfl
        · rw [upd_ne _ _ (by omega), upd_ne _ _ (by omega)]; exact r2
        · rw [upd_ne _ _ (by omega), upd_ne _ _ (by omega)]; exact r3
        · intro r hr
          have hr : r < qn σ1.2.2.2.2.2 + 1 := hr
          rw [upd_ne _ _ (by omega)]
          show _ = qi (if r = qn σ1.2.2.2.2.2 then (qT b len p1).2.2.1 else qrw σ1.2.2.2.2.2 r)
          by_cases er : r = qn σ1.2.2.2.2.2
          · rw [if_pos er, er, g1, upd_self]
          · rw [if_neg er, upd_ne _ _ (by omega)]; exact r4 r (by omega)
        · intro e' he'
          have he' : e' < qm σ1.2.2.2.2.2 := he'
          have := r5 e' he'
          rw [upd_ne _ _ (by omega), upd_ne _ _ (by omega), upd_ne _ _ (by omega), upd_ne _ _ (by omega), upd_ne _ _ (by omega), upd_ne _ _ (by omega)]
          exact this)
    obtain ⟨re2, be2, so2, si2, va2, wo2, et2, at2⟩ := htk1.2 k1 bt2 ba2 e2
    have hR2 := qR_next (σ := σ1) hp1l haf1 (by omega)
    refine ⟨qi 1, re2, be2, so2, si2, va2, wo2, wr, bt2, ba2, qi (qT b len p1).2.2.1, _, ?_, .inr ⟨rfl, _, _, ?_, ?_, ?_, hR1.trans hR2, at2, T2⟩⟩
    · rw [pre]
      unfold R_relationLine_20
      rw [et1, db_some]
      simp only []
      rw [show (1 : Int32) = qi 1 from rfl, show (1000000 : Int32) = qi 1000000 from rfl, et2, db_some]
      simp only []
      rw [if_neg (show ¬ (qi 1 = (0 : Int32)) by decide), show (0 : Int32).toNatClampNeg = 0 from rfl, t0]
      by_cases c : n1 < 8
      · rw [if_neg (show ¬ ((8 : Int32) ≤ qi n1) from fun e => by have := (qi_le 8 n1 (by omega) (by omega)).mp e; omega), if_pos c]
        rw [qi_add, dk_t ((qi_inb _ _ (by omega)).mpr (by omega)), qi_nat _ (by omega)]
        simp only [dn]
        rw [upd_ne (k := 1 + n1) (j := 0) td _ (by omega), t0, qi_add]
      · rw [if_pos (show (8 : Int32) ≤ qi n1 from (qi_le 8 n1 (by omega) (by omega)).mpr (by omega)), if_neg c]
    · omega
    · omega
    · rw [qpas_1, haw1, k1]; rfl
  · have haf1 : qaf σ1.1 (qT b len p1).1 = 99 := by
      rw [haw1]; unfold qaf
      simp [k1]
    have hf := qR_form (σ := σ1) hp1l haf1
    refine ⟨qi 0, qi (qT b len p1).2.2.2, qi (qT b len p1).2.1, so1, si1, va1, wo1, qi (qT b len p1).2.1, bt1, ba1, rd, td, ?_, .inl ⟨rfl, by rw [hR1]; exact hf.1, by rw [hR1]; exact hf.2⟩⟩
    rw [pre]
    unfold R_relationLine_20
    rw [et1, db_some]
    simp only []
    rw [show (1 : Int32) = qi 1 from rfl, show (1000000 : Int32) = qi 1000000 from rfl, htk1.1 k1, db_some]
    simp only []
    rw [if_pos (show qi 0 = (0 : Int32) from rfl)]
    rfl

/-- what the side that is told is, while there is no fault -/
def qSd (aw0 : Nat) (σ : Qs) (x y : Nat) : Prop := x < 256 ∧ y < 256 ∧ (σ.2.1 = 0 → (aw0 = 3 ∧ x = σ.2.2.2.1 ∧ y = 0 ∧ σ.2.2.2.2.1 = 0) ∨ (aw0 = 5 ∧ x = σ.2.2.2.2.1 ∧ y = σ.2.2.2.1))
theorem R_takesSide_loop (b : Nat → Nat) (len : Nat) (tx : Nat → Int32) (hb : qtx' b len tx) (σ0 : Qs) (p0 : Nat) (hp0 : p0 ≤ len) (aw0 : Nat) (haw0 : aw0 = 3 ∨ aw0 = 5) (y : Nat) (wr : Int32) (td : Nat → Int32) (N : Nat) (hN : 600 < N) :
    ∀ (re be so si va : Int32) (wo : Int64) (bt ba : Int32) (x : Nat), (σ0.1 = aw0 ∨ σ0.1 = aw0 + 1) → qAt b len p0 re be so si va wo → qTq σ0 p0 bt ba td → qSd aw0 σ0 x y →
    ∃ r, lp (fun z : Int32 × Int32 × Int32 × Int32 × Int32 × Int64 × Int32 × Int32 × Int32 => R_takesSide_b18 N z.1 (qi len) z.2.1 z.2.2.1 z.2.2.2.1 z.2.2.2.2.1 z.2.2.2.2.2.1 wr z.2.2.2.2.2.2.1 z.2.2.2.2.2.2.2.1 z.2.2.2.2.2.2.2.2 tx td (qi y)) N (re, be, so, si, va, wo, bt, ba, qi x) = some r ∧
      ∃ σ p re' be' so' si' va' wo' bt' ba' x', r = (re', be', so', si', va', wo', bt', ba', qi x') ∧ p0 ≤ p ∧ p ≤ len ∧ (σ.1 = aw0 ∨ σ.1 = aw0 + 1) ∧ (qT b len p).1 ≠ 1 ∧ (p0 < p → σ.1 = aw0 + 1) ∧ (p = p0 → σ = σ0) ∧ qR b len σ0 p0 = qR b len σ p ∧ qAt b len p re' be' so' si' va' wo' ∧ qTq σ p bt' ba' td ∧ qSd aw0 σ x' y := by
  intro re be so si va wo bt ba x haw hA hT hS
  have hb1 := hb.1
  refine qlp_dn (Inv := fun m z => ∃ σ p re' be' so' si' va' wo' bt' ba' x', m = len - p ∧ z = (re', be', so', si', va', wo', bt', ba', qi x') ∧ p0 ≤ p ∧ p ≤ len ∧ (σ.1 = aw0 ∨ σ.1 = aw0 + 1) ∧ (p0 < p → σ.1 = aw0 + 1) ∧ (p = p0 → σ = σ0) ∧ qR b len σ0 p0 = qR b len σ p ∧ qAt b len p re' be' so' si' va' wo' ∧ qTq σ p bt' ba' td ∧ qSd aw0 σ x' y)
    (Q := _) ?_ (len - p0) _ ⟨σ0, p0, re, be, so, si, va, wo, bt, ba, x, rfl, rfl, Nat.le_refl _, hp0, haw, fun h => by omega, fun _ => rfl, rfl, hA, hT, hS⟩ N (by omega)
  rintro m z ⟨σ, p, re, be, so, si, va, wo, bt, ba, x, hm, rfl, hpp, hp, haw, haw', hsame, hR, hA, hT, hS⟩
  have hle := qtk_le (qT_q b len p hp)
  have hk := qtk_k (qT_q b len p hp)
  have hnum := qks_num hA.2.2.1
  by_cases k1 : (qT b len p).1 = 1
  · left
    have hse := hle.2.2.2.1 (by omega)
    have hv := hk.2 k1
    have haf : qaf σ.1 (qT b len p).1 ≠ 99 := by
      rw [k1]
      rcases haw0 with rfl | rfl <;> rcases haw with e | e <;> rw [e] <;> decide
    have hafn : qaf σ.1 (qT b len p).1 = aw0 + 1 := by
      rw [k1]
      rcases haw0 with rfl | rfl <;> rcases haw with e | e <;> rw [e] <;> rfl
    have hane : σ.1 ≠ 1 ∧ σ.1 ≠ 7 ∧ σ.1 ≠ 8 := by omega
    obtain ⟨n', m', hn8, hm16, t0, t9, hg⟩ := qTq_td hT
    obtain ⟨hx, hy, hS⟩ := hS
    have hva := hA.2.2.2 k1
    have hso : so = (3 : Int32) := hnum.mpr k1
    have hxy : y ||| x < 256 := q_or_lt (n := 8) hy hx
    obtain ⟨bt', ba', e1, T1⟩ := qTq_step hT (qT b len p).1 (qT b len p).2.1 (qT b len p).2.2.1 (qT b len p).2.2.2 haf (by omega) hle.1 hse (by omega) td ⟨n', m', hn8, hm16, t0, t9⟩ hT.2.1
      (decide (n' ≤ (qT b len p).2.2.1) || (y ||| x).testBit (qT b len p).2.2.1) (if n' ≤ (qT b len p).2.2.1 then 2 else 3) (by split <;> omega) (by split <;> omega)
      (by
        intro f0
        have ⟨g1, g2, g3, g4⟩ := hg f0
        unfold qab
        rw [if_neg (by omega), if_neg (by omega), if_pos k1, if_neg hane.1, if_neg hane.2.1, if_neg hane.2.2, g1]
        by_cases c : (qT b len p).2.2.1 < n'
        · rw [if_pos c]
          have hor : σ.2.2.2.1 ||| σ.2.2.2.2.1 = y ||| x := by
            rcases hS f0 with ⟨_, h1, h2, h3⟩ | ⟨_, h1, h2⟩
            · rw [h1, h2, h3, Nat.or_zero, Nat.zero_or]
            · rw [h1, h2]
          rw [hor]
          have hnd : decide (n' ≤ (qT b len p).2.2.1) = false := decide_eq_false (by omega)
          rw [hnd, Bool.false_or]
          rcases q_dich ((y ||| x).testBit (qT b len p).2.2.1) with tb | tb
          · rw [if_pos ((q_and_pow _ _).mpr tb), tb]
            split <;> rfl
          · rw [if_neg (fun e => by rw [(q_and_pow _ _).mp e] at tb; cases tb), tb, if_pos rfl, if_neg (by omega)]
        · have hge : n' ≤ (qT b len p).2.2.1 := by omega
          rw [if_neg c, decide_eq_true hge, Bool.true_or, if_pos rfl, if_pos hge])
      (by
        intro f0 hc
        have ⟨g1, g2, g3, g4⟩ := hg f0
        have hc1 : decide (n' ≤ (qT b len p).2.2.1) = false ∧ (y ||| x).testBit (qT b len p).2.2.1 = false := by simpa using hc
        have c : (qT b len p).2.2.1 < n' := by have := of_decide_eq_false hc1.1; omega
        have hor : σ.2.2.2.1 ||| σ.2.2.2.2.1 = y ||| x := by
          rcases hS f0 with ⟨_, h1, h2, h3⟩ | ⟨_, h1, h2⟩
          · rw [h1, h2, h3, Nat.or_zero, Nat.zero_or]
          · rw [h1, h2]
        unfold qab
        rw [if_neg (by omega), if_neg (by omega), if_pos k1, if_neg hane.1, if_neg hane.2.1, if_neg hane.2.2, g1, if_pos c, hor, if_pos ((q_and_pow _ _).mpr hc1.2)]
        split <;> exact g3)
    obtain ⟨so1, si1, va1, wo1, et1, at1⟩ := R_tok_n b len tx hb p hp hA N hN
    have hR1 := qR_next (σ := σ) hp haf (by omega)
    have haw1 : (qpas (qabs σ (qT b len p).1 (qT b len p).2.1 (qT b len p).2.2.1) (qT b len p).1).1 = aw0 + 1 := by rw [qpas_1]; exact hafn
    -- the new side
    have hSn : qSd aw0 (qpas (qabs σ (qT b len p).1 (qT b len p).2.1 (qT b len p).2.2.1) (qT b len p).1) (if (decide (n' ≤ (qT b len p).2.2.1) || (y ||| x).testBit (qT b len p).2.2.1) = true then x else x ||| 2 ^ (qT b len p).2.2.1) y := by
      refine ⟨?_, hy, ?_⟩
      · split
        · exact hx
        · rename_i hc
          have hc1 : decide (n' ≤ (qT b len p).2.2.1) = false ∧ (y ||| x).testBit (qT b len p).2.2.1 = false := by simpa using hc
          have c : (qT b len p).2.2.1 < n' := by have := of_decide_eq_false hc1.1; omega
          exact q_or_lt (n := 8) hx (Nat.pow_lt_pow_right (a := 2) (n := 8) (by omega) (by omega))
      · intro f0'
        have hcase : σ.2.1 = 0 ∧ (decide (n' ≤ (qT b len p).2.2.1) || (y ||| x).testBit (qT b len p).2.2.1) = false := by
          by_cases f0 : σ.2.1 = 0
          · refine ⟨f0, ?_⟩
            have ⟨g1, g2, g3, g4⟩ := hg f0
            have f0' : (qabs σ (qT b len p).1 (qT b len p).2.1 (qT b len p).2.2.1).2.1 = 0 := f0'
            unfold qabs at f0'
            rw [if_neg (by simp [f0])] at f0'
            have f0' : (qab σ.1 σ.2.2.2.1 σ.2.2.2.2.1 σ.2.2.2.2.2 (qT b len p).1 (qT b len p).2.2.1).1 = 0 := f0'
            unfold qab at f0'
            rw [if_neg (by omega), if_neg (by omega), if_pos k1, if_neg hane.1, if_neg hane.2.1, if_neg hane.2.2, g1] at f0'
            by_cases c : (qT b len p).2.2.1 < n'
            · rw [if_pos c] at f0'
              have hor : σ.2.2.2.1 ||| σ.2.2.2.2.1 = y ||| x := by
                rcases hS f0 with ⟨_, h1, h2, h3⟩ | ⟨_, h1, h2⟩
                · rw [h1, h2, h3, Nat.or_zero, Nat.zero_or]
                · rw [h1, h2]
              rw [hor] at f0'
              have hnd : decide (n' ≤ (qT b len p).2.2.1) = false := decide_eq_false (by omega)
              rw [hnd, Bool.false_or]
              rcases q_dich ((y ||| x).testBit (qT b len p).2.2.1) with tb | tb
              · exact tb
              · rw [if_neg (fun e => by rw [(q_and_pow _ _).mp e] at tb; cases tb)] at f0'
                simp at f0'
            · rw [if_neg c] at f0'
              simp at f0'
          · exfalso
            have : qabs σ (qT b len p).1 (qT b len p).2.1 (qT b len p).2.2.1 = σ := by unfold qabs; rw [if_pos f0]
            have f0' : (qabs σ (qT b len p).1 (qT b len p).2.1 (qT b len p).2.2.1).2.1 = 0 := f0'
            rw [this] at f0'
            exact f0 f0'
        obtain ⟨f0, hc⟩ := hcase
        have hc1 : decide (n' ≤ (qT b len p).2.2.1) = false ∧ (y ||| x).testBit (qT b len p).2.2.1 = false := by simpa using hc
        have c : (qT b len p).2.2.1 < n' := by have := of_decide_eq_false hc1.1; omega
        have ⟨g1, g2, g3, g4⟩ := hg f0
        rw [if_neg (by rw [hc]; decide)]
        have hor : σ.2.2.2.1 ||| σ.2.2.2.2.1 = y ||| x := by
          rcases hS f0 with ⟨_, h1, h2, h3⟩ | ⟨_, h1, h2⟩
          · rw [h1, h2, h3, Nat.or_zero, Nat.zero_or]
          · rw [h1, h2]
        have hqa : qab σ.1 σ.2.2.2.1 σ.2.2.2.2.1 σ.2.2.2.2.2 (qT b len p).1 (qT b len p).2.2.1 = (if σ.1 = 3 ∨ σ.1 = 4 then (0, σ.2.2.2.1 ||| 2 ^ (qT b len p).2.2.1, σ.2.2.2.2.1, σ.2.2.2.2.2) else (0, σ.2.2.2.1, σ.2.2.2.2.1 ||| 2 ^ (qT b len p).2.2.1, σ.2.2.2.2.2)) := by
          unfold qab
          rw [if_neg (by omega), if_neg (by omega), if_pos k1, if_neg hane.1, if_neg hane.2.1, if_neg hane.2.2, g1, if_pos c, hor, if_pos ((q_and_pow _ _).mpr hc1.2)]
        have hl : (qpas (qabs σ (qT b len p).1 (qT b len p).2.1 (qT b len p).2.2.1) (qT b len p).1).2.2.2.1 = (qab σ.1 σ.2.2.2.1 σ.2.2.2.2.1 σ.2.2.2.2.2 (qT b len p).1 (qT b len p).2.2.1).2.1 := by
          show (qabs σ (qT b len p).1 (qT b len p).2.1 (qT b len p).2.2.1).2.2.2.1 = _
          unfold qabs
          rw [if_neg (by simp [f0])]
        have hr : (qpas (qabs σ (qT b len p).1 (qT b len p).2.1 (qT b len p).2.2.1) (qT b len p).1).2.2.2.2.1 = (qab σ.1 σ.2.2.2.1 σ.2.2.2.2.1 σ.2.2.2.2.2 (qT b len p).1 (qT b len p).2.2.1).2.2.1 := by
          show (qabs σ (qT b len p).1 (qT b len p).2.1 (qT b len p).2.2.1).2.2.2.2.1 = _
          unfold qabs
          rw [if_neg (by simp [f0])]
        rw [hl, hr, hqa]
        rcases hS f0 with ⟨h0, h1, h2, h3⟩ | ⟨h0, h1, h2⟩
        · left
          rw [if_pos (by omega)]
          exact ⟨h0, by rw [h1], h2, h3⟩
        · right
          rw [if_neg (by omega)]
          exact ⟨h0, by rw [h1], h2⟩
    refine ⟨(qi (qT b len (qT b len p).2.2.2).2.2.2, qi (qT b len (qT b len p).2.2.2).2.1, so1, si1, va1, wo1, bt', ba', qi (if (decide (n' ≤ (qT b len p).2.2.1) || (y ||| x).testBit (qT b len p).2.2.1) = true then x else x ||| 2 ^ (qT b len p).2.2.1)), len - (qT b len p).2.2.2, ?_,
      ⟨_, (qT b len p).2.2.2, _, _, so1, si1, va1, wo1, bt', ba', _, rfl, rfl, by omega, by omega, .inr haw1, fun _ => haw1, fun h => by omega, hR.trans hR1, at1, T1, hSn⟩, by omega⟩
    have e95 : ∀ bt ba sd, R_takesSide_95 N re (qi len) be so si va wo wr bt ba sd tx td (qi y) = some (.inl (qi (qT b len (qT b len p).2.2.2).2.2.2, qi (qT b len (qT b len p).2.2.2).2.1, so1, si1, va1, wo1, bt, ba, sd)) := by
      intro bt ba sd
      unfold R_takesSide_95
      rw [et1]; rfl
    simp only []
    unfold R_takesSide_b18
    rw [if_pos hso, show (0 : Int32).toNatClampNeg = 0 from rfl, t0]
    by_cases c : (qT b len p).2.2.1 < n'
    · have hnd : decide (n' ≤ (qT b len p).2.2.1) = false := decide_eq_false (by omega)
      rw [hnd, Bool.false_or] at e1 ⊢
      have hbit : ((qi y ||| qi x) >>> (va &&& 31)) &&& (1 : Int32) = qi ((y ||| x) / 2 ^ (qT b len p).2.2.1 &&& 1) := by
        rw [hva]
        simp (disch := omega) only [qi_lit, qi_m1, qi_add, qi_mul, qi_and, qi_or, qi_xor, qi_not, qi_shl, qi_shr, qi_and31, qi_nat, qi_inb, qi_eq, qi_lt, qi_le, qi_sub]
      have hbi1 : ((y ||| x) / 2 ^ (qT b len p).2.2.1 &&& 1) ≤ 1 := Nat.and_le_right
      have hshl : (1 : Int32) <<< (va &&& 31) = qi (2 ^ (qT b len p).2.2.1) := by
        rw [hva]
        simp (disch := omega) only [qi_lit, qi_m1, qi_add, qi_mul, qi_and, qi_or, qi_xor, qi_not, qi_shl, qi_shr, qi_and31, qi_nat, qi_inb, qi_eq, qi_lt, qi_le, qi_sub]
      rw [if_pos (show va < qi n' by rw [hva]; exact (qi_lt _ _ (by omega) (by omega)).mpr c), hbit]
      rcases q_dich ((y ||| x).testBit (qT b len p).2.2.1) with tb | tb
      · have hz := (q_bit _ _).mpr tb
        rw [hz, if_neg (show ¬ (qi 0 = (1 : Int32)) by decide), hshl, qi_or]
        rw [tb, if_neg (by decide)] at e1
        rw [tb, if_neg (by decide)]
        cases e1
        simp only [dn]
        rw [e95]
      · have hz : (y ||| x) / 2 ^ (qT b len p).2.2.1 &&& 1 = 1 := by
          have : ¬ ((y ||| x) / 2 ^ (qT b len p).2.2.1 &&& 1 = 0) := fun e => by rw [(q_bit _ _).mp e] at tb; cases tb
          omega
        rw [hz, if_pos (show qi 1 = (1 : Int32) from rfl)]
        rw [tb, if_pos rfl, if_neg (by omega)] at e1
        rw [tb, if_pos rfl, hA.2.1, show (3 : Int32) = qi 3 from rfl, e1, db_some, ← hA.2.1, e95]
    · have hnd : decide (n' ≤ (qT b len p).2.2.1) = true := decide_eq_true (by omega)
      rw [hnd, Bool.true_or] at e1 ⊢
      rw [if_neg (show ¬ (va < qi n') by rw [hva]; exact fun e => c ((qi_lt _ _ (by omega) (by omega)).mp e))]
      rw [if_pos rfl, if_pos (by omega)] at e1
      rw [if_pos rfl, hA.2.1, show (2 : Int32) = qi 2 from rfl, e1, db_some, ← hA.2.1, e95]
  · right
    refine ⟨(re, be, so, si, va, wo, bt, ba, qi x), ?_, σ, p, re, be, so, si, va, wo, bt, ba, x, rfl, hpp, hp, haw, k1, haw', hsame, hR, hA, hT, hS⟩
    simp only []
    unfold R_takesSide_b18
    rw [if_neg (show ¬ (so = (3 : Int32)) from fun e => k1 (hnum.mp e))]

theorem R_edge_q (b : Nat → Nat) (len : Nat) (tx : Nat → Int32) (hb : qtx' b len tx) (p : Nat) (hp : p ≤ len) {re be so si va : Int32} {wo : Int64} (h : qAt b len p re be so si va wo) (σ : Qs) (ha : σ.1 = 0) (hk : (qT b len p).1 = 7)
    (wr bt ba rd sd : Int32) (td : Nat → Int32) (hT : qTq σ p bt ba td) (N : Nat) (hN : 600 < N) :
    ∃ ok re' be' so' si' va' wo' wr' bt' ba' rd' sd' td', R_edgeLine N re (qi len) be so si va wo wr bt ba rd sd tx td = some (ok, re', be', so', si', va', wo', wr', bt', ba', rd', sd', td') ∧ qOut b len σ p 2 ok wr' bt' ba' td' re' be' so' si' va' wo' := by
  have hb1 := hb.1
  have hle := qtk_le (qT_q b len p hp)
  have hse := hle.2.2.2.1 (by omega)
  obtain ⟨n', m', hn8, hm16, t0, t9, hg⟩ := qTq_td hT
  have haf : qaf σ.1 (qT b len p).1 ≠ 99 := by rw [ha, hk]; decide
  -- the word
  obtain ⟨bt1, ba1, e1, T1⟩ := qTq_step hT (qT b len p).1 (qT b len p).2.1 (qT b len p).2.2.1 (qT b len p).2.2.2 haf (by omega) hle.1 hse (by omega) td ⟨n', m', hn8, hm16, t0, t9⟩ hT.2.1 (decide (m' = 16)) 4 (by omega) (by omega)
    (by
      intro f0
      have ⟨g1, g2, g3, g4⟩ := hg f0
      unfold qab
      rw [if_neg (by omega), if_pos hk, g2]
      by_cases c : m' = 16
      · simp [c]
      · have : m' < 16 := by omega
        simp [c, this])
    (by
      intro f0 _
      have ⟨g1, g2, g3, g4⟩ := hg f0
      unfold qab
      rw [if_neg (by omega), if_pos hk]
      exact g3)
  have hR1 := qR_next (σ := σ) hp haf (by omega)
  have haw1 : (qpas (qabs σ (qT b len p).1 (qT b len p).2.1 (qT b len p).2.2.1) (qT b len p).1).1 = 3 := by rw [qpas_1, ha, hk]; rfl
  generalize hσ1 : qpas (qabs σ (qT b len p).1 (qT b len p).2.1 (qT b len p).2.2.1) (qT b len p).1 = σ1 at *
  obtain ⟨so1, si1, va1, wo1, et1, at1⟩ := R_tok_n b len tx hb p hp h N hN
  generalize hp1 : (qT b len p).2.2.2 = p1 at *
  have hp1l : p1 ≤ len := by omega
  have pre : R_edgeLine N re (qi len) be so si va wo wr bt ba rd sd tx td = R_edgeLine_21 N re (qi len) be so si va wo wr bt1 ba1 rd sd tx td := by
    unfold R_edgeLine
    rw [show (9 : Int32).toNatClampNeg = 9 from rfl, t9]
    by_cases c : m' = 16
    · rw [if_pos (show qi m' = (16 : Int32) by rw [c]; rfl)]
      rw [decide_eq_true c, if_pos rfl] at e1
      rw [h.2.1, show (4 : Int32) = qi 4 from rfl, e1, db_some]
    · rw [if_neg (show ¬ (qi m' = (16 : Int32)) from fun e => c ((qi_eq m' 16 (by omega) (by omega)).mp e))]
      rw [decide_eq_false c, if_neg (by decide)] at e1
      cases e1
      rfl
  rw [pre]
  unfold R_edgeLine_21
  rw [et1, db_some]
  simp only []
  have hnum1 := qks_num at1.2.2.1
  -- the left side
  by_cases k1 : (qT b len p1).1 = 1
  · have hS1 : qSd 3 σ1 0 0 := by
      refine ⟨by omega, by omega, fun f0 => .inl ⟨rfl, ?_, rfl, ?_⟩⟩
      · obtain ⟨_, _, _, _, _, _, hg1⟩ := qTq_td T1
        exact ((hg1 f0).2.2.2.2.2.2.2.2.1 haw1).1.symm
      · obtain ⟨_, _, _, _, _, _, hg1⟩ := qTq_td T1
        exact ((hg1 f0).2.2.2.2.2.2.2.2.1 haw1).2
    obtain ⟨r, er, σ2, p2, re2, be2, so2, si2, va2, wo2, bt2, ba2, x2, rfl, l1, l2, l3, l4, l5, l6, l7, A2, T2, S2⟩ := R_takesSide_loop b len tx hb σ1 p1 hp1l 3 (.inl rfl) 0 wr td N hN _ _ _ _ _ _ bt1 ba1 0 (.inl haw1) at1 T1 hS1
    have hpl : p1 < p2 := by
      by_cases c : p1 < p2
      · exact c
      · have : p2 = p1 := by omega
        rw [this] at l4
        exact absurd k1 l4
    have haw2 : σ2.1 = 4 := l5 hpl
    have eside : R_takesSide N (qi (qT b len p1).2.2.2) (qi len) (qi (qT b len p1).2.1) so1 si1 va1 wo1 wr bt1 ba1 sd tx td (0 : Int32) = some (qi 1, re2, be2, so2, si2, va2, wo2, wr, bt2, ba2, qi x2) := by
      unfold R_takesSide
      rw [if_pos (show so1 = (3 : Int32) from hnum1.mpr k1)]
      unfold R_takesSide_18
      rw [show (0 : Int32) = qi 0 from rfl, er]
      rfl
    rw [eside, db_some]
    simp only []
    rw [if_neg (show ¬ (qi 1 = (0 : Int32)) by decide)]
    -- the dash
    have hsg := R_takesSign_q b len tx hb p2 l2 A2 wr 45 3 (qks_sign A2.2.2.1).2.1 N hN
    have hle2 := qtk_le (qT_q b len p2 l2)
    by_cases k3 : (qT b len p2).1 = 3
    · have haf2 : qaf σ2.1 (qT b len p2).1 ≠ 99 := by rw [haw2, k3]; decide
      have hse2 := hle2.2.2.2.1 (by omega)
      obtain ⟨n2, m2, hn2, hm2, t02, t92, hg2⟩ := qTq_td T2
      have other : ∀ l r g, qab σ2.1 l r g (qT b len p2).1 (qT b len p2).2.2.1 = (0, l, r, g) := by
        intro l r g; unfold qab; rw [if_neg (by omega), if_neg (by omega), if_neg (by omega)]
      obtain ⟨bt3, ba3, e3, T3⟩ := qTq_step T2 (qT b len p2).1 (qT b len p2).2.1 (qT b len p2).2.2.1 (qT b len p2).2.2.2 haf2 (by omega) hle2.1 hse2 (by omega) td ⟨n2, m2, hn2, hm2, t02, t92⟩ T2.2.1 false 2 (by omega) (by omega)
        (by intro f0; rw [other]; rfl) (by intro f0 _; rw [other]; exact (hg2 f0).2.2.1)
      rw [if_neg (by decide)] at e3
      cases e3
      obtain ⟨re3, be3, so3, si3, va3, wo3, et3, at3⟩ := hsg.2 k3
      have hR3 := qR_next (σ := σ2) l2 haf2 (by omega)
      have haw3 : (qpas (qabs σ2 (qT b len p2).1 (qT b len p2).2.1 (qT b len p2).2.2.1) (qT b len p2).1).1 = 5 := by rw [qpas_1, haw2, k3]; rfl
      have hs3 : (σ2.2.1 = 0 → (qpas (qabs σ2 (qT b len p2).1 (qT b len p2).2.1 (qT b len p2).2.2.1) (qT b len p2).1).2.2.2.1 = σ2.2.2.2.1) ∧ ((qpas (qabs σ2 (qT b len p2).1 (qT b len p2).2.1 (qT b len p2).2.2.1) (qT b len p2).1).2.1 = 0 → σ2.2.1 = 0) := by
        constructor
        · intro f0
          show (qabs σ2 (qT b len p2).1 (qT b len p2).2.1 (qT b len p2).2.2.1).2.2.2.1 = _
          unfold qabs
          rw [if_neg (by simp [f0]), other]
        · intro f0'
          by_cases f0 : σ2.2.1 = 0
          · exact f0
          · have : qabs σ2 (qT b len p2).1 (qT b len p2).2.1 (qT b len p2).2.2.1 = σ2 := by unfold qabs; rw [if_pos f0]
            have f0' : (qabs σ2 (qT b len p2).1 (qT b len p2).2.1 (qT b len p2).2.2.1).2.1 = 0 := f0'
            rw [this] at f0'
            exact absurd f0' f0
      generalize hσ3 : qpas (qabs σ2 (qT b len p2).1 (qT b len p2).2.1 (qT b len p2).2.2.1) (qT b len p2).1 = σ3 at *
      rw [show (45 : Int32) = qi 45 from rfl, et3, db_some]
      simp only []
      rw [if_neg (show ¬ (qi 1 = (0 : Int32)) by decide)]
      generalize hp3 : (qT b len p2).2.2.2 = p3 at *
      have hp3l : p3 ≤ len := by omega
      have hnum3 := qks_num at3.2.2.1
      by_cases k4 : (qT b len p3).1 = 1
      · -- the right side
        have hS3 : qSd 5 σ3 0 x2 := by
          refine ⟨by omega, S2.1, fun f0 => .inr ⟨rfl, ?_, ?_⟩⟩
          · obtain ⟨_, _, _, _, _, _, hg3⟩ := qTq_td T3
            exact ((hg3 f0).2.2.2.2.2.2.2.2.2.1 (.inr haw3)).2.symm
          · have f2 := hs3.2 f0
            rcases S2.2.2 f2 with ⟨_, h1, _⟩ | ⟨h0, _⟩
            · rw [hs3.1 f2]; exact h1
            · omega
        obtain ⟨r, er4, σ4, p4, re4, be4, so4, si4, va4, wo4, bt4, ba4, x4, rfl, q1, q2, q3, q4, q5, q6, q7, A4, T4, S4⟩ := R_takesSide_loop b len tx hb σ3 p3 hp3l 5 (.inr rfl) x2 wr td N hN _ _ _ _ _ _ _ _ 0 (.inl haw3) at3 T3 hS3
        have hpl4 : p3 < p4 := by
          by_cases c : p3 < p4
          · exact c
          · have : p4 = p3 := by omega
            rw [this] at q4
            exact absurd k4 q4
        have haw4 : σ4.1 = 6 := q5 hpl4
        have eside4 : R_takesSide N re3 (qi len) be3 so3 si3 va3 wo3 wr bt2 ba2 (qi x2) tx td (qi x2) = some (qi 1, re4, be4, so4, si4, va4, wo4, wr, bt4, ba4, qi x4) := by
          unfold R_takesSide
          rw [if_pos (show so3 = (3 : Int32) from hnum3.mpr k4)]
          unfold R_takesSide_18
          rw [show (0 : Int32) = qi 0 from rfl, er4]
          rfl
        rw [eside4, db_some]
        simp only []
        rw [if_neg (show ¬ (qi 1 = (0 : Int32)) by decide)]
        have hle4 := qtk_le (qT_q b len p4 q2)
        have hwd := (qks_word A4.2.2.1).2.2.2
        by_cases k9 : (qT b len p4).1 = 9
        · have ⟨w1, w2⟩ := hwd.mpr k9
          rw [if_pos (show so4 = (2 : Int32) from w1), if_pos (show wo4 = (25209 : Int64) from w2)]
          have haf4 : qaf σ4.1 (qT b len p4).1 ≠ 99 := by rw [haw4, k9]; decide
          have hse4 := hle4.2.2.2.1 (by omega)
          obtain ⟨n4, m4, hn4, hm4, t04, t94, hg4⟩ := qTq_td T4
          have other4 : ∀ l r g, qab σ4.1 l r g (qT b len p4).1 (qT b len p4).2.2.1 = (0, l, r, g) := by
            intro l r g; unfold qab; rw [if_neg (by omega), if_neg (by omega), if_neg (by omega)]
          obtain ⟨bt5, ba5, e5, T5⟩ := qTq_step T4 (qT b len p4).1 (qT b len p4).2.1 (qT b len p4).2.2.1 (qT b len p4).2.2.2 haf4 (by omega) hle4.1 hse4 (by omega) td ⟨n4, m4, hn4, hm4, t04, t94⟩ T4.2.1 false 2 (by omega) (by omega)
            (by intro f0; rw [other4]; rfl) (by intro f0 _; rw [other4]; exact (hg4 f0).2.2.1)
          rw [if_neg (by decide)] at e5
          cases e5
          obtain ⟨so5, si5, va5, wo5, et5, at5⟩ := R_tok_n b len tx hb p4 q2 A4 N hN
          have hR5 := qR_next (σ := σ4) q2 haf4 (by omega)
          have haw5 : (qpas (qabs σ4 (qT b len p4).1 (qT b len p4).2.1 (qT b len p4).2.2.1) (qT b len p4).1).1 = 7 := by rw [qpas_1, haw4, k9]; rfl
          have hs5 : (qpas (qabs σ4 (qT b len p4).1 (qT b len p4).2.1 (qT b len p4).2.2.1) (qT b len p4).1).2.1 = 0 → x2 = (qpas (qabs σ4 (qT b len p4).1 (qT b len p4).2.1 (qT b len p4).2.2.1) (qT b len p4).1).2.2.2.1 ∧ x4 = (qpas (qabs σ4 (qT b len p4).1 (qT b len p4).2.1 (qT b len p4).2.2.1) (qT b len p4).1).2.2.2.2.1 := by
            intro f0'
            have f0' : (qabs σ4 (qT b len p4).1 (qT b len p4).2.1 (qT b len p4).2.2.1).2.1 = 0 := f0'
            by_cases f0 : σ4.2.1 = 0
            · show x2 = (qabs σ4 (qT b len p4).1 (qT b len p4).2.1 (qT b len p4).2.2.1).2.2.2.1 ∧ x4 = (qabs σ4 (qT b len p4).1 (qT b len p4).2.1 (qT b len p4).2.2.1).2.2.2.2.1
              unfold qabs
              rw [if_neg (by simp [f0]), other4]
              rcases S4.2.2 f0 with ⟨h0, _⟩ | ⟨_, h1, h2⟩
              · omega
              · exact ⟨h2, h1⟩
            · have : qabs σ4 (qT b len p4).1 (qT b len p4).2.1 (qT b len p4).2.2.1 = σ4 := by unfold qabs; rw [if_pos f0]
              rw [this] at f0'
              exact absurd f0' f0
          generalize hσ5 : qpas (qabs σ4 (qT b len p4).1 (qT b len p4).2.1 (qT b len p4).2.2.1) (qT b len p4).1 = σ5 at *
          rw [et5, db_some]
          simp only []
          generalize hp5 : (qT b len p4).2.2.2 = p5 at *
          have hp5l : p5 ≤ len := by omega
          have htk5 := R_takes_q b len tx hb p5 hp5l at5 wr bt4 ba4 rd 1 100000 (by omega) (by omega) N hN
          have hle5 := qtk_le (qT_q b len p5 hp5l)
          have hk5 := qtk_k (qT_q b len p5 hp5l)
          by_cases k5 : (qT b len p5).1 = 1
          · have hse5 := hle5.2.2.2.1 (by omega)
            have haf5 : qaf σ5.1 (qT b len p5).1 ≠ 99 := by rw [haw5, k5]; decide
            have hv := hk5.2 k5
            obtain ⟨n5, m5, hn5, hm5, t05, t95, hg5⟩ := qTq_td T5
            have x4l := S4.1
            have x2l := S4.2.1
            obtain ⟨bt6, ba6, e6, T6⟩ := qTq_step T5 (qT b len p5).1 (qT b len p5).2.1 (qT b len p5).2.2.1 (qT b len p5).2.2.2 haf5 (by omega) hle5.1 hse5 (by omega)
              (if m5 < 16 then upd (upd (upd (upd td (10 + 3 * m5) (qi x2)) (10 + 3 * m5 + 1) (qi x4)) (10 + 3 * m5 + 2) (qi (qT b len p5).2.2.1)) 9 (qi (m5 + 1)) else td)
              (by
                by_cases c : m5 < 16
                · rw [if_pos c]
                  exact ⟨n5, m5 + 1, hn5, by omega, by rw [upd_ne _ _ (by omega), upd_ne _ _ (by omega), upd_ne _ _ (by omega), upd_ne _ _ (by omega)]; exact t05, upd_self _ _ _⟩
                · rw [if_neg c]; exact ⟨n5, m5, hn5, hm5, t05, t95⟩)
              (by
                intro j j1 j2
                by_cases c : m5 < 16
                · rw [if_pos c, upd_ne _ _ (by omega), upd_ne _ _ (by omega), upd_ne _ _ (by omega), upd_ne _ _ (by omega)]; exact T5.2.1 j j1 j2
                · rw [if_neg c]; exact T5.2.1 j j1 j2)
              (!decide (1 ≤ (qT b len p5).2.2.1 ∧ (qT b len p5).2.2.1 ≤ 100000)) 2 (by omega) (by omega)
              (by
                intro f0
                unfold qab
                rw [if_neg (by omega), if_neg (by omega), if_pos k5, if_neg (by omega), if_pos haw5]
                by_cases c : 1 ≤ (qT b len p5).2.2.1 ∧ (qT b len p5).2.2.1 ≤ 100000
                · rw [if_pos c, decide_eq_true c]; rfl
                · rw [if_neg c, decide_eq_false c]; rfl)
              (by
                intro f0 hc
                have ⟨g1, g2, g3, g4⟩ := hg5 f0
                have ⟨sx, sy⟩ := hs5 f0
                have c : 1 ≤ (qT b len p5).2.2.1 ∧ (qT b len p5).2.2.1 ≤ 100000 := by
                  have : decide (1 ≤ (qT b len p5).2.2.1 ∧ (qT b len p5).2.2.1 ≤ 100000) = true := by simpa using hc
                  exact of_decide_eq_true this
                have m16 : qm σ5.2.2.2.2.2 < 16 := g4.2.2.2.2.2.2.2.2 (by omega)
                unfold qab
                rw [if_neg (by omega), if_neg (by omega), if_pos k5, if_neg (by omega), if_pos haw5, if_pos c, if_pos m16, if_pos (by omega)]
                obtain ⟨r1, r2, r3, r4, r5⟩ := g3
                have hn' := g4.1.1
                refine ⟨?_, ?_, ?_, ?_, ?_⟩
                · rw [upd_ne _ _ (by omega), upd_ne _ _ (by omega), upd_ne _ _ (by omega), upd_ne _ _ (by omega)]; exact r1
                · rw [upd_self, ← g2]; rfl
                · rw [upd_ne _ _ (by omega), upd_ne _ _ (by omega), upd_ne _ _ (by omega), upd_ne _ _ (by omega)]; exact r3
                · intro r hr
                  have hr : r < qn σ5.2.2.2.2.2 := hr
                  rw [upd_ne _ _ (by omega), upd_ne _ _ (by omega), upd_ne _ _ (by omega), upd_ne _ _ (by omega)]; exact r4 r hr
                · intro e' he'
                  have he' : e' < qm σ5.2.2.2.2.2 + 1 := he'
                  show _ = qi (if e' = qm σ5.2.2.2.2.2 then σ5.2.2.2.1 else qle σ5.2.2.2.2.2 e') ∧ _ = qi (if e' = qm σ5.2.2.2.2.2 then σ5.2.2.2.2.1 else qri σ5.2.2.2.2.2 e') ∧ _ = qi (if e' = qm σ5.2.2.2.2.2 then (qT b len p5).2.2.1 else qby σ5.2.2.2.2.2 e')
                  rw [upd_ne (k := 9) _ _ (by omega), upd_ne (k := 9) _ _ (by omega), upd_ne (k := 9) _ _ (by omega)]
                  by_cases ee : e' = qm σ5.2.2.2.2.2
                  · rw [if_pos ee, if_pos ee, if_pos ee, ee, g2, ← sx, ← sy]
                    refine ⟨?_, ?_, ?_⟩
                    · rw [upd_ne _ _ (by omega), upd_ne _ _ (by omega), upd_self]
                    · rw [upd_ne _ _ (by omega), upd_self]
                    · rw [upd_self]
                  · rw [if_neg ee, if_neg ee, if_neg ee]
                    have := r5 e' (by omega)
                    refine ⟨?_, ?_, ?_⟩
                    · rw [upd_ne _ _ (by omega), upd_ne _ _ (by omega), upd_ne _ _ (by omega)]; exact this.1
                    · rw [upd_ne _ _ (by omega), upd_ne _ _ (by omega), upd_ne _ _ (by omega)]; exact this.2.1
                    · rw [upd_ne _ _ (by omega), upd_ne _ _ (by omega), upd_ne _ _ (by omega)]; exact this.2.2)
            obtain ⟨re6, be6, so6, si6, va6, wo6, et6, at6⟩ := htk5.2 k5 bt6 ba6 e6
            have hR6 := qR_next (σ := σ5) hp5l haf5 (by omega)
            refine ⟨qi 1, re6, be6, so6, si6, va6, wo6, wr, bt6, ba6, qi (qT b len p5).2.2.1, qi x4, _, ?_, .inr ⟨rfl, _, _, ?_, ?_, ?_, hR1.trans (l7.trans (hR3.trans (q7.trans (hR5.trans hR6)))), at6, T6⟩⟩
            · rw [show (1 : Int32) = qi 1 from rfl, show (100000 : Int32) = qi 100000 from rfl, et6, db_some]
              simp only []
              rw [if_neg (show ¬ (qi 1 = (0 : Int32)) by decide), show (9 : Int32).toNatClampNeg = 9 from rfl, t95]
              by_cases c : m5 < 16
              · rw [if_neg (show ¬ ((16 : Int32) ≤ qi m5) from fun e => by have := (qi_le 16 m5 (by omega) (by omega)).mp e; omega), if_pos c]
                have e9 : upd (upd (upd td (10 + 3 * m5) (qi x2)) (10 + 3 * m5 + 1) (qi x4)) (10 + 3 * m5 + 2) (qi (qT b len p5).2.2.1) 9 = qi m5 := by
                  rw [upd_ne _ _ (by omega), upd_ne _ _ (by omega), upd_ne _ _ (by omega)]; exact t95
                simp (disch := omega) only [qi_lit, qi_m1, qi_add, qi_mul, qi_and, qi_or, qi_xor, qi_not, qi_shl, qi_shr, qi_and31, qi_nat, qi_inb, qi_eq, qi_lt, qi_le, qi_sub, dn, db_some, dk_t]
                rw [e9, qi_add]
              · rw [if_pos (show (16 : Int32) ≤ qi m5 from (qi_le 16 m5 (by omega) (by omega)).mpr (by omega)), if_neg c]
            · omega
            · omega
            · rw [qpas_1, haw5, k5]; rfl
          · have haf5 : qaf σ5.1 (qT b len p5).1 = 99 := by
              rw [haw5]; unfold qaf
              simp [k5]
            have hf := qR_form (σ := σ5) hp5l haf5
            have hRR := hR1.trans (l7.trans (hR3.trans (q7.trans hR5)))
            refine ⟨qi 0, qi (qT b len p5).2.2.2, qi (qT b len p5).2.1, so5, si5, va5, wo5, qi (qT b len p5).2.1, bt4, ba4, rd, qi x4, td, ?_, .inl ⟨rfl, by rw [hRR]; exact hf.1, by rw [hRR]; exact hf.2⟩⟩
            rw [show (1 : Int32) = qi 1 from rfl, show (100000 : Int32) = qi 100000 from rfl, htk5.1 k5, db_some]
            simp only []
            rw [if_pos (show qi 0 = (0 : Int32) from rfl)]
            rfl
        · have haf4 : qaf σ4.1 (qT b len p4).1 = 99 := by
            rw [haw4]; unfold qaf
            simp [k9, q4]
          have hf := qR_form (σ := σ4) q2 haf4
          have hRR := hR1.trans (l7.trans (hR3.trans q7))
          refine ⟨qi 0, re4, be4, so4, si4, va4, wo4, qi (qT b len p4).2.1, bt4, ba4, rd, qi x4, td, ?_, .inl ⟨rfl, by rw [hRR]; exact hf.1, by rw [hRR]; exact hf.2⟩⟩
          have e83 : R_edgeLine_83 N re4 (qi len) be4 so4 si4 va4 wo4 wr bt4 ba4 rd (qi x4) tx td = some (qi 0, re4, be4, so4, si4, va4, wo4, qi (qT b len p4).2.1, bt4, ba4, rd, qi x4, td) := by
            unfold R_edgeLine_83
            rw [A4.2.1]
            exact dk_t (show (0 : Int32) &&& 1 = 0 by decide) _
          by_cases c2 : so4 = (2 : Int32)
          · rw [if_pos c2, if_neg (show ¬ (wo4 = (25209 : Int64)) from fun e => k9 (hwd.mp ⟨c2, e⟩))]
            exact e83
          · rw [if_neg c2]
            exact e83
      · have haf3 : qaf σ3.1 (qT b len p3).1 = 99 := by
          rw [haw3]; unfold qaf
          simp [k4]
        have hf := qR_form (σ := σ3) hp3l haf3
        have hRR := hR1.trans (l7.trans hR3)
        refine ⟨qi 0, re3, be3, so3, si3, va3, wo3, qi (qT b len p3).2.1, bt2, ba2, rd, qi 0, td, ?_, .inl ⟨rfl, by rw [hRR]; exact hf.1, by rw [hRR]; exact hf.2⟩⟩
        have eside : R_takesSide N re3 (qi len) be3 so3 si3 va3 wo3 wr bt2 ba2 (qi x2) tx td (qi x2) = some (qi 0, re3, be3, so3, si3, va3, wo3, qi (qT b len p3).2.1, bt2, ba2, qi 0) := by
          unfold R_takesSide
          rw [if_neg (show ¬ (so3 = (3 : Int32)) from fun e => k4 (hnum3.mp e)), at3.2.1]
          exact dk_t (show (0 : Int32) &&& 1 = 0 by decide) _
        rw [eside, db_some]
        simp only []
        rw [if_pos (show qi 0 = (0 : Int32) from rfl)]
        rfl
    · have haf2 : qaf σ2.1 (qT b len p2).1 = 99 := by
        rw [haw2]; unfold qaf
        simp [k3, l4]
      have hf := qR_form (σ := σ2) l2 haf2
      have hRR := hR1.trans l7
      refine ⟨qi 0, re2, be2, so2, si2, va2, wo2, qi (qT b len p2).2.1, bt2, ba2, rd, qi x2, td, ?_, .inl ⟨rfl, by rw [hRR]; exact hf.1, by rw [hRR]; exact hf.2⟩⟩
      rw [show (45 : Int32) = qi 45 from rfl, hsg.1 k3, db_some]
      simp only []
      rw [if_pos (show qi 0 = (0 : Int32) from rfl)]
      rfl
  · have haf1 : qaf σ1.1 (qT b len p1).1 = 99 := by
      rw [haw1]; unfold qaf
      simp [k1]
    have hf := qR_form (σ := σ1) hp1l haf1
    refine ⟨qi 0, qi (qT b len p1).2.2.2, qi (qT b len p1).2.1, so1, si1, va1, wo1, qi (qT b len p1).2.1, bt1, ba1, rd, qi 0, td, ?_, .inl ⟨rfl, by rw [hR1]; exact hf.1, by rw [hR1]; exact hf.2⟩⟩
    have eside : R_takesSide N (qi (qT b len p1).2.2.2) (qi len) (qi (qT b len p1).2.1) so1 si1 va1 wo1 wr bt1 ba1 sd tx td (0 : Int32) = some (qi 0, qi (qT b len p1).2.2.2, qi (qT b len p1).2.1, so1, si1, va1, wo1, qi (qT b len p1).2.1, bt1, ba1, qi 0) := by
      unfold R_takesSide
      rw [if_neg (show ¬ (so1 = (3 : Int32)) from fun e => k1 (hnum1.mp e))]
      exact dk_t (show (0 : Int32) &&& 1 = 0 by decide) _
    rw [eside, db_some]
    simp only []
    rw [if_pos (show qi 0 = (0 : Int32) from rfl)]
    rfl
