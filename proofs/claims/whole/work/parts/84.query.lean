theorem R_line_q (b : Nat → Nat) (len : Nat) (tx : Nat → Int32) (hb : qtx' b len tx) (p : Nat) (hp : p ≤ len) {re be so si va : Int32} {wo : Int64} (h : qAt b len p re be so si va wo) (σ : Qs) (ha : σ.1 = 0) (hk0 : (qT b len p).1 ≠ 0)
    (wr bt ba rd sd : Int32) (td : Nat → Int32) (hT : qTq σ p bt ba td) (N : Nat) (hN : 600 < N) :
    ∃ ok re' be' so' si' va' wo' wr' bt' ba' rd' sd' td', R_line N re (qi len) be so si va wo wr bt ba rd sd tx td = some (ok, re', be', so', si', va', wo', wr', bt', ba', rd', sd', td') ∧ qOut b len σ p 2 ok wr' bt' ba' td' re' be' so' si' va' wo' := by
  have hb1 := hb.1
  have hwd := qks_word h.2.2.1
  have dk01 : ∀ {α : Type} (ok : Int32) (x : Option α), (ok = qi 0 ∨ ok = qi 1) → dk (ok &&& 1 = ok) x = x := by
    intro α ok x ho
    rcases ho with rfl | rfl
    · exact dk_t (show qi 0 &&& 1 = qi 0 by decide) _
    · exact dk_t (show qi 1 &&& 1 = qi 1 by decide) _
  have ok01 : ∀ {ok wr bt ba : Int32} {td : Nat → Int32} {re be so si va : Int32} {wo : Int64}, qOut b len σ p 2 ok wr bt ba td re be so si va wo → ok = qi 0 ∨ ok = qi 1 := by
    intro ok wr bt ba td re be so si va wo ho
    rcases ho with ⟨e, _⟩ | ⟨e, _⟩
    · exact .inl e
    · exact .inr e
  -- which line it is
  have z : ∀ (z0 : Int64), (so = (2 : Int32) → z0 = wo) → (so ≠ (2 : Int32) → z0 = (0 : Int64)) → (z0 = (8243113858792255342 : Int64) ↔ (qT b len p).1 = 6) ∧ (z0 = (1701078885 : Int64) ↔ (qT b len p).1 = 7) ∧ (z0 = (465625246068 : Int64) ↔ (qT b len p).1 = 8) := by
    intro z0 h1 h2
    by_cases c : so = (2 : Int32)
    · rw [h1 c]
      refine ⟨⟨fun e => hwd.1.mp ⟨c, e⟩, fun e => (hwd.1.mpr e).2⟩, ⟨fun e => hwd.2.1.mp ⟨c, e⟩, fun e => (hwd.2.1.mpr e).2⟩, ⟨fun e => hwd.2.2.1.mp ⟨c, e⟩, fun e => (hwd.2.2.1.mpr e).2⟩⟩
    · rw [h2 c]
      refine ⟨⟨fun e => absurd e (by decide), fun e => absurd (hwd.1.mpr e).1 c⟩, ⟨fun e => absurd e (by decide), fun e => absurd (hwd.2.1.mpr e).1 c⟩, ⟨fun e => absurd e (by decide), fun e => absurd (hwd.2.2.1.mpr e).1 c⟩⟩
  have main : ∀ (z0 : Int64), (so = (2 : Int32) → z0 = wo) → (so ≠ (2 : Int32) → z0 = (0 : Int64)) → ∃ ok re' be' so' si' va' wo' wr' bt' ba' rd' sd' td', R_line_16 N re (qi len) be so si va wo wr bt ba rd sd tx td z0 = some (ok, re', be', so', si', va', wo', wr', bt', ba', rd', sd', td') ∧ qOut b len σ p 2 ok wr' bt' ba' td' re' be' so' si' va' wo' := by
    intro z0 h1 h2
    obtain ⟨z6, z7, z8⟩ := z z0 h1 h2
    unfold R_line_16
    by_cases k6 : (qT b len p).1 = 6
    · rw [if_pos (z6.mpr k6)]
      obtain ⟨ok, re', be', so', si', va', wo', wr', bt', ba', rd', td', e, q⟩ := R_relationLine_q b len tx hb p hp h σ ha k6 wr bt ba rd td hT N hN
      refine ⟨ok, re', be', so', si', va', wo', wr', bt', ba', rd', sd, td', ?_, q⟩
      rw [e, db_some]
      exact dk01 ok _ (ok01 q)
    · rw [if_neg (fun e => k6 (z6.mp e))]
      by_cases k7 : (qT b len p).1 = 7
      · rw [if_pos (z7.mpr k7)]
        obtain ⟨ok, re', be', so', si', va', wo', wr', bt', ba', rd', sd', td', e, q⟩ := R_edge_q b len tx hb p hp h σ ha k7 wr bt ba rd sd td hT N hN
        refine ⟨ok, re', be', so', si', va', wo', wr', bt', ba', rd', sd', td', ?_, q⟩
        rw [e, db_some]
        exact dk01 ok _ (ok01 q)
      · rw [if_neg (fun e => k7 (z7.mp e))]
        by_cases k8 : (qT b len p).1 = 8
        · rw [if_pos (z8.mpr k8)]
          have hle := qtk_le (qT_q b len p hp)
          have hse := hle.2.2.2.1 (by omega)
          obtain ⟨n', m', hn8, hm16, t0, t9, hg⟩ := qTq_td hT
          have haf : qaf σ.1 (qT b len p).1 ≠ 99 := by rw [ha, k8]; decide
          have other : ∀ l r g, qab σ.1 l r g (qT b len p).1 (qT b len p).2.2.1 = (0, l, r, g) := by
            intro l r g; unfold qab; rw [if_neg (by omega), if_neg (by omega), if_neg (by omega)]
          obtain ⟨bt1, ba1, e1, T1⟩ := qTq_step hT (qT b len p).1 (qT b len p).2.1 (qT b len p).2.2.1 (qT b len p).2.2.2 haf (by omega) hle.1 hse (by omega) td ⟨n', m', hn8, hm16, t0, t9⟩ hT.2.1 false 2 (by omega) (by omega)
            (by intro f0; rw [other]; rfl) (by intro f0 _; rw [other]; exact (hg f0).2.2.1)
          rw [if_neg (by decide)] at e1
          cases e1
          have hR1 := qR_next (σ := σ) hp haf (by omega)
          have haw1 : (qpas (qabs σ (qT b len p).1 (qT b len p).2.1 (qT b len p).2.2.1) (qT b len p).1).1 = 8 := by rw [qpas_1, ha, k8]; rfl
          generalize hσ1 : qpas (qabs σ (qT b len p).1 (qT b len p).2.1 (qT b len p).2.2.1) (qT b len p).1 = σ1 at *
          obtain ⟨so1, si1, va1, wo1, et1, at1⟩ := R_tok_n b len tx hb p hp h N hN
          generalize hp1 : (qT b len p).2.2.2 = p1 at *
          have hp1l : p1 ≤ len := by omega
          have htk1 := R_takes_q b len tx hb p1 hp1l at1 wr bt ba rd 0 5000 (by omega) (by omega) N hN
          have hle1 := qtk_le (qT_q b len p1 hp1l)
          have hk1 := qtk_k (qT_q b len p1 hp1l)
          by_cases k1 : (qT b len p1).1 = 1
          · have hse1 := hle1.2.2.2.1 (by omega)
            have haf1 : qaf σ1.1 (qT b len p1).1 ≠ 99 := by rw [haw1, k1]; decide
            have hv := hk1.2 k1
            obtain ⟨n1, m1, hn1, hm1, t01, t91, hg1⟩ := qTq_td T1
            obtain ⟨bt2, ba2, e2, T2⟩ := qTq_step T1 (qT b len p1).1 (qT b len p1).2.1 (qT b len p1).2.2.1 (qT b len p1).2.2.2 haf1 (by omega) hle1.1 hse1 (by omega)
              (upd td 58 (qi (qT b len p1).2.2.1)) ⟨n1, m1, hn1, hm1, by rw [upd_ne _ _ (by omega)]; exact t01, by rw [upd_ne _ _ (by omega)]; exact t91⟩
              (by intro j j1 j2; rw [upd_ne _ _ (by omega)]; exact T1.2.1 j j1 j2)
              (!decide (0 ≤ (qT b len p1).2.2.1 ∧ (qT b len p1).2.2.1 ≤ 5000)) 2 (by omega) (by omega)
              (by
                intro f0
                unfold qab
                rw [if_neg (by omega), if_neg (by omega), if_pos k1, if_neg (by omega), if_neg (by omega), if_pos haw1]
                by_cases c : (qT b len p1).2.2.1 ≤ 5000
                · rw [if_pos c, decide_eq_true ⟨Nat.zero_le _, c⟩]; rfl
                · rw [if_neg c, decide_eq_false (fun h => c h.2)]; rfl)
              (by
                intro f0 hc
                have ⟨g1, g2, g3, g4⟩ := hg1 f0
                have c : 0 ≤ (qT b len p1).2.2.1 ∧ (qT b len p1).2.2.1 ≤ 5000 := by
                  have : decide (0 ≤ (qT b len p1).2.2.1 ∧ (qT b len p1).2.2.1 ≤ 5000) = true := by simpa using hc
                  exact of_decide_eq_true this
                have hn' := g4.1.1
                have hm' := g4.1.2.1
                unfold qab
                rw [if_neg (by omega), if_neg (by omega), if_pos k1, if_neg (by omega), if_neg (by omega), if_pos haw1, if_pos c.2]
                obtain ⟨r1, r2, r3, r4, r5⟩ := g3
                refine ⟨?_, ?_, upd_self _ _ _, ?_, ?_⟩
                · rw [upd_ne _ _ (by omega)]; exact r1
                · rw [upd_ne _ _ (by omega)]; exact r2
                · intro r hr
                  have hr : r < qn σ1.2.2.2.2.2 := hr
                  rw [upd_ne _ _ (by omega)]; exact r4 r hr
                · intro e' he'
                  have he' : e' < qm σ1.2.2.2.2.2 := he'
                  rw [upd_ne _ _ (by omega), upd_ne _ _ (by omega), upd_ne _ _ (by omega)]; exact r5 e' he')
            obtain ⟨re2, be2, so2, si2, va2, wo2, et2, at2⟩ := htk1.2 k1 bt2 ba2 e2
            have hR2 := qR_next (σ := σ1) hp1l haf1 (by omega)
            refine ⟨qi 1, re2, be2, so2, si2, va2, wo2, wr, bt2, ba2, qi (qT b len p1).2.2.1, sd, _, ?_, .inr ⟨rfl, _, _, ?_, ?_, ?_, hR1.trans hR2, at2, T2⟩⟩
            · rw [et1, db_some]
              simp only []
              rw [show (0 : Int32) = qi 0 from rfl, show (5000 : Int32) = qi 5000 from rfl, et2, db_some]
              simp only [dn]
              exact dk01 (qi 1) _ (.inr rfl)
            · omega
            · omega
            · rw [qpas_1, haw1, k1]; rfl
          · have haf1 : qaf σ1.1 (qT b len p1).1 = 99 := by
              rw [haw1]; unfold qaf
              simp [k1]
            have hf := qR_form (σ := σ1) hp1l haf1
            refine ⟨qi 0, qi (qT b len p1).2.2.2, qi (qT b len p1).2.1, so1, si1, va1, wo1, qi (qT b len p1).2.1, bt, ba, rd, sd, upd td 58 rd, ?_, .inl ⟨rfl, by rw [hR1]; exact hf.1, by rw [hR1]; exact hf.2⟩⟩
            rw [et1, db_some]
            simp only []
            rw [show (0 : Int32) = qi 0 from rfl, show (5000 : Int32) = qi 5000 from rfl, htk1.1 k1, db_some]
            simp only [dn]
            exact dk01 (qi 0) _ (.inl rfl)
        · rw [if_neg (fun e => k8 (z8.mp e))]
          have haf : qaf σ.1 (qT b len p).1 = 99 := by
            rw [ha]; unfold qaf
            simp [hk0, k6, k7, k8]
          have hf := qR_form (σ := σ) hp haf
          refine ⟨qi 0, re, be, so, si, va, wo, qi (qT b len p).2.1, bt, ba, rd, sd, td, ?_, .inl ⟨rfl, hf.1, hf.2⟩⟩
          rw [h.2.1]
          exact dk_t (show (0 : Int32) &&& 1 = 0 by decide) _
  unfold R_line
  by_cases c : so = (2 : Int32)
  · rw [if_pos c]; exact main wo (fun _ => rfl) (fun h => absurd c h)
  · rw [if_neg c]; exact main 0 (fun h => absurd h c) (fun _ => rfl)
def qS0 : Qs := (0, 0, Int32.ofInt (-1), 0, 0, (0, 0, 1000, fun _ => 0, fun _ => 0, fun _ => 0, fun _ => 0))
theorem R_query_loop (b : Nat → Nat) (len : Nat) (tx : Nat → Int32) (hb : qtx' b len tx) (ra un : Int32) (all : Nat → Int32) (re be so si va : Int32) (wo : Int64) (wr bt ba rd sd : Int32) (td : Nat → Int32)
    (hA : qAt b len 0 re be so si va wo) (hT : qTq qS0 0 bt ba td) (N : Nat) (hN : 600 < N) :
    ∃ re' be' so' si' va' wo' wr' bt' ba' rd' sd' td' x, lp (fun x : Int32 × Int32 × Int32 × Int32 × Int32 × Int64 × Int32 × Int32 × Int32 × Int32 × Int32 × (Nat → Int32) × Int32 =>
        R_query_b43 N ra un x.1 (qi len) x.2.1 x.2.2.1 x.2.2.2.1 x.2.2.2.2.1 x.2.2.2.2.2.1 x.2.2.2.2.2.2.1 x.2.2.2.2.2.2.2.1 x.2.2.2.2.2.2.2.2.1 x.2.2.2.2.2.2.2.2.2.1 x.2.2.2.2.2.2.2.2.2.2.1 all tx x.2.2.2.2.2.2.2.2.2.2.2.1 x.2.2.2.2.2.2.2.2.2.2.2.2) N (re, be, so, si, va, wo, wr, bt, ba, rd, sd, td, qi 1) =
      some (re', be', so', si', va', wo', wr', bt', ba', rd', sd', td', x) ∧
      ((x = qi 0 ∧ (qR b len qS0 0).1 = 1 ∧ (qR b len qS0 0).2.1 = wr') ∨
       (x = qi 1 ∧ ba' = qi (qR b len qS0 0).1 ∧ bt' = (qR b len qS0 0).2.1 ∧ (qR b len qS0 0).1 ≤ 4 ∧ ((qR b len qS0 0).1 = 0 → qRg (qR b len qS0 0).2.2 td' ∧ qGok (qR b len qS0 0).2.2) ∧ ∀ j, 59 ≤ j → j < 316 → td' j = qi 0)) := by
  have hb1 := hb.1
  have key := qlp_dn (body := fun x : Int32 × Int32 × Int32 × Int32 × Int32 × Int64 × Int32 × Int32 × Int32 × Int32 × Int32 × (Nat → Int32) × Int32 =>
        R_query_b43 N ra un x.1 (qi len) x.2.1 x.2.2.1 x.2.2.2.1 x.2.2.2.2.1 x.2.2.2.2.2.1 x.2.2.2.2.2.2.1 x.2.2.2.2.2.2.2.1 x.2.2.2.2.2.2.2.2.1 x.2.2.2.2.2.2.2.2.2.1 x.2.2.2.2.2.2.2.2.2.2.1 all tx x.2.2.2.2.2.2.2.2.2.2.2.1 x.2.2.2.2.2.2.2.2.2.2.2.2)
    (Inv := fun m z => ∃ re be so si va wo wr bt ba rd sd td x, z = (re, be, so, si, va, wo, wr, bt, ba, rd, sd, td, x) ∧
      ((m = 0 ∧ x = qi 0 ∧ (qR b len qS0 0).1 = 1 ∧ (qR b len qS0 0).2.1 = wr) ∨
       (∃ σ p, m = 1 + (len - p) ∧ p ≤ len ∧ x = qi 1 ∧ σ.1 = 0 ∧ qR b len qS0 0 = qR b len σ p ∧ qAt b len p re be so si va wo ∧ qTq σ p bt ba td)))
    (Q := fun y => ∃ re' be' so' si' va' wo' wr' bt' ba' rd' sd' td' x, y = (re', be', so', si', va', wo', wr', bt', ba', rd', sd', td', x) ∧
      ((x = qi 0 ∧ (qR b len qS0 0).1 = 1 ∧ (qR b len qS0 0).2.1 = wr') ∨
       (x = qi 1 ∧ ba' = qi (qR b len qS0 0).1 ∧ bt' = (qR b len qS0 0).2.1 ∧ (qR b len qS0 0).1 ≤ 4 ∧ ((qR b len qS0 0).1 = 0 → qRg (qR b len qS0 0).2.2 td' ∧ qGok (qR b len qS0 0).2.2) ∧ ∀ j, 59 ≤ j → j < 316 → td' j = qi 0)))
    ?_ (1 + len) (re, be, so, si, va, wo, wr, bt, ba, rd, sd, td, qi 1) ⟨re, be, so, si, va, wo, wr, bt, ba, rd, sd, td, qi 1, rfl, .inr ⟨qS0, 0, by omega, by omega, rfl, rfl, rfl, hA, hT⟩⟩ N (by omega)
  · obtain ⟨y, e, re', be', so', si', va', wo', wr', bt', ba', rd', sd', td', x, rfl, q⟩ := key
    exact ⟨re', be', so', si', va', wo', wr', bt', ba', rd', sd', td', x, e, q⟩
  · rintro m z ⟨re, be, so, si, va, wo, wr, bt, ba, rd, sd, td, x, rfl, h⟩
    rcases h with ⟨hm, rfl, h1, h2⟩ | ⟨σ, p, hm, hp, rfl, ha, hR, hA, hT⟩
    · right
      refine ⟨(re, be, so, si, va, wo, wr, bt, ba, rd, sd, td, qi 0), ?_, re, be, so, si, va, wo, wr, bt, ba, rd, sd, td, qi 0, rfl, .inl ⟨rfl, h1, h2⟩⟩
      unfold R_query_b43
      rw [if_pos (show qi 0 = (0 : Int32) from rfl)]
    · have hend := qks_end hA.2.2.1
      have hle := qtk_le (qT_q b len p hp)
      by_cases k0 : (qT b len p).1 = 0
      · right
        refine ⟨(re, be, so, si, va, wo, wr, bt, ba, rd, sd, td, qi 1), ?_, re, be, so, si, va, wo, wr, bt, ba, rd, sd, td, qi 1, rfl, .inr ⟨rfl, ?_⟩⟩
        · unfold R_query_b43
          rw [if_neg (show ¬ (qi 1 = (0 : Int32)) by decide), if_pos (show so = (0 : Int32) from hend.mpr k0)]
        · have haf : qaf σ.1 (qT b len p).1 ≠ 99 := by rw [ha, k0]; decide
          rw [hR, qR_eq b len σ p hp, if_neg haf, if_pos k0]
          obtain ⟨_, hz, _, h4, _, h6⟩ := hT
          have other : qab σ.1 σ.2.2.2.1 σ.2.2.2.2.1 σ.2.2.2.2.2 0 (qT b len p).2.2.1 = (0, σ.2.2.2.1, σ.2.2.2.2.1, σ.2.2.2.2.2) := rfl
          rcases h6 with ⟨f0, pl, rfl, rfl, hg, hM⟩ | ⟨f1, rfl, a, ha', rfl, hpl⟩
          · have ea : qabs σ 0 (qT b len p).2.1 (qT b len p).2.2.1 = (σ.1, 0, Int32.ofInt (-1), σ.2.2.2.1, σ.2.2.2.2.1, σ.2.2.2.2.2) := by
              unfold qabs
              rw [if_neg (by simp [f0]), other]
              rfl
            rw [ea]
            exact ⟨rfl, rfl, by show 0 ≤ 4; omega, fun _ => ⟨hg, hM.1⟩, hz⟩
          · have ea : qabs σ 0 (qT b len p).2.1 (qT b len p).2.2.1 = σ := by
              unfold qabs
              rw [if_pos f1]
            rw [ea]
            exact ⟨rfl, hpl.symm, h4, fun h => absurd h f1, hz⟩
      · left
        obtain ⟨ok, re1, be1, so1, si1, va1, wo1, wr1, bt1, ba1, rd1, sd1, td1, el, q⟩ := R_line_q b len tx hb p hp hA σ ha k0 wr bt ba rd sd td hT N hN
        have pre : ∀ X, (if (ok = (0 : Int32)) then R_query_74 N ra un re1 (qi len) be1 so1 si1 va1 wo1 wr1 bt1 ba1 rd1 sd1 all tx td1 else (db (R_takesSign N re1 (qi len) be1 so1 si1 va1 wo1 wr1 tx (59 : Int32)) fun t13 => if t13.1 = 0 then (R_query_74 N ra un t13.2.1 (qi len) t13.2.2.1 t13.2.2.2.1 t13.2.2.2.2.1 t13.2.2.2.2.2.1 t13.2.2.2.2.2.2.1 t13.2.2.2.2.2.2.2 bt1 ba1 rd1 sd1 all tx td1) else (R_query_75 N ra un t13.2.1 (qi len) t13.2.2.1 t13.2.2.2.1 t13.2.2.2.2.1 t13.2.2.2.2.2.1 t13.2.2.2.2.2.2.1 t13.2.2.2.2.2.2.2 bt1 ba1 rd1 sd1 all tx td1 (1 : Int32)))) = X →
            R_query_b43 N ra un re (qi len) be so si va wo wr bt ba rd sd all tx td (qi 1) = X := by
          intro X hX
          unfold R_query_b43
          rw [if_neg (show ¬ (qi 1 = (0 : Int32)) by decide), if_neg (show ¬ (so = (0 : Int32)) from fun e => k0 (hend.mp e)), el, db_some]
          exact hX
        rcases q with ⟨rfl, h1, h2⟩ | ⟨rfl, σ', p', l1, l2, haw', hR', A', T'⟩
        · refine ⟨(re1, be1, so1, si1, va1, wo1, wr1, bt1, ba1, rd1, sd1, td1, qi 0), 0, pre _ (by rw [if_pos (show qi 0 = (0 : Int32) from rfl)]; rfl), ⟨re1, be1, so1, si1, va1, wo1, wr1, bt1, ba1, rd1, sd1, td1, qi 0, rfl, .inl ⟨rfl, rfl, by rw [hR]; exact h1, by rw [hR]; exact h2⟩⟩, by omega⟩
        · have hsg := R_takesSign_q b len tx hb p' l2 A' wr1 59 2 (qks_sign A'.2.2.1).1 N hN
          have hle' := qtk_le (qT_q b len p' l2)
          by_cases k2 : (qT b len p').1 = 2
          · have haf2 : qaf σ'.1 (qT b len p').1 ≠ 99 := by rw [haw', k2]; decide
            have hse2 := hle'.2.2.2.1 (by omega)
            obtain ⟨n2, m2, hn2, hm2, t02, t92, hg2⟩ := qTq_td T'
            have other : ∀ l r g, qab σ'.1 l r g (qT b len p').1 (qT b len p').2.2.1 = (0, l, r, g) := by
              intro l r g; unfold qab; rw [if_neg (by omega), if_neg (by omega), if_neg (by omega)]
            obtain ⟨bt3, ba3, e3, T3⟩ := qTq_step T' (qT b len p').1 (qT b len p').2.1 (qT b len p').2.2.1 (qT b len p').2.2.2 haf2 (by omega) hle'.1 hse2 (by omega) td1 ⟨n2, m2, hn2, hm2, t02, t92⟩ T'.2.1 false 2 (by omega) (by omega)
              (by intro f0; rw [other]; rfl) (by intro f0 _; rw [other]; exact (hg2 f0).2.2.1)
            rw [if_neg (by decide)] at e3
            cases e3
            obtain ⟨re3, be3, so3, si3, va3, wo3, et3, at3⟩ := hsg.2 k2
            have hR3 := qR_next (σ := σ') l2 haf2 (by omega)
            refine ⟨(re3, be3, so3, si3, va3, wo3, wr1, bt1, ba1, rd1, sd1, td1, qi 1), 1 + (len - (qT b len p').2.2.2), pre _ ?_, ⟨re3, be3, so3, si3, va3, wo3, wr1, bt1, ba1, rd1, sd1, td1, qi 1, rfl, .inr ⟨_, (qT b len p').2.2.2, rfl, by omega, rfl, ?_, hR.trans (hR'.trans hR3), at3, T3⟩⟩, by omega⟩
            · rw [if_neg (show ¬ (qi 1 = (0 : Int32)) by decide), show (59 : Int32) = qi 59 from rfl, et3, db_some]
              rfl
            · rw [qpas_1, haw', k2]; rfl
          · have haf2 : qaf σ'.1 (qT b len p').1 = 99 := by
              rw [haw']; unfold qaf
              simp [k2]
            have hf := qR_form (σ := σ') l2 haf2
            have hRR := hR.trans hR'
            refine ⟨(re1, be1, so1, si1, va1, wo1, qi (qT b len p').2.1, bt1, ba1, rd1, sd1, td1, qi 0), 0, pre _ ?_, ⟨re1, be1, so1, si1, va1, wo1, _, bt1, ba1, rd1, sd1, td1, qi 0, rfl, .inl ⟨rfl, rfl, by rw [hRR]; exact hf.1, by rw [hRR]; exact hf.2⟩⟩, by omega⟩
            rw [if_neg (show ¬ (qi 1 = (0 : Int32)) by decide), show (59 : Int32) = qi 59 from rfl, hsg.1 k2, db_some]
            rfl

theorem R_starts_q (b : Nat → Nat) (len : Nat) (tx : Nat → Int32) (hb : qtx' b len tx) (all : Nat → Int32) (hl : all 316 = qi len) (re ln be so si va : Int32) (wo : Int64) (bt ba : Int32) (N : Nat) (hN : 600 < N) :
    ∃ re' be' so' si' va' wo', R_starts N re ln be so si va wo bt ba all tx = some (re', qi len, be', so', si', va', wo', Int32.ofInt (-1), qi 0, upd all 316 (qi 0)) ∧ qAt b len 0 re' be' so' si' va' wo' := by
  obtain ⟨so', si', va', wo', e, q⟩ := R_tok_0 b len tx hb 0 (Nat.zero_le _) be so si va wo N hN
  refine ⟨_, _, so', si', va', wo', ?_, q⟩
  unfold R_starts
  rw [show (316 : Int32).toNatClampNeg = 316 from rfl, hl]
  simp only [dn]
  rw [show (0 : Int32) = qi 0 from rfl, e, db_some]
  rfl
theorem R_isFine_q (wr bt ba : Int32) (all : Nat → Int32) (x : Bool) (f : Nat) (hf : f ≤ 4) (hba : x = true → ba = qi f) (hx : x = false → f = 1) :
    R_isFine wr bt ba all (qi x.toNat) = some (qi (decide (f = 0)).toNat, upd (upd all 317 (qi f)) 318 (if x then bt else wr)) := by
  have e42 : ∀ a z, R_isFine_42 wr bt ba (upd a 317 (qi f)) (318 : Int32) z = some (qi (decide (f = 0)).toNat, upd (upd a 317 (qi f)) 318 z) := by
    intro a z
    unfold R_isFine_42
    rw [dk_t (show inb (318 : Int32) 1276 by decide)]
    simp only [dn]
    rw [show (318 : Int32).toNatClampNeg = 318 from rfl, show (317 : Int32).toNatClampNeg = 317 from rfl, upd_ne (k := 318) (j := 317) _ _ (by omega), upd_self]
    by_cases c : f = 0
    · rw [if_pos (by rw [c]; rfl), decide_eq_true c]; rfl
    · rw [if_neg (show ¬ (qi f = (0 : Int32)) from fun e => c ((qi_eq f 0 (by omega) (by omega)).mp e)), decide_eq_false c]; rfl
  cases x with
  | true =>
    have e := hba rfl
    subst e
    unfold R_isFine
    rw [if_neg (show ¬ (qi true.toNat = (0 : Int32)) by decide)]
    unfold R_isFine_19
    rw [dk_t (show inb (317 : Int32) 1276 by decide)]
    simp only [dn]
    rw [if_neg (show ¬ (qi true.toNat = (0 : Int32)) by decide)]
    exact e42 all bt
  | false =>
    have e := hx rfl
    subst e
    unfold R_isFine
    rw [if_pos (show qi false.toNat = (0 : Int32) from rfl)]
    unfold R_isFine_19
    rw [dk_t (show inb (317 : Int32) 1276 by decide)]
    simp only [dn]
    rw [if_pos (show qi false.toNat = (0 : Int32) from rfl)]
    exact e42 all wr
/-- query of the reference -/
theorem R_query_q (b : Nat → Nat) (len : Nat) (tx : Nat → Int32) (hb : qtx' b len tx) (all : Nat → Int32) (hl : all 316 = qi len) (ra un re ln be so si va : Int32) (wo : Int64) (wr bt ba rd sd : Int32) (td : Nat → Int32) (N : Nat) (hN : 600 < N) :
    ∃ ret un' re' be' so' si' va' wo' wr' bt' ba' rd' sd' all' td', R_query N ra un re ln be so si va wo wr bt ba rd sd all tx td = some (ret, qi 0, un', re', qi len, be', so', si', va', wo', wr', bt', ba', rd', sd', all', td') ∧
      all' 316 = qi 0 ∧ all' 317 = qi (qR b len qS0 0).1 ∧ all' 318 = (qR b len qS0 0).2.1 ∧ (∀ j, 319 ≤ j → all' j = all j) ∧
      ((qR b len qS0 0).1 = 0 → ret = qi (qn (qR b len qS0 0).2.2) ∧ un' = qi 0 ∧ qRg (qR b len qS0 0).2.2 all' ∧ qGok (qR b len qS0 0).2.2 ∧ ∀ j, 59 ≤ j → j < 316 → all' j = qi 0) ∧
      ((qR b len qS0 0).1 ≠ 0 → ret = Int32.ofInt (-1) ∧ un' = un ∧ ∀ j, j < 316 → all' j = all j) := by
  obtain ⟨re1, be1, so1, si1, va1, wo1, es, A1⟩ := R_starts_q b len tx hb all hl re ln be so si va wo bt ba N hN
  have key0 := qlp_rel (body := fun x : (Nat → Int32) × Int32 => R_query_b11 N (qi 0) un re1 (qi len) be1 so1 si1 va1 wo1 wr (Int32.ofInt (-1)) (qi 0) rd sd (upd all 316 (qi 0)) tx x.1 x.2)
    (Inv := fun i x => x.2 = qi i ∧ ∀ j, j < i → x.1 j = qi 0) 316 (Q := fun y => ∀ j, j < 316 → y j = qi 0)
    (by
      rintro i ⟨f, x⟩ hi ⟨rfl, h⟩
      refine ⟨(upd f i (qi 0), qi (i + 1)), ?_, rfl, ?_⟩
      · simp (disch := omega) only [R_query_b11, qi_lit, qi_m1, qi_add, qi_mul, qi_and, qi_or, qi_xor, qi_not, qi_shl, qi_shr, qi_and31, qi_nat, qi_inb, qi_eq, qi_lt, qi_le, qi_sub, dn, db_some, dk_t, if_neg (show ¬ 316 ≤ i by omega)]
      · intro j hj
        show upd f i (qi 0) j = _
        by_cases e : j = i
        · subst e; exact upd_self _ _ _
        · rw [upd_ne _ _ e]; exact h j (by omega))
    (by
      rintro ⟨f, x⟩ ⟨rfl, h⟩
      exact ⟨f, by simp (disch := omega) only [R_query_b11, qi_lit, qi_m1, qi_add, qi_mul, qi_and, qi_or, qi_xor, qi_not, qi_shl, qi_shr, qi_and31, qi_nat, qi_inb, qi_eq, qi_lt, qi_le, qi_sub]; simp, h⟩)
    (td, qi 0) ⟨rfl, by intro j h; omega⟩ N (by omega)
  obtain ⟨td0, e0, z0⟩ := key0
  have T0 : qTq qS0 0 (Int32.ofInt (-1)) (qi 0) (upd td0 58 (qi 1000)) := by
    refine ⟨⟨0, 0, by omega, by omega, by rw [upd_ne _ _ (by omega)]; exact z0 0 (by omega), by rw [upd_ne _ _ (by omega)]; exact z0 9 (by omega)⟩, ?_, by decide, by decide, by omega, .inl ⟨rfl, rfl, rfl, rfl, ?_, ?_⟩⟩
    · intro j j1 j2
      rw [upd_ne _ _ (by omega)]; exact z0 j j2
    · refine ⟨by rw [upd_ne _ _ (by omega)]; exact z0 0 (by omega), by rw [upd_ne _ _ (by omega)]; exact z0 9 (by omega), upd_self _ _ _, fun r h => absurd h (Nat.not_lt_zero r), fun e h => absurd h (Nat.not_lt_zero e)⟩
    · exact ⟨⟨by decide, by decide, by decide, fun r h => absurd h (Nat.not_lt_zero r), fun e h => absurd h (Nat.not_lt_zero e)⟩, by decide, by decide, rfl, fun h => absurd h (by decide), fun h => absurd h (by decide), fun h => absurd h (by decide), fun h => absurd h (by decide), fun h => absurd h (by decide)⟩
  obtain ⟨re', be', so', si', va', wo', wr', bt', ba', rd', sd', td', x, el, q⟩ := R_query_loop b len tx hb (qi 0) un (upd all 316 (qi 0)) re1 be1 so1 si1 va1 wo1 wr _ _ rd sd _ A1 T0 N hN
  have pre : R_query N ra un re ln be so si va wo wr bt ba rd sd all tx td = R_query_79 N (qi 0) un re' (qi len) be' so' si' va' wo' wr' bt' ba' rd' sd' (upd all 316 (qi 0)) tx td' x := by
    unfold R_query
    rw [es, db_some]
    show R_query_11 N (qi 0) un re1 (qi len) be1 so1 si1 va1 wo1 wr (Int32.ofInt (-1)) (qi 0) rd sd (upd all 316 (qi 0)) tx td (0 : Int32) = _
    unfold R_query_11
    rw [show (0 : Int32) = qi 0 from rfl, e0, db_some]
    show R_query_43 N (qi 0) un re1 (qi len) be1 so1 si1 va1 wo1 wr (Int32.ofInt (-1)) (qi 0) rd sd (upd all 316 (qi 0)) tx (upd td0 58 (qi 1000)) (1 : Int32) = _
    unfold R_query_43
    rw [show (1 : Int32) = qi 1 from rfl, el]
    rfl
  generalize hRes : qR b len qS0 0 = Res at *
  have hx : ∃ xb : Bool, x = qi xb.toNat ∧ (xb = true → ba' = qi Res.1) ∧ (xb = false → Res.1 = 1) ∧ (if xb then bt' else wr') = Res.2.1 ∧ Res.1 ≤ 4 ∧ (Res.1 = 0 → qRg Res.2.2 td' ∧ qGok Res.2.2 ∧ ∀ j, 59 ≤ j → j < 316 → td' j = qi 0) := by
    rcases q with ⟨rfl, h1, h2⟩ | ⟨rfl, h1, h2, h3, h4, h5⟩
    · exact ⟨false, rfl, fun h => absurd h (by decide), fun _ => h1, h2.symm, by omega, fun h => by omega⟩
    · exact ⟨true, rfl, fun _ => h1, fun h => absurd h (by decide), h2, h3, fun h => ⟨(h4 h).1, (h4 h).2, h5⟩⟩
  obtain ⟨xb, rfl, x1, x2, x3, x4, x5⟩ := hx
  have ef := R_isFine_q wr' bt' ba' (upd all 316 (qi 0)) xb Res.1 x4 x1 x2
  rw [x3] at ef
  by_cases c : Res.1 = 0
  · obtain ⟨y1, y2, y3⟩ := x5 c
    have key1 := qlp_rel (body := fun x : (Nat → Int32) × Int32 => R_query_b91 N (qi 0) un re' (qi len) be' so' si' va' wo' wr' bt' ba' rd' sd' x.1 tx td' x.2)
      (Inv := fun i x => x.2 = qi i ∧ (∀ j, j < i → x.1 j = td' j) ∧ ∀ j, 316 ≤ j → x.1 j = upd (upd (upd all 316 (qi 0)) 317 (qi Res.1)) 318 Res.2.1 j) 316
      (Q := fun y => (∀ j, j < 316 → y j = td' j) ∧ ∀ j, 316 ≤ j → y j = upd (upd (upd all 316 (qi 0)) 317 (qi Res.1)) 318 Res.2.1 j)
      (by
        rintro i ⟨f, x⟩ hi ⟨rfl, h1, h2⟩
        refine ⟨(upd f i (td' i), qi (i + 1)), ?_, rfl, ?_, ?_⟩
        · simp (disch := omega) only [R_query_b91, qi_lit, qi_m1, qi_add, qi_mul, qi_and, qi_or, qi_xor, qi_not, qi_shl, qi_shr, qi_and31, qi_nat, qi_inb, qi_eq, qi_lt, qi_le, qi_sub, dn, db_some, dk_t, if_neg (show ¬ 316 ≤ i by omega)]
        · intro j hj
          show upd f i (td' i) j = _
          by_cases e : j = i
          · subst e; exact upd_self _ _ _
          · rw [upd_ne _ _ e]; exact h1 j (by omega)
        · intro j hj
          show upd f i (td' i) j = _
          rw [upd_ne _ _ (by omega)]; exact h2 j hj)
      (by
        rintro ⟨f, x⟩ ⟨rfl, h⟩
        exact ⟨f, by simp (disch := omega) only [R_query_b91, qi_lit, qi_m1, qi_add, qi_mul, qi_and, qi_or, qi_xor, qi_not, qi_shl, qi_shr, qi_and31, qi_nat, qi_inb, qi_eq, qi_lt, qi_le, qi_sub]; simp, h⟩)
      (upd (upd (upd all 316 (qi 0)) 317 (qi Res.1)) 318 Res.2.1, qi 0) ⟨rfl, by intro j h; omega, fun j hj => rfl⟩ N (by omega)
    obtain ⟨a', e9, w1, w2⟩ := key1
    have hg := y1
    obtain ⟨r1, r2, r3, r4, r5⟩ := y1
    have hn := y2.1
    have hm := y2.2.1
    refine ⟨qi (qn Res.2.2), qi 0, re', be', so', si', va', wo', wr', bt', ba', rd', sd', a', td', ?_, ?_, ?_, ?_, ?_, ?_, fun h => absurd c h⟩
    · rw [pre]
      unfold R_query_79
      rw [ef, db_some]
      simp only []
      rw [decide_eq_true c, if_neg (show ¬ (qi true.toNat = (0 : Int32)) by decide)]
      unfold R_query_91
      rw [show (0 : Int32) = qi 0 from rfl, e9, db_some]
      unfold R_query_a91 R_query_116
      rw [show (0 : Int32).toNatClampNeg = 0 from rfl, w1 0 (by omega), r1]
      rfl
    · rw [w2 316 (by omega), upd_ne _ _ (by omega), upd_ne _ _ (by omega), upd_self]
    · rw [w2 317 (by omega), upd_ne _ _ (by omega), upd_self]
    · rw [w2 318 (by omega), upd_self]
    · intro j hj
      rw [w2 j (by omega), upd_ne _ _ (by omega), upd_ne _ _ (by omega), upd_ne _ _ (by omega)]
    · intro _
      refine ⟨rfl, rfl, ⟨?_, ?_, ?_, ?_, ?_⟩, y2, ?_⟩
      · rw [w1 0 (by omega)]; exact r1
      · rw [w1 9 (by omega)]; exact r2
      · rw [w1 58 (by omega)]; exact r3
      · intro r hr
        rw [w1 (1 + r) (by omega)]; exact r4 r hr
      · intro e he
        rw [w1 _ (by omega), w1 _ (by omega), w1 _ (by omega)]; exact r5 e he
      · intro j j1 j2
        rw [w1 j j2]; exact y3 j j1 j2
  · refine ⟨Int32.ofInt (-1), un, re', be', so', si', va', wo', wr', bt', ba', rd', sd', upd (upd (upd all 316 (qi 0)) 317 (qi Res.1)) 318 Res.2.1, td', ?_, ?_, ?_, ?_, ?_, fun h => absurd h c, fun _ => ⟨rfl, rfl, ?_⟩⟩
    · rw [pre]
      unfold R_query_79
      rw [ef, db_some]
      simp only []
      rw [decide_eq_false c, if_pos (show qi false.toNat = (0 : Int32) from rfl)]
      rfl
    · rw [upd_ne _ _ (by omega), upd_ne _ _ (by omega), upd_self]
    · rw [upd_ne _ _ (by omega), upd_self]
    · rw [upd_self]
    · intro j hj
      rw [upd_ne _ _ (by omega), upd_ne _ _ (by omega), upd_ne _ _ (by omega)]
    · intro j hj
      rw [upd_ne _ _ (by omega), upd_ne _ _ (by omega), upd_ne _ _ (by omega)]
