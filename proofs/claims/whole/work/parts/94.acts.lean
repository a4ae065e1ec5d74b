theorem qAct_R {φ : Qf} {M : Nat → Option Qf} {all tx sv a1 a2 : Nat → Int32} (hF : qFR φ all tx) (hI : qIRs M all tx sv) (h1 : qRc (φ.1.1, none) a1) (e1 : ∀ j, 316 ≤ j → a1 j = all j) {g' : Qg} (h2 : qRg g' a2) (e2 : ∀ j, 59 ≤ j → a2 j = a1 j) :
    qFR ((g', none), φ.2) a2 tx ∧ qIRs M a2 tx sv := by
  obtain ⟨f1, f2, f3, f4, f5⟩ := hF
  refine ⟨⟨⟨h2, by rw [e2 59 (by omega)]; exact h1.2.1, fun s hs => by rw [e2 _ (by omega)]; exact h1.2.2 s hs⟩, ?_, ?_, ?_, f5⟩, qIRs_c hI (fun j hj => by rw [e2 j (by omega), e1 j (by omega)]) (fun j _ => rfl)⟩
  · rw [e2 _ (by omega), e1 _ (by omega)]; exact f2
  · rw [e2 _ (by omega), e1 _ (by omega)]; exact f3
  · rw [e2 _ (by omega), e1 _ (by omega)]; exact f4
theorem qNoJ {σ : Qσ} {s : SJ} (hJ : qRelJ σ s) {t : SR} (hR : qRelR σ t) {α : Type} (a : Option (α × SJ)) (b : Option (α × SR)) (v : α) (ha : ∃ s', a = some (v, s') ∧ qRelJ σ s') (hb : ∃ t', b = some (v, t') ∧ qRelR σ t') : ∃ σ', qOk σ' a b := by
  obtain ⟨s', e1, h1⟩ := ha
  obtain ⟨t', e2, h2⟩ := hb
  exact ⟨σ, v, s', t', e1, e2, h1, h2⟩
theorem qYesJ (σ' : Qσ) {α : Type} {a : Option (α × SJ)} {b : Option (α × SR)} (v : α) (ha : ∃ s', a = some (v, s') ∧ qRelJ σ' s') (hb : ∃ t', b = some (v, t') ∧ qRelR σ' t') : ∃ σ', qOk σ' a b := by
  obtain ⟨s', e1, h1⟩ := ha
  obtain ⟨t', e2, h2⟩ := hb
  exact ⟨σ', v, s', t', e1, e2, h1, h2⟩
theorem qRg_addR {g : Qg} (hg : qGok g) (h8 : qn g < 8) {a : Nat → Int32} (h : qRg g a) (v : Nat) : qRg (qaddR g v) (upd (upd a (1 + qn g) (qi v)) 0 (qi (qn g + 1))) := by
  obtain ⟨r1, r2, r3, r4, r5⟩ := h
  have h2 := hg.2.1
  refine ⟨upd_self _ _ _, ?_, ?_, ?_, ?_⟩
  · rw [upd_ne _ _ (by omega), upd_ne _ _ (by omega)]; exact r2
  · rw [upd_ne _ _ (by omega), upd_ne _ _ (by omega)]; exact r3
  · intro r hr
    show upd _ _ _ (1 + r) = qi (qup (qrw g) (qn g) v r)
    rw [upd_ne _ _ (by omega)]
    unfold qup
    by_cases e : r = qn g
    · subst e; rw [upd_self, if_pos rfl]
    · rw [upd_ne _ _ (by omega), if_neg e]
      exact r4 r (by have : r < qn g + 1 := hr; omega)
  · intro e he
    rw [upd_ne _ _ (by omega), upd_ne _ _ (by omega), upd_ne _ _ (by omega), upd_ne _ _ (by omega), upd_ne _ _ (by omega), upd_ne _ _ (by omega)]
    exact r5 e he
theorem qq_add (σ : Qσ) (s : SJ) (t : SR) (hJ : qRelJ σ s) (hR : qRelR σ t) (N : Nat) (hN : 200000 < N) (x1 : Int32) : ∃ σ', qOk σ' (sJ_add s x1) (sR_add N t x1) := by
  obtain ⟨⟨hc, hj, hl, hb, hf, hp⟩, hh, hs, hpp, hb0, hb1, hi⟩ := id hJ
  obtain ⟨⟨rc, r1, r2, r3, r4⟩, rh, ri⟩ := id hR
  have hg := hc.1
  have h8 := hg.1
  have hn : (s.1 41) = qi (qn σ.1.1.1) := hj.1.1
  have rn : (t.2.1 0) 0 = qi (qn σ.1.1.1) := rc.1.1
  cases hq : qin 1 1000000 x1 with
  | false =>
    refine qYesJ σ (-1) ?_ ?_
    · unfold sJ_add J_add
      rw [if_pos (by rw [G_canBeRows_x, hq]; rfl)]
      exact ⟨_, rfl, hJ⟩
    · unfold sR_add R_add
      rw [if_pos (show R_in x1.toInt64 1 1000000 = 0 by rw [R_in_x, show (1 : Int64).toInt = 1 from rfl, show (1000000 : Int64).toInt = 1000000 from rfl, hq]; rfl)]
      exact ⟨_, rfl, hR⟩
  | true =>
    have e1 : ¬ G_canBeRows x1 = 0 := by rw [G_canBeRows_x, hq]; decide
    have e2 : ¬ R_in x1.toInt64 1 1000000 = 0 := by rw [R_in_x, show (1 : Int64).toInt = 1 from rfl, show (1000000 : Int64).toInt = 1000000 from rfl, hq]; decide
    obtain ⟨v, v1, v2, rfl⟩ := qin_t (lo := 1) (hi := 1000000) hq (by omega)
    by_cases c8 : qn σ.1.1.1 < 8
    · refine qYesJ (((qaddR σ.1.1.1 v, none), σ.1.2), qrem σ.2.1 σ.1.1, σ.2.2) (qi (qn σ.1.1.1 + 1) - 1) ?_ ?_
      · unfold sJ_add J_add
        rw [if_neg e1, if_pos (show (s.1 41) < 8 by rw [hn]; exact (qi_lt _ 8 (by omega) (by omega)).mpr c8)]
        obtain ⟨nx', pr', pe', pl', po', pj', pb', ple', pri', pro', pp', ps', eR, hh'⟩ := J_remember_q hh hc hj
        have ea : G_addRelation (s.1 41) (s.2.1 32) (qi v) = some (qi (qn σ.1.1.1 + 1), upd (s.2.1 32) (qn σ.1.1.1) (qi v)) := by
          unfold G_addRelation
          rw [hn, if_neg (show ¬ (8 : Int32) ≤ qi (qn σ.1.1.1) from fun h => absurd ((qi_le 8 _ (by omega) (by omega)).mp h) (by omega)), dk_t ((qi_inb _ 8 (by omega)).mpr (by omega)), qi_nat _ (by omega)]
          rw [q_dn, q_dn, show (1 : Int32) = qi 1 from rfl, qi_add]
        rw [eR, db_some, ea, db_some]
        exact ⟨_, rfl, ⟨⟨qGok_addR hg c8 v v1 v2, fun _ h => nomatch h⟩, ⟨qJg_addR hj.1 v, rfl⟩, hl, hb, hf, hp⟩, hh', Or.inl rfl, Or.inl rfl, Or.inl rfl, Or.inl rfl, hi⟩
      · unfold sR_add R_add
        obtain ⟨ud', k1, k2⟩ := R_keeps_q _ _ _ _ rh σ.1.1 hc rc N (by omega)
        obtain ⟨a1, k3, k4, k5, k6⟩ := R_noPlan_q hg _ rc.1 N (by omega)
        have k0 : a1 (0 : Int32).toNatClampNeg = qi (qn σ.1.1.1) := (k5 0 (by omega)).trans rn
        rw [if_neg e2, if_neg (show ¬ (t.2.1 0) (0 : Int32).toNatClampNeg = 8 from fun e => absurd ((qi_eq _ 8 (by omega) (by omega)).mp (rn.symm.trans e)) (by omega)), k1, db_some, k3, db_some, k0]
        rw [show (1 : Int32) = qi 1 from rfl, qi_add, dk_t ((qi_inb _ 1276 (by omega)).mpr (by omega)), qi_nat _ (by omega), q_dn, q_dn]
        have k7 : upd a1 (1 + qn σ.1.1.1) (qi v) (0 : Int32).toNatClampNeg = qi (qn σ.1.1.1) := (upd_ne _ _ (show (0 : Nat) ≠ _ by omega)).trans k0
        rw [k7, qi_add]
        obtain ⟨q1, q2⟩ := qAct_R ⟨rc, r1, r2, r3, r4⟩ ri k4 k6 (qRg_addR hg c8 k4.1 v) (fun j hj => by rw [upd_ne _ _ (by omega), upd_ne _ _ (by omega)])
        exact ⟨_, rfl, q1, k2, q2⟩
    · refine qYesJ σ (-1) ?_ ?_
      · unfold sJ_add J_add
        rw [if_neg e1, if_neg (show ¬ (s.1 41) < 8 by rw [hn]; exact fun h => c8 ((qi_lt _ 8 (by omega) (by omega)).mp h))]
        exact ⟨_, rfl, hJ⟩
      · unfold sR_add R_add
        rw [if_neg e2, if_pos (show (t.2.1 0) (0 : Int32).toNatClampNeg = 8 from rn.trans (congrArg qi (show qn σ.1.1.1 = 8 by omega)))]
        exact ⟨_, rfl, hR⟩
