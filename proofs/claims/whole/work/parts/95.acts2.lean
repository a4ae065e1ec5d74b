def qsetR (g : Qg) (r v : Nat) : Qg := (qn g, qm g, qlim g, qup (qrw g) r v, qle g, qri g, qby g)
def qsetB (g : Qg) (e v : Nat) : Qg := (qn g, qm g, qlim g, qrw g, qle g, qri g, qup (qby g) e v)
theorem qJg_setR {g : Qg} {rel edg lim : Int32} {rows left right by' : Nat → Int32} (h : qJg g rel edg lim rows left right by') (r v : Nat) : qJg (qsetR g r v) rel edg lim (upd rows r (qi v)) left right by' := by
  obtain ⟨r1, r2, r3, r4, r5⟩ := h
  refine ⟨r1, r2, r3, ?_, r5⟩
  intro j hj
  show upd rows r (qi v) j = qi (qup (qrw g) r v j)
  unfold qup upd
  by_cases e : j = r
  · rw [if_pos e, if_pos e]
  · rw [if_neg e, if_neg e]; exact r4 j hj
theorem qJg_setB {g : Qg} {rel edg lim : Int32} {rows left right by' : Nat → Int32} (h : qJg g rel edg lim rows left right by') (r v : Nat) : qJg (qsetB g r v) rel edg lim rows left right (upd by' r (qi v)) := by
  obtain ⟨r1, r2, r3, r4, r5⟩ := h
  refine ⟨r1, r2, r3, r4, ?_⟩
  intro j hj
  refine ⟨(r5 j hj).1, (r5 j hj).2.1, ?_⟩
  show upd by' r (qi v) j = qi (qup (qby g) r v j)
  unfold qup upd
  by_cases e : j = r
  · rw [if_pos e, if_pos e]
  · rw [if_neg e, if_neg e]; exact (r5 j hj).2.2
theorem qGok_setR {g : Qg} (h : qGok g) (r v : Nat) (h1 : 1 ≤ v) (h2 : v ≤ 1000000) : qGok (qsetR g r v) := by
  obtain ⟨r1, r2, r3, r4, r5⟩ := h
  refine ⟨r1, r2, r3, ?_, r5⟩
  intro j hj
  show 1 ≤ qup (qrw g) r v j ∧ qup (qrw g) r v j ≤ 1000000
  unfold qup
  by_cases e : j = r
  · rw [if_pos e]; exact ⟨h1, h2⟩
  · rw [if_neg e]; exact r4 j hj
theorem qGok_setB {g : Qg} (h : qGok g) (r v : Nat) (h1 : 1 ≤ v) (h2 : v ≤ 100000) : qGok (qsetB g r v) := by
  obtain ⟨r1, r2, r3, r4, r5⟩ := h
  refine ⟨r1, r2, r3, r4, ?_⟩
  intro j hj
  obtain ⟨a1, a2, a3, a4, a5, a6, a7⟩ := r5 j hj
  refine ⟨a1, a2, a3, a4, a5, ?_⟩
  show 1 ≤ qup (qby g) r v j ∧ qup (qby g) r v j ≤ 100000
  unfold qup
  by_cases e : j = r
  · rw [if_pos e]; exact ⟨h1, h2⟩
  · rw [if_neg e]; exact ⟨a6, a7⟩
theorem qRg_setR {g : Qg} (hg : qGok g) {a : Nat → Int32} (h : qRg g a) (r v : Nat) (hr : r < qn g) : qRg (qsetR g r v) (upd a (1 + r) (qi v)) := by
  obtain ⟨r1, r2, r3, r4, r5⟩ := h
  have h1 := hg.1
  refine ⟨by rw [upd_ne _ _ (by omega)]; exact r1, by rw [upd_ne _ _ (by omega)]; exact r2, by rw [upd_ne _ _ (by omega)]; exact r3, ?_, ?_⟩
  · intro j hj
    show upd a (1 + r) (qi v) (1 + j) = qi (qup (qrw g) r v j)
    unfold qup upd
    by_cases e : j = r
    · rw [if_pos e, if_pos (by omega)]
    · rw [if_neg e, if_neg (by omega)]; exact r4 j hj
  · intro e he
    rw [upd_ne _ _ (by omega), upd_ne _ _ (by omega), upd_ne _ _ (by omega)]
    exact r5 e he
theorem qRg_setB {g : Qg} (hg : qGok g) {a : Nat → Int32} (h : qRg g a) (r v : Nat) (hr : r < qm g) : qRg (qsetB g r v) (upd a (10 + 3 * r + 2) (qi v)) := by
  obtain ⟨r1, r2, r3, r4, r5⟩ := h
  have h1 := hg.1
  have h2 := hg.2.1
  refine ⟨by rw [upd_ne _ _ (by omega)]; exact r1, by rw [upd_ne _ _ (by omega)]; exact r2, by rw [upd_ne _ _ (by omega)]; exact r3, ?_, ?_⟩
  · intro j hj
    have : j < qn g := hj
    rw [upd_ne _ _ (by omega)]
    exact r4 j hj
  · intro e he
    rw [upd_ne _ _ (by omega), upd_ne _ _ (by omega)]
    refine ⟨(r5 e he).1, (r5 e he).2.1, ?_⟩
    show upd a (10 + 3 * r + 2) (qi v) (10 + 3 * e + 2) = qi (qup (qby g) r v e)
    unfold qup upd
    by_cases c : e = r
    · rw [if_pos c, if_pos (by omega)]
    · rw [if_neg c, if_neg (by omega)]; exact (r5 e he).2.2
theorem qi_inj {a b : Nat} (ha : a < 2147483648) (hb : b < 2147483648) (h : qi a = qi b) : a = b := (qi_eq a b ha hb).mp h
theorem qq_rows (σ : Qσ) (s : SJ) (t : SR) (hJ : qRelJ σ s) (hR : qRelR σ t) (N : Nat) (hN : 200000 < N) (x1 x2 : Int32) : ∃ σ', qOk σ' (sJ_rows s x1 x2) (sR_rows N t x1 x2) := by
  obtain ⟨⟨hc, hj, hl, hb, hf, hp⟩, hh, hs, hpp, hb0, hb1, hi⟩ := id hJ
  obtain ⟨⟨rc, r1, r2, r3, r4⟩, rh, ri⟩ := id hR
  have hg := hc.1
  have h8 := hg.1
  have hn : (s.1 41) = qi (qn σ.1.1.1) := hj.1.1
  have rn : (t.2.1 0) 0 = qi (qn σ.1.1.1) := rc.1.1
  have eI := R_isRelation_x (t.2.1 0) (qn σ.1.1.1) rn (by omega) x1
  have eR2 : R_in x2.toInt64 1 1000000 = qi (qin 1 1000000 x2).toNat := R_in_x x2 1 1000000
  cases hq : qin 0 ((qn σ.1.1.1 : Int) - 1) x1 with
  | false =>
    refine qYesJ σ 0 ?_ ?_
    · unfold sJ_rows J_rows
      rw [if_pos (show G_hasRelation (s.1 41) x1 = 0 by rw [hn, G_hasRelation_x _ (by omega), hq]; rfl)]
      exact ⟨_, rfl, hJ⟩
    · unfold sR_rows R_rows
      rw [eI, db_some, hq, if_pos (show qi false.toNat = 0 from rfl)]
      exact ⟨_, rfl, hR⟩
  | true =>
    have e1 : ¬ G_hasRelation (s.1 41) x1 = 0 := by rw [hn, G_hasRelation_x _ (by omega), hq]; decide
    have hx : ∃ r, r < qn σ.1.1.1 ∧ x1 = qi r := by
      have hq' := hq
      by_cases h0 : qn σ.1.1.1 = 0
      · unfold qin at hq'
        simp only [Bool.and_eq_true, decide_eq_true_eq] at hq'
        omega
      · obtain ⟨r, a1, a2, a3⟩ := qin_t (lo := 0) (hi := qn σ.1.1.1 - 1) (x := x1) (by rw [show ((qn σ.1.1.1 - 1 : Nat) : Int) = (qn σ.1.1.1 : Int) - 1 by omega]; exact hq') (by omega)
        exact ⟨r, by omega, a3⟩
    obtain ⟨r, hr, rfl⟩ := hx
    cases hq2 : qin 1 1000000 x2 with
    | false =>
      refine qYesJ σ 0 ?_ ?_
      · unfold sJ_rows J_rows
        rw [if_neg e1, if_pos (by rw [G_canBeRows_x, hq2]; rfl)]
        exact ⟨_, rfl, hJ⟩
      · unfold sR_rows R_rows
        rw [eI, db_some, hq, if_neg (show ¬ qi true.toNat = 0 by decide), if_pos (by rw [eR2, hq2]; rfl)]
        exact ⟨_, rfl, hR⟩
    | true =>
      have e2 : ¬ G_canBeRows x2 = 0 := by rw [G_canBeRows_x, hq2]; decide
      have e3 : ¬ R_in x2.toInt64 1 1000000 = 0 := by rw [eR2, hq2]; decide
      obtain ⟨v, v1, v2, rfl⟩ := qin_t (lo := 1) (hi := 1000000) hq2 (by omega)
      have ej : (s.2.1 32) (qi r).toNatClampNeg = qi (qrw σ.1.1.1 r) := by rw [qi_nat _ (by omega)]; exact hj.1.2.2.2.1 r hr
      have er : (t.2.1 0) ((1 : Int32) + qi r).toNatClampNeg = qi (qrw σ.1.1.1 r) := by rw [show (1 : Int32) = qi 1 from rfl, qi_add, qi_nat _ (by omega)]; exact rc.1.2.2.2.1 r hr
      have eb : inb ((1 : Int32) + qi r) 1276 := by rw [show (1 : Int32) = qi 1 from rfl, qi_add]; exact (qi_inb _ 1276 (by omega)).mpr (by omega)
      have hv : qrw σ.1.1.1 r ≤ 1000000 := (hg.2.2.2.1 r hr).2
      by_cases cv : qi (qrw σ.1.1.1 r) = qi v
      · refine qYesJ σ 0 ?_ ?_
        · unfold sJ_rows J_rows
          rw [if_neg e1, if_neg e2, dk_t ((qi_inb _ 8 (by omega)).mpr (by omega)), if_pos (ej.trans cv)]
          exact ⟨_, rfl, hJ⟩
        · unfold sR_rows R_rows
          rw [eI, db_some, hq, if_neg (show ¬ qi true.toNat = 0 by decide), if_neg e3, dk_t eb, if_pos (er.trans cv)]
          exact ⟨_, rfl, hR⟩
      · refine qYesJ (((qsetR σ.1.1.1 r v, none), σ.1.2), qrem σ.2.1 σ.1.1, σ.2.2) 1 ?_ ?_
        · unfold sJ_rows J_rows
          obtain ⟨nx', pr', pe', pl', po', pj', pb', ple', pri', pro', pp', ps', eR, hh'⟩ := J_remember_q hh hc hj
          rw [if_neg e1, if_neg e2, dk_t ((qi_inb _ 8 (by omega)).mpr (by omega)), if_neg (show ¬ (s.2.1 32) (qi r).toNatClampNeg = qi v by rw [ej]; exact cv), eR, db_some, qi_nat _ (by omega)]
          exact ⟨_, rfl, ⟨⟨qGok_setR hg r v v1 v2, fun _ h => nomatch h⟩, ⟨qJg_setR hj.1 r v, rfl⟩, hl, hb, hf, hp⟩, hh', Or.inl rfl, Or.inl rfl, Or.inl rfl, Or.inl rfl, hi⟩
        · unfold sR_rows R_rows
          obtain ⟨ud', k1, k2⟩ := R_keeps_q _ _ _ _ rh σ.1.1 hc rc N (by omega)
          obtain ⟨a1, k3, k4, k5, k6⟩ := R_noPlan_q hg _ rc.1 N (by omega)
          rw [eI, db_some, hq, if_neg (show ¬ qi true.toNat = 0 by decide), if_neg e3, dk_t eb, if_neg (show ¬ (t.2.1 0) ((1 : Int32) + qi r).toNatClampNeg = qi v by rw [er]; exact cv), k1, db_some, k3, db_some, show (1 : Int32) = qi 1 from rfl, qi_add, qi_nat _ (by omega)]
          obtain ⟨q1, q2⟩ := qAct_R ⟨rc, r1, r2, r3, r4⟩ ri k4 k6 (qRg_setR hg k4.1 r v hr) (fun j hj => by rw [upd_ne _ _ (by omega)])
          exact ⟨_, rfl, q1, k2, q2⟩
theorem q_edge_ix {m : Nat} (hm : m ≤ 16) {x1 : Int32} (hq : qin 0 ((m : Int) - 1) x1 = true) : ∃ r, r < m ∧ x1 = qi r := by
  by_cases h0 : m = 0
  · unfold qin at hq
    simp only [Bool.and_eq_true, decide_eq_true_eq] at hq
    omega
  · obtain ⟨r, a1, a2, a3⟩ := qin_t (lo := 0) (hi := m - 1) (x := x1) (by rw [show ((m - 1 : Nat) : Int) = (m : Int) - 1 by omega]; exact hq) (by omega)
    exact ⟨r, by omega, a3⟩
theorem qq_by (σ : Qσ) (s : SJ) (t : SR) (hJ : qRelJ σ s) (hR : qRelR σ t) (N : Nat) (hN : 200000 < N) (x1 x2 : Int32) : ∃ σ', qOk σ' (sJ_by s x1 x2) (sR_by N t x1 x2) := by
  obtain ⟨⟨hc, hj, hl, hb, hf, hp⟩, hh, hs, hpp, hb0, hb1, hi⟩ := id hJ
  obtain ⟨⟨rc, r1, r2, r3, r4⟩, rh, ri⟩ := id hR
  have hg := hc.1
  have h8 := hg.1
  have h16 := hg.2.1
  have hm : (s.1 42) = qi (qm σ.1.1.1) := hj.1.2.1
  have rm : (t.2.1 0) 9 = qi (qm σ.1.1.1) := rc.1.2.1
  have eI := R_isEdge_x (t.2.1 0) (qm σ.1.1.1) rm (by omega) x1
  have eR2 : R_in x2.toInt64 1 100000 = qi (qin 1 100000 x2).toNat := R_in_x x2 1 100000
  cases hq : qin 0 ((qm σ.1.1.1 : Int) - 1) x1 with
  | false =>
    refine qYesJ σ 0 ?_ ?_
    · unfold sJ_by J_by
      rw [if_pos (show G_hasEdge (s.1 42) x1 = 0 by rw [hm, G_hasEdge_x _ (by omega), hq]; rfl)]
      exact ⟨_, rfl, hJ⟩
    · unfold sR_by R_by
      rw [eI, db_some, hq, if_pos (show qi false.toNat = 0 from rfl)]
      exact ⟨_, rfl, hR⟩
  | true =>
    have e1 : ¬ G_hasEdge (s.1 42) x1 = 0 := by rw [hm, G_hasEdge_x _ (by omega), hq]; decide
    obtain ⟨r, hr, rfl⟩ := q_edge_ix h16 hq
    cases hq2 : qin 1 100000 x2 with
    | false =>
      refine qYesJ σ 0 ?_ ?_
      · unfold sJ_by J_by
        rw [if_neg e1, if_pos (by rw [G_canBeBy_x, hq2]; rfl)]
        exact ⟨_, rfl, hJ⟩
      · unfold sR_by R_by
        rw [eI, db_some, hq, if_neg (show ¬ qi true.toNat = 0 by decide), if_pos (by rw [eR2, hq2]; rfl)]
        exact ⟨_, rfl, hR⟩
    | true =>
      have e2 : ¬ G_canBeBy x2 = 0 := by rw [G_canBeBy_x, hq2]; decide
      have e3 : ¬ R_in x2.toInt64 1 100000 = 0 := by rw [eR2, hq2]; decide
      obtain ⟨v, v1, v2, rfl⟩ := qin_t (lo := 1) (hi := 100000) hq2 (by omega)
      have ej : (s.2.1 29) (qi r).toNatClampNeg = qi (qby σ.1.1.1 r) := by rw [qi_nat _ (by omega)]; exact (hj.1.2.2.2.2 r hr).2.2
      have ei : (10 : Int32) + (3 : Int32) * qi r + (2 : Int32) = qi (10 + 3 * r + 2) := by rw [show (10 : Int32) = qi 10 from rfl, show (3 : Int32) = qi 3 from rfl, show (2 : Int32) = qi 2 from rfl, qi_mul, qi_add, qi_add]
      have er : R_byOf (t.2.1 0) (qi r) = some (qi (qby σ.1.1.1 r)) := by
        unfold R_byOf
        rw [ei, dk_t ((qi_inb _ 1276 (by omega)).mpr (by omega)), qi_nat _ (by omega)]
        exact congrArg some (rc.1.2.2.2.2 r hr).2.2
      by_cases cv : qi (qby σ.1.1.1 r) = qi v
      · refine qYesJ σ 0 ?_ ?_
        · unfold sJ_by J_by
          rw [if_neg e1, if_neg e2, dk_t ((qi_inb _ 16 (by omega)).mpr (by omega)), if_pos (ej.trans cv)]
          exact ⟨_, rfl, hJ⟩
        · unfold sR_by R_by
          rw [eI, db_some, hq, if_neg (show ¬ qi true.toNat = 0 by decide), if_neg e3, er, db_some, if_pos cv]
          exact ⟨_, rfl, hR⟩
      · refine qYesJ (((qsetB σ.1.1.1 r v, none), σ.1.2), qrem σ.2.1 σ.1.1, σ.2.2) 1 ?_ ?_
        · unfold sJ_by J_by
          obtain ⟨nx', pr', pe', pl', po', pj', pb', ple', pri', pro', pp', ps', eR, hh'⟩ := J_remember_q hh hc hj
          rw [if_neg e1, if_neg e2, dk_t ((qi_inb _ 16 (by omega)).mpr (by omega)), if_neg (show ¬ (s.2.1 29) (qi r).toNatClampNeg = qi v by rw [ej]; exact cv), eR, db_some, qi_nat _ (by omega)]
          exact ⟨_, rfl, ⟨⟨qGok_setB hg r v v1 v2, fun _ h => nomatch h⟩, ⟨qJg_setB hj.1 r v, rfl⟩, hl, hb, hf, hp⟩, hh', Or.inl rfl, Or.inl rfl, Or.inl rfl, Or.inl rfl, hi⟩
        · unfold sR_by R_by
          obtain ⟨ud', k1, k2⟩ := R_keeps_q _ _ _ _ rh σ.1.1 hc rc N (by omega)
          obtain ⟨a1, k3, k4, k5, k6⟩ := R_noPlan_q hg _ rc.1 N (by omega)
          rw [eI, db_some, hq, if_neg (show ¬ qi true.toNat = 0 by decide), if_neg e3, er, db_some, if_neg cv, k1, db_some, k3, db_some, ei, dk_t ((qi_inb _ 1276 (by omega)).mpr (by omega)), qi_nat _ (by omega)]
          obtain ⟨q1, q2⟩ := qAct_R ⟨rc, r1, r2, r3, r4⟩ ri k4 k6 (qRg_setB hg k4.1 r v hr) (fun j hj => by rw [upd_ne _ _ (by omega)])
          exact ⟨_, rfl, q1, k2, q2⟩
theorem qlim_jn (g : Qg) (v : Nat) : qjn (qlimG g v) = qjn g := rfl
theorem qlim_z (g : Qg) (v : Nat) : qz (qlimG g v) = qz g := by
  funext k
  induction k with
  | zero => rfl
  | succ k ih => funext s; unfold qz; rw [ih]; rfl
theorem qlim_cp (g : Qg) (v : Nat) : qcp (qlimG g v) = qcp g := by
  funext s; unfold qcp; rw [qlim_z]; rfl
theorem qlim_sz (g : Qg) (v : Nat) : qsz (qlimG g v) = qsz g := by
  funext s; unfold qsz; rw [qlim_z]; rfl
theorem qlim_cc (g : Qg) (v : Nat) : qcc (qlimG g v) = qcc g := by
  unfold qcc; rw [qlim_cp]; rfl
theorem qlim_pc (g : Qg) (v : Nat) : qpc (qlimG g v) = qpc g := by
  unfold qpc
  rw [show qpF (qlimG g v) = qpF g from by funext T s; unfold qpF; rw [qlim_jn]]
theorem qlim_con (g : Qg) (v : Nat) : qcon (qlimG g v) = qcon g := by
  funext s; unfold qcon; rw [qlim_pc]
theorem qlim_ca (g : Qg) (v k : Nat) : qca (qlimG g v) k = qca g k := by
  unfold qca; rw [qlim_con]
theorem qlim_pa (g : Qg) (v k : Nat) : qpa (qlimG g v) k = qpa g k := by
  unfold qpa; rw [qlim_pc]
theorem qlim_best (g : Qg) (v : Nat) (lin : Bool) : qbest (qlimG g v) lin = qbest g lin := by
  unfold qbest
  have h : qwgh (qlimG g v) = qwgh g := by funext T s a p; unfold qwgh; rw [qlim_jn, qlim_sz]
  have h2 : qbst (qlimG g v) lin = qbst g lin := by funext T s a p; unfold qbst; rw [h]
  rw [show qbF (qlimG g v) lin = qbF g lin from by funext T s; unfold qbF; rw [h2]]
theorem qlim_Js (g : Qg) (v : Nat) {kn cn en : Int32} {cp li ri : Nat → Int32} {sz : Nat → Int64} (h : qJs g kn cn en cp li ri sz) : qJs (qlimG g v) kn cn en cp li ri sz := by
  rcases h with h | ⟨h1, h2, h3, h4, h5⟩
  · exact Or.inl h
  · refine Or.inr ⟨h1, by rw [qlim_cc]; exact h2, h3, h4, ?_⟩
    intro s hs
    rw [qlim_cp, qlim_sz]
    exact h5 s hs
theorem qlim_Jp (g : Qg) (v : Nat) {kn pd cn pa : Int32} {ps cs : Nat → Int32} (h : qJp g kn pd cn pa ps cs) : qJp (qlimG g v) kn pd cn pa ps cs := by
  rcases h with h | ⟨h1, h2, h3, h4, h5, h6⟩
  · exact Or.inl h
  · refine Or.inr ⟨h1, h2, by rw [qlim_ca]; exact h3, by rw [qlim_pa]; exact h4, ?_, ?_⟩
    · intro s hs
      rw [qlim_pc]
      exact h5 s hs
    · intro s hs
      rw [qlim_con]
      exact h6 s hs
theorem qlim_Jb (g : Qg) (v : Nat) {lin : Bool} {kn : Int32} {c : Nat → Int64} {x p : Nat → Int32} (h : qJb g lin kn c x p) : qJb (qlimG g v) lin kn c x p := by
  rcases h with h | ⟨h1, h2⟩
  · exact Or.inl h
  · refine Or.inr ⟨h1, ?_⟩
    rw [qlim_best]
    exact h2
theorem qq_limit (σ : Qσ) (s : SJ) (t : SR) (hJ : qRelJ σ s) (hR : qRelR σ t) (N : Nat) (hN : 200000 < N) (x1 : Int32) : ∃ σ', qOk σ' (sJ_limit s x1) (sR_limit N t x1) := by
  obtain ⟨⟨hc, hj, hl, hb, hf, hp⟩, hh, hs, hpp, hb0, hb1, hi⟩ := id hJ
  obtain ⟨⟨rc, r1, r2, r3, r4⟩, rh, ri⟩ := id hR
  have hg := hc.1
  have hm : (s.1 43) = qi (qlim σ.1.1.1) := hj.1.2.2.1
  have rm : (t.2.1 0) (58 : Int32).toNatClampNeg = qi (qlim σ.1.1.1) := rc.1.2.2.1
  have eR2 : R_in x1.toInt64 0 5000 = qi (qin 0 5000 x1).toNat := R_in_x x1 0 5000
  cases hq : qin 0 5000 x1 with
  | false =>
    refine qYesJ σ 0 ?_ ?_
    · unfold sJ_limit J_limit
      rw [if_pos (by rw [G_canBeLimit_x, hq]; rfl)]
      exact ⟨_, rfl, hJ⟩
    · unfold sR_limit R_limit
      rw [if_pos (by rw [eR2, hq]; rfl)]
      exact ⟨_, rfl, hR⟩
  | true =>
    have e2 : ¬ G_canBeLimit x1 = 0 := by rw [G_canBeLimit_x, hq]; decide
    have e3 : ¬ R_in x1.toInt64 0 5000 = 0 := by rw [eR2, hq]; decide
    by_cases cv : qi (qlim σ.1.1.1) = x1
    · refine qYesJ σ 0 ?_ ?_
      · unfold sJ_limit J_limit
        rw [if_neg e2, if_pos (hm.trans cv)]
        exact ⟨_, rfl, hJ⟩
      · unfold sR_limit R_limit
        rw [if_neg e3, if_pos (rm.trans cv)]
        exact ⟨_, rfl, hR⟩
    · obtain ⟨v, v1, v2, rfl⟩ := qin_t (lo := 0) (hi := 5000) hq (by omega)
      have hok : qcok (qlimG σ.1.1.1 v, σ.1.1.2) := ⟨⟨hg.1, hg.2.1, v2, hg.2.2.2.1, hg.2.2.2.2⟩, hc.2⟩
      refine qYesJ (((qlimG σ.1.1.1 v, σ.1.1.2), σ.1.2), qrem σ.2.1 σ.1.1, σ.2.2) 1 ?_ ?_
      · unfold sJ_limit J_limit
        obtain ⟨nx', pr', pe', pl', po', pj', pb', ple', pri', pro', pp', ps', eR, hh'⟩ := J_remember_q hh hc hj
        rw [if_neg e2, if_neg (show ¬ (s.1 43) = qi v by rw [hm]; exact cv), eR, db_some]
        exact ⟨_, rfl, ⟨hok, ⟨⟨hj.1.1, hj.1.2.1, rfl, hj.1.2.2.2.1, hj.1.2.2.2.2⟩, hj.2⟩, hl, hb, hf, hp⟩, hh', qlim_Js _ v hs, qlim_Jp _ v hpp, qlim_Jb _ v hb0, qlim_Jb _ v hb1, hi⟩
      · unfold sR_limit R_limit
        obtain ⟨ud', k1, k2⟩ := R_keeps_q _ _ _ _ rh σ.1.1 hc rc N (by omega)
        rw [if_neg e3, if_neg (show ¬ (t.2.1 0) (58 : Int32).toNatClampNeg = qi v by rw [rm]; exact cv), k1, db_some]
        have hu : ∀ j, j ≠ 58 → upd (t.2.1 0) (58 : Int32).toNatClampNeg (qi v) j = (t.2.1 0) j := fun j hj => upd_ne _ _ hj
        have h8 := hg.1
        have h16 := hg.2.1
        refine ⟨_, rfl, ⟨⟨⟨?_, ?_, ?_, ?_, ?_⟩, ?_, ?_⟩, ?_, ?_, ?_, r4⟩, k2, qIRs_c ri (fun j hj => hu j (by omega)) (fun j _ => rfl)⟩
        · exact (hu 0 (by omega)).trans rc.1.1
        · exact (hu 9 (by omega)).trans rc.1.2.1
        · exact upd_self (t.2.1 0) 58 (qi v)
        · exact fun r hr => (hu _ (by have : r < qn σ.1.1.1 := hr; omega)).trans (rc.1.2.2.2.1 r hr)
        · exact fun e he => ⟨(hu _ (by have : e < qm σ.1.1.1 := he; omega)).trans (rc.1.2.2.2.2 e he).1, (hu _ (by have : e < qm σ.1.1.1 := he; omega)).trans (rc.1.2.2.2.2 e he).2.1, (hu _ (by have : e < qm σ.1.1.1 := he; omega)).trans (rc.1.2.2.2.2 e he).2.2⟩
        · exact (hu 59 (by omega)).trans rc.2.1
        · exact fun z hz => (hu _ (by omega)).trans (rc.2.2 z hz)
        · exact (hu 316 (by omega)).trans r1
        · exact (hu 317 (by omega)).trans r2
        · exact (hu 318 (by omega)).trans r3
