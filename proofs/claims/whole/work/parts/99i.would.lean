def qbc1 (g : Qg) : Nat := (qbest g false (2 ^ qn g - 1)).1
theorem q_twop {n : Nat} (h : 1 ≤ n) : 2 ≤ 2 ^ n := by
  calc 2 = 2 ^ 1 := rfl
    _ ≤ 2 ^ n := Nat.pow_le_pow_right (by omega) h
theorem J_costOfTrial_q {g : Qg} (hg : qGok g) (h1 : 1 ≤ qn g) {rel edg lim : Int32} {rows left right by' : Nat → Int32} (hj : qJg g rel edg lim rows left right by') (bk kn cn en : Int32) (bc : Nat → Int64) (bx bp cp li ri : Nat → Int32) (sz : Nat → Int64) (N : Nat) (hN : 300 < N) :
    ∃ r, J_costOfTrial N rel edg bk kn cn en by' left right rows bc bx bp cp li ri sz = some (ql (qbc1 g), r) := by
  have h8 := q2p _ hg.1
  have h2 := q_twop h1
  obtain ⟨cp', li', ri', sz', e, q1, q2⟩ := S_measure_q hg rel edg lim rows left right by' li ri cp sz hj kn cn en N hN
  obtain ⟨c', x', p', f1, f2⟩ := B_find_q hg q1 false q2 bk bc bx bp N hN
  have f1' : B_find N (qi (2 ^ qn g)) bk li' ri' sz' bc bx bp (0 : Int32) = some (1, c', x', p') := f1
  have ga : G_all rel = qi (2 ^ qn g - 1) := by rw [hj.1, G_all_x _ hg.1]
  unfold J_costOfTrial
  rw [e, db_some]
  dsimp only
  rw [f1', db_some, ga, dk_t ((qi_inb _ 256 (by omega)).mpr (by omega)), qi_nat _ (by omega)]
  dsimp only
  have := (f2 (2 ^ qn g - 1) (by omega) (by omega)).1
  rw [Nat.zero_add] at this
  rw [this]
  exact ⟨_, rfl⟩
theorem R_bestOfAll_q {g : Qg} {all : Nat → Int32} (hg : qGok g) (h1 : 1 ≤ qn g) (hr : qRg g all) (bc : Nat → Int64) (bx bp cp con : Nat → Int32) (sz : Nat → Int64) (N : Nat) (hN : 300 < N) :
    ∃ r, R_bestOfAll N all bc bx bp cp con sz = some (ql (qbc1 g), r) := by
  have h8 := q2p _ hg.1
  have h2 := q_twop h1
  obtain ⟨bc', bx', bp', cp', con', sz', l1, l2⟩ := R_lays_q hg hr bc bx bp cp con sz N hN
  unfold R_bestOfAll
  rw [l1, db_some, R_everything_q hg hr.1, dk_t ((qi_inb _ 512 (by omega)).mpr (by omega)), qi_nat _ (by omega)]
  dsimp only
  have := (l2.1 (2 ^ qn g - 1) (by omega) (by omega)).1
  rw [Nat.zero_add] at this
  rw [this]
  exact ⟨_, rfl⟩
theorem upd_back (a : Nat → Int32) (k : Nat) (v : Int32) : upd (upd a k v) k (a k) = a := by
  funext j
  unfold upd
  split
  · next h => rw [h]
  · rfl
theorem qq_would (σ : Qσ) (s : SJ) (t : SR) (hJ : qRelJ σ s) (hR : qRelR σ t) (N : Nat) (hN : 200000 < N) (x1 x2 x3 : Int32) : ∃ σ', qOk σ' (sJ_would N s x1 x2 x3) (sR_would N t x1 x2 x3) := by
  obtain ⟨⟨hc, hj, hl, hb, hf, hp⟩, hh, hs, hpp, hb0, hb1, hi⟩ := id hJ
  obtain ⟨⟨rc, r1, r2, r3, r4⟩, rh, ri⟩ := id hR
  have hg := hc.1
  have h8 := hg.1
  have h16 := hg.2.1
  have hn : (s.1 41) = qi (qn σ.1.1.1) := hj.1.1
  have hm : (s.1 42) = qi (qm σ.1.1.1) := hj.1.2.1
  obtain ⟨b3, le3, ri3, ro3, gc, gq⟩ := G_copy_q hg hj.1 (s.1 27) (s.1 28) (s.1 29) (s.2.1 15) (s.2.1 16) (s.2.1 17) (s.2.1 18)
  by_cases d1 : x1 = 0
  · subst d1
    have gh : G_hasRelation (s.1 41) x2 = qi (qin 0 ((qn σ.1.1.1 : Int) - 1) x2).toNat := by rw [hn]; exact G_hasRelation_x _ (by omega) _
    have rs := R_isRelation_x (t.2.1 0) _ rc.1.1 (by omega) x2
    have cb := G_canBeRows_x x3
    have ri' : R_in x3.toInt64 (1 : Int64) (1000000 : Int64) = qi (qin 1 1000000 x3).toNat := R_in_x x3 1 1000000
    have no : (qin 0 ((qn σ.1.1.1 : Int) - 1) x2 = false ∨ qin 1 1000000 x3 = false) → ∃ σ', qOk σ' (sJ_would N s 0 x2 x3) (sR_would N t 0 x2 x3) := by
      intro h
      refine qYesJ σ (-1) ?_ ?_
      · unfold sJ_would J_would J_would_58 J_would_59
        rw [if_pos (show (0 : Int32) = 0 from rfl), gh, cb]
        rcases h with h | h
        · rw [h, if_pos (show qi false.toNat = 0 from rfl), if_pos (show (0 : Int32) = 0 from rfl)]
          exact ⟨_, rfl, hJ⟩
        · rw [h, if_pos (show (0 : Int32) = 0 from rfl), if_pos (show qi false.toNat = 0 from rfl)]
          cases qin 0 ((qn σ.1.1.1 : Int) - 1) x2 with
          | true => exact ⟨_, rfl, hJ⟩
          | false => exact ⟨_, rfl, hJ⟩
      · unfold sR_would R_would R_would_52
        rw [if_pos (show (0 : Int32) = 0 from rfl), rs, db_some, ri']
        rcases h with h | h
        · rw [h, if_pos (show qi false.toNat = 0 from rfl)]
          exact ⟨_, rfl, hR⟩
        · rw [h, if_pos (show qi false.toNat = 0 from rfl)]
          cases qin 0 ((qn σ.1.1.1 : Int) - 1) x2 with
          | true => exact ⟨_, rfl, hR⟩
          | false => exact ⟨_, rfl, hR⟩
    cases c1 : qin 0 ((qn σ.1.1.1 : Int) - 1) x2 with
    | false => exact no (Or.inl c1)
    | true =>
      cases c2 : qin 1 1000000 x3 with
      | false => exact no (Or.inr c2)
      | true =>
        rw [c1] at gh rs
        rw [c2] at cb ri'
        obtain ⟨e, he, rfl⟩ := q_edge_ix (m := qn σ.1.1.1) (by omega) c1
        obtain ⟨v, v1, v2, rfl⟩ := qin_t (lo := 1) (hi := 1000000) c2 (by omega)
        have tn : (qi e).toNatClampNeg = e := qi_nat _ (by omega)
        obtain ⟨rj, ej⟩ := J_costOfTrial_q (qGok_setR hg e v v1 v2) (show 1 ≤ qn σ.1.1.1 by omega) (qJg_setR gq e v) (s.1 30) (s.1 31) (s.1 33) (s.1 36) (s.2.2.1 3) (s.2.1 19) (s.2.1 20) (s.2.1 21) (s.2.1 22) (s.2.1 24) (s.2.2.1 4) N (by omega)
        obtain ⟨rr, er⟩ := R_bestOfAll_q (qGok_setR hg e v v1 v2) (show 1 ≤ qn σ.1.1.1 by omega) (qRg_setR hg rc.1 e v he) (t.2.2 0) (t.2.1 1) (t.2.1 2) (t.2.1 3) (t.2.1 4) (t.2.2 1) N (by omega)
        refine qYesJ σ (ql (qbc1 (qsetR σ.1.1.1 e v))) ?_ ?_
        · unfold sJ_would J_would J_would_59 J_would_111
          rw [if_pos (show (0 : Int32) = 0 from rfl), gh, if_neg (show ¬ qi true.toNat = 0 by decide), cb, if_neg (show ¬ qi true.toNat = 0 by decide), if_neg (show ¬ (1 : Int32) = 0 by decide), gc, db_some, if_pos (show (0 : Int32) = 0 from rfl), dk_t ((qi_inb e 8 (by omega)).mpr (by omega)), q_dn, tn]
          dsimp only
          rw [ej, db_some]
          exact ⟨_, rfl, hJ⟩
        · unfold sR_would R_would R_would_56 R_would_74
          have ix : (1 : Int32) + qi e = qi (1 + e) := by rw [show (1 : Int32) = qi 1 from rfl, qi_add]
          rw [if_pos (show (0 : Int32) = 0 from rfl), rs, db_some, if_neg (show ¬ qi true.toNat = 0 by decide), ri', if_neg (show ¬ qi true.toNat = 0 by decide), if_pos (show (0 : Int32) = 0 from rfl), ix, dk_t ((qi_inb _ 1276 (by omega)).mpr (by omega)), q_dn, q_dn, qi_nat _ (by omega), er, db_some, q_dn, upd_back]
          exact ⟨_, rfl, hR⟩
  · have gh : G_hasEdge (s.1 42) x2 = qi (qin 0 ((qm σ.1.1.1 : Int) - 1) x2).toNat := by rw [hm]; exact G_hasEdge_x _ (by omega) _
    have rs := R_isEdge_x (t.2.1 0) _ rc.1.2.1 (by omega) x2
    have cb := G_canBeBy_x x3
    have ri' : R_in x3.toInt64 (1 : Int64) (100000 : Int64) = qi (qin 1 100000 x3).toNat := R_in_x x3 1 100000
    have no : (qin 0 ((qm σ.1.1.1 : Int) - 1) x2 = false ∨ qin 1 100000 x3 = false) → ∃ σ', qOk σ' (sJ_would N s x1 x2 x3) (sR_would N t x1 x2 x3) := by
      intro h
      refine qYesJ σ (-1) ?_ ?_
      · unfold sJ_would J_would J_would_29 J_would_59
        rw [if_neg d1, gh, cb]
        rcases h with h | h
        · rw [h, if_pos (show qi false.toNat = 0 from rfl), if_pos (show (0 : Int32) = 0 from rfl)]
          exact ⟨_, rfl, hJ⟩
        · rw [h, if_pos (show (0 : Int32) = 0 from rfl), if_pos (show qi false.toNat = 0 from rfl)]
          cases qin 0 ((qm σ.1.1.1 : Int) - 1) x2 with
          | true => exact ⟨_, rfl, hJ⟩
          | false => exact ⟨_, rfl, hJ⟩
      · unfold sR_would R_would R_would_52
        rw [if_neg d1, rs, db_some, ri']
        rcases h with h | h
        · rw [h, if_pos (show qi false.toNat = 0 from rfl)]
          exact ⟨_, rfl, hR⟩
        · rw [h, if_pos (show qi false.toNat = 0 from rfl)]
          cases qin 0 ((qm σ.1.1.1 : Int) - 1) x2 with
          | true => exact ⟨_, rfl, hR⟩
          | false => exact ⟨_, rfl, hR⟩
    cases c1 : qin 0 ((qm σ.1.1.1 : Int) - 1) x2 with
    | false => exact no (Or.inl c1)
    | true =>
      cases c2 : qin 1 100000 x3 with
      | false => exact no (Or.inr c2)
      | true =>
        rw [c1] at gh rs
        rw [c2] at cb ri'
        obtain ⟨e, he, rfl⟩ := q_edge_ix (m := qm σ.1.1.1) (by omega) c1
        obtain ⟨v, v1, v2, rfl⟩ := qin_t (lo := 1) (hi := 100000) c2 (by omega)
        have tn : (qi e).toNatClampNeg = e := qi_nat _ (by omega)
        have n1 : 1 ≤ qn σ.1.1.1 := by
          have := hg.2.2.2.2 e he
          rcases Nat.eq_zero_or_pos (qn σ.1.1.1) with h | h
          · rw [h] at this; omega
          · exact h
        obtain ⟨rj, ej⟩ := J_costOfTrial_q (qGok_setB hg e v v1 v2) n1 (qJg_setB gq e v) (s.1 30) (s.1 31) (s.1 33) (s.1 36) (s.2.2.1 3) (s.2.1 19) (s.2.1 20) (s.2.1 21) (s.2.1 22) (s.2.1 24) (s.2.2.1 4) N (by omega)
        obtain ⟨rr, er⟩ := R_bestOfAll_q (qGok_setB hg e v v1 v2) n1 (qRg_setB hg rc.1 e v he) (t.2.2 0) (t.2.1 1) (t.2.1 2) (t.2.1 3) (t.2.1 4) (t.2.2 1) N (by omega)
        refine qYesJ σ (ql (qbc1 (qsetB σ.1.1.1 e v))) ?_ ?_
        · unfold sJ_would J_would J_would_59 J_would_111
          rw [if_neg d1, gh, if_neg (show ¬ qi true.toNat = 0 by decide), cb, if_neg (show ¬ qi true.toNat = 0 by decide), if_neg (show ¬ (1 : Int32) = 0 by decide), gc, db_some, if_neg d1, dk_t ((qi_inb e 16 (by omega)).mpr (by omega)), q_dn, tn]
          dsimp only
          rw [ej, db_some]
          exact ⟨_, rfl, hJ⟩
        · unfold sR_would R_would R_would_56 R_would_74
          have ix : (10 : Int32) + (3 : Int32) * qi e + (2 : Int32) = qi (10 + 3 * e + 2) := by rw [show (10 : Int32) = qi 10 from rfl, show (3 : Int32) = qi 3 from rfl, show (2 : Int32) = qi 2 from rfl, qi_mul, qi_add, qi_add]
          rw [if_neg d1, rs, db_some, if_neg (show ¬ qi true.toNat = 0 by decide), ri', if_neg (show ¬ qi true.toNat = 0 by decide), if_neg d1, ix, dk_t ((qi_inb _ 1276 (by omega)).mpr (by omega)), q_dn, q_dn, qi_nat _ (by omega), er, db_some, q_dn, upd_back]
          exact ⟨_, rfl, hR⟩
def qnf (g : Qg) (a : Option (Nat × Nat)) (i : Nat) : Option (Nat × Nat) :=
  match a with
  | none => some (i, qbc1 (qdropE g i))
  | some (e, c) => if c < qbc1 (qdropE g i) then some (i, qbc1 (qdropE g i)) else some (e, c)
def qne (g : Qg) (k : Nat) : Option (Nat × Nat) := (List.range k).foldl (qnf g) none
theorem qne_s (g : Qg) (k : Nat) : qne g (k + 1) = qnf g (qne g k) k := by
  unfold qne
  rw [List.range_succ, List.foldl_append]
  rfl
theorem qbc1_le {g : Qg} (hg : qGok g) : qbc1 g ≤ qcap := by
  have := q2p _ hg.1
  exact (qbest_b g false _ (by omega)).1
def qnJ : Option (Nat × Nat) → Int32 × Int64
  | none => (-1, -1)
  | some (e, c) => (qi e, ql c)
def qnR : Option (Nat × Nat) → Int32 × Int64
  | none => (-1, 0)
  | some (e, c) => (qi e, ql c)
theorem q_dblp {α β γ δ : Type} {body : α → Option (α ⊕ β)} {N : Nat} {x : α} {f : β → Option (γ × δ)} (v : γ) (Q : β → Prop) (h : ∃ y, lp body N x = some y ∧ Q y) (hf : ∀ y, Q y → ∃ r, f y = some (v, r)) : ∃ r, db (lp body N x) f = some (v, r) := by
  obtain ⟨y, h1, h2⟩ := h
  rw [h1, db_some]
  exact hf y h2
theorem qne_some (g : Qg) (k : Nat) : qne g k = none ↔ k = 0 := by
  cases k with
  | zero => exact ⟨fun _ => rfl, fun _ => rfl⟩
  | succ k =>
    rw [qne_s]
    refine ⟨fun h => ?_, fun h => by omega⟩
    unfold qnf at h
    split at h
    · cases h
    · split at h <;> cases h
theorem qne_le {g : Qg} (hg : qGok g) : ∀ k, k ≤ qm g → ∀ e c, qne g k = some (e, c) → c ≤ qcap ∧ e < k := by
  intro k
  induction k with
  | zero => intro _ e c h; cases h
  | succ k ih =>
    intro hk e c h
    have hb := qbc1_le (qGok_drop hg k (by omega))
    rw [qne_s] at h
    unfold qnf at h
    split at h
    · cases h
      exact ⟨hb, by omega⟩
    · next e' c' h' =>
      have := ih (by omega) e' c' h'
      split at h
      · cases h
        exact ⟨hb, by omega⟩
      · cases h
        exact ⟨this.1, by omega⟩
theorem q_m1_lt (c : Nat) (h : c ≤ qcap) : (-1 : Int64) < ql c := by
  have hc : qcap = 1000000000000000 := rfl
  rw [Int64.lt_iff_toInt_lt, show (-1 : Int64).toInt = -1 from rfl, ql_toInt c (by omega)]
  omega
theorem qi_ne_m1' (k : Nat) (h : k < 2147483648) : ¬ qi k = (-1 : Int32) := qi_ne_m1 k h
theorem q_n1 {g : Qg} (hg : qGok g) {e : Nat} (he : e < qm g) : 1 ≤ qn g := by
  have := hg.2.2.2.2 e he
  rcases Nat.eq_zero_or_pos (qn g) with h | h
  · rw [h] at this; omega
  · exact h
theorem J_needed_core {g : Qg} (hg : qGok g) {rel edg lim : Int32} {rows left right by' : Nat → Int32} (hj : qJg g rel edg lim rows left right by')
    (tr te tl tbk tsk tsc tse : Int32) (tb tle tri tro : Nat → Int32) (tbc : Nat → Int64) (tbx tbp tcp tli tri2 : Nat → Int32) (tsz : Nat → Int64) (x1 : Int32) (N : Nat) (hN : 300 < N) :
    ∃ r, J_needed N tr te tl tbk tsk tsc tse rel edg lim tb tle tri tro tbc tbx tbp tcp tli tri2 tsz by' left right rows x1 = some (if x1 = 0 then (qnJ (qne g (qm g))).1.toInt64 else (qnJ (qne g (qm g))).2, r) := by
  have h16 := hg.2.1
  have he : edg = qi (qm g) := hj.2.1
  unfold J_needed J_needed_9
  refine q_dblp _ (fun y => y.2.2.2.2.2.2.2.2.2.2.2.2.2.2.2.2.2.2.1 = (qnJ (qne g (qm g))).1 ∧ y.2.2.2.2.2.2.2.2.2.2.2.2.2.2.2.2.2.2.2 = (qnJ (qne g (qm g))).2) ?_ ?_
  · refine qlp_rel (fun i x => x.2.2.2.2.2.2.2.2.2.2.2.2.2.2.2.2.2.2.1 = (qnJ (qne g i)).1 ∧ x.2.2.2.2.2.2.2.2.2.2.2.2.2.2.2.2.2.2.2.1 = (qnJ (qne g i)).2 ∧ x.2.2.2.2.2.2.2.2.2.2.2.2.2.2.2.2.2.2.2.2 = qi i) (qm g) _ ?_ ?_ _ ⟨rfl, rfl, rfl⟩ N (by omega)
    · intro i x hi hx
      obtain ⟨a1, a2, a3, a4, a5, a6, a7, a8, a9, a10, a11, a12, a13, a14, a15, a16, a17, a18, a19, a20, a21⟩ := x
      obtain ⟨e1, e2, e3⟩ := hx
      dsimp only at e1 e2 e3 ⊢
      obtain ⟨b3, le3, ri3, ro3, gc, gq⟩ := G_copy_q hg hj a1 a2 a3 a8 a9 a10 a11
      obtain ⟨b', l', r', gd, gdq⟩ := G_dropEdge_q hg gq i hi
      obtain ⟨rj, ej⟩ := J_costOfTrial_q (qGok_drop hg i hi) (show 1 ≤ qn g from q_n1 hg hi) gdq a4 a5 a6 a7 a12 a13 a14 a15 a16 a17 a18 N hN
      have hb := qbc1_le (qGok_drop hg i hi)
      have hcap : qcap = 1000000000000000 := rfl
      unfold J_needed_b9
      rw [e3, if_neg (show ¬ edg ≤ qi i by rw [he]; exact fun h => absurd ((qi_le _ _ (by omega) (by omega)).mp h) (by omega)), gc, db_some]
      dsimp only
      rw [gd, db_some]
      dsimp only
      rw [ej, db_some]
      dsimp only
      have ad : qi i + (1 : Int32) = qi (i + 1) := by rw [show (1 : Int32) = qi 1 from rfl, qi_add]
      rw [qne_s, q_dn, q_dn, ad]
      cases hq : qne g i with
      | none =>
        rw [hq] at e2
        rw [if_pos (show a20 < ql (qbc1 (qdropE g i)) by rw [e2]; exact q_m1_lt _ hb)]
        exact ⟨_, rfl, rfl, rfl, rfl⟩
      | some z =>
        obtain ⟨ze, zc⟩ := z
        have hz := qne_le hg i (by omega) ze zc hq
        rw [hq] at e1 e2
        by_cases c : zc < qbc1 (qdropE g i)
        · rw [if_pos (show a20 < ql (qbc1 (qdropE g i)) by rw [e2]; exact (ql_lt _ _ (by omega) (by omega)).mpr c)]
          rw [show qnf g (some (ze, zc)) i = some (i, qbc1 (qdropE g i)) from if_pos c]
          exact ⟨_, rfl, rfl, rfl, rfl⟩
        · rw [if_neg (show ¬ a20 < ql (qbc1 (qdropE g i)) by rw [e2]; exact fun h => c ((ql_lt _ _ (by omega) (by omega)).mp h))]
          rw [show qnf g (some (ze, zc)) i = some (ze, zc) from if_neg c]
          exact ⟨_, rfl, e1, e2, rfl⟩
    · intro x hx
      obtain ⟨a1, a2, a3, a4, a5, a6, a7, a8, a9, a10, a11, a12, a13, a14, a15, a16, a17, a18, a19, a20, a21⟩ := x
      obtain ⟨e1, e2, e3⟩ := hx
      dsimp only at e1 e2 e3 ⊢
      unfold J_needed_b9
      rw [e3, if_pos (show edg ≤ qi (qm g) by rw [he]; exact (qi_le _ _ (by omega) (by omega)).mpr (by omega))]
      exact ⟨_, rfl, e1, e2⟩
  · intro y hy
    obtain ⟨e1, e2⟩ := hy
    unfold J_needed_a9 J_needed_72
    rw [e1, e2]
    by_cases c : x1 = 0
    · rw [if_pos c, if_pos c]
      exact ⟨_, rfl⟩
    · rw [if_neg c, if_neg c]
      exact ⟨_, rfl⟩
theorem R_needed_103_q (all t9 kept : Nat → Int32) (h1 : ∀ j, j < 9 ∨ 58 ≤ j → t9 j = all j) (h2 : ∀ j, 9 ≤ j → j < 58 → kept j = all j) (ra : Int32) (bc : Nat → Int64) (bx bp cp con : Nat → Int32) (sz : Nat → Int64) (x1 X2 : Int32) (X3 : Int64) (x5 : Int32) (i : Nat) (N : Nat) (hN : 300 < N) :
    R_needed_103 N ra t9 bc bx bp cp con kept sz x1 X2 X3 x5 (qi i) (9 : Int32) = some (Sum.inl (all, bc, bx, bp, cp, con, sz, X2, X3, qi (i + 1))) := by
  have ad : ∀ k, qi k + (1 : Int32) = qi (k + 1) := fun k => by rw [show (1 : Int32) = qi 1 from rfl, qi_add]
  have key := qlp_rel (body := fun x : (Nat → Int32) × Int32 => R_needed_b103 N ra x.1 bc bx bp cp con kept sz x1 X2 X3 x5 (qi i) x.2) (fun k y => y.2 = qi (9 + k) ∧ ∀ j, j < 9 + k ∨ 58 ≤ j → y.1 j = all j) 49 (fun y => y = all) ?_ ?_ (t9, (9 : Int32)) ⟨rfl, h1⟩ N (by omega)
  · obtain ⟨y, e1, e2⟩ := key
    unfold R_needed_103
    rw [e1, db_some]
    unfold R_needed_a103 R_needed_130
    rw [q_dn, ad, e2]
  · intro k y hk hy
    obtain ⟨a, b⟩ := y
    obtain ⟨e1, e2⟩ := hy
    dsimp only at e1 e2 ⊢
    unfold R_needed_b103
    rw [e1, if_neg (show ¬ (58 : Int32) ≤ qi (9 + k) from fun h => absurd ((qi_le 58 _ (by omega) (by omega)).mp h) (by omega)), dk_t ((qi_inb _ 64 (by omega)).mpr (by omega)), dk_t ((qi_inb _ 1276 (by omega)).mpr (by omega)), q_dn, q_dn, qi_nat _ (by omega), ad]
    refine ⟨_, rfl, rfl, ?_⟩
    intro j hj
    dsimp only
    by_cases c : j = 9 + k
    · subst c
      rw [upd_self]
      exact h2 _ (by omega) (by omega)
    · rw [upd_ne _ _ c]
      exact e2 j (by omega)
  · intro y hy
    obtain ⟨a, b⟩ := y
    obtain ⟨e1, e2⟩ := hy
    dsimp only at e1 e2 ⊢
    unfold R_needed_b103
    rw [e1, if_pos (show (58 : Int32) ≤ qi (9 + 49) by decide)]
    exact ⟨_, rfl, funext fun j => e2 j (by omega)⟩
theorem R_needed_core {g : Qg} (hg : qGok g) {all : Nat → Int32} (hr : qRg g all) (hm : 1 ≤ qm g) (ra : Int32) (bc : Nat → Int64) (bx bp cp con kept : Nat → Int32) (sz : Nat → Int64) (x1 : Int32) (N : Nat) (hN : 300 < N) :
    ∃ r, R_needed N ra all bc bx bp cp con kept sz x1 = some (if x1 = 0 then (qnR (qne g (qm g))).1.toInt64 else (qnR (qne g (qm g))).2, 0, all, r) := by
  have h16 := hg.2.1
  have ad : ∀ k, qi k + (1 : Int32) = qi (k + 1) := fun k => by rw [show (1 : Int32) = qi 1 from rfl, qi_add]
  have r9 : all (9 : Int32).toNatClampNeg = qi (qm g) := hr.2.1
  have key := qlp_rel (body := fun x : (Nat → Int32) × Int32 => R_needed_b22 N 0 all bc bx bp cp con x.1 sz x1 x.2) (fun k y => y.2 = qi (9 + k) ∧ ∀ j, 9 ≤ j → j < 9 + k → y.1 j = all j) 49 (fun y => ∀ j, 9 ≤ j → j < 58 → y j = all j) ?_ ?_ (kept, (9 : Int32)) ⟨rfl, fun j h1 h2 => absurd h2 (by omega)⟩ N (by omega)
  · obtain ⟨kp, e1, e2⟩ := key
    unfold R_needed R_needed_22
    rw [if_neg (show ¬ all (9 : Int32).toNatClampNeg = 0 by rw [r9]; exact fun h => absurd (qi_inj (a := qm g) (b := 0) (by omega) (by omega) h) (by omega)), e1, db_some]
    unfold R_needed_a22 R_needed_46 R_needed_62
    rw [q_dn, r9]
    have k2 : ∃ y, lp (fun x : (Nat → Int32) × (Nat → Int64) × (Nat → Int32) × (Nat → Int32) × (Nat → Int32) × (Nat → Int32) × (Nat → Int64) × Int32 × Int64 × Int32 => R_needed_b62 N 0 x.1 x.2.1 x.2.2.1 x.2.2.2.1 x.2.2.2.2.1 x.2.2.2.2.2.1 kp x.2.2.2.2.2.2.1 x1 x.2.2.2.2.2.2.2.1 x.2.2.2.2.2.2.2.2.1 (qi (qm g)) x.2.2.2.2.2.2.2.2.2) N (all, bc, bx, bp, cp, con, sz, (-1 : Int32), (0 : Int64), (0 : Int32)) = some y ∧ (y.1 = all ∧ y.2.2.2.2.2.2.2.1 = (qnR (qne g (qm g))).1 ∧ y.2.2.2.2.2.2.2.2 = (qnR (qne g (qm g))).2) := by
      refine qlp_rel (fun i x => x.1 = all ∧ x.2.2.2.2.2.2.2.1 = (qnR (qne g i)).1 ∧ x.2.2.2.2.2.2.2.2.1 = (qnR (qne g i)).2 ∧ x.2.2.2.2.2.2.2.2.2 = qi i) (qm g) _ ?_ ?_ _ ⟨rfl, rfl, rfl, rfl⟩ N (by omega)
      · intro i x hi hx
        obtain ⟨a1, a2, a3, a4, a5, a6, a7, a8, a9, a10⟩ := x
        obtain ⟨e0, f1, f2, f3⟩ := hx
        dsimp only at e0 f1 f2 f3 ⊢
        subst e0
        obtain ⟨a', t1, t2, t3, t4⟩ := R_takesOut_q hg hr i hi N hN
        obtain ⟨rr, er⟩ := R_bestOfAll_q (qGok_drop hg i hi) (show 1 ≤ qn g from q_n1 hg hi) t2 a2 a3 a4 a5 a6 a7 N hN
        obtain ⟨r1, r2, r3, r4, r5, r6⟩ := rr
        have hb := qbc1_le (qGok_drop hg i hi)
        have hcap : qcap = 1000000000000000 := rfl
        have bk : ∀ X2 X3, R_needed_103 N 0 a' r1 r2 r3 r4 r5 kp r6 x1 X2 X3 (qi (qm g)) (qi i) (9 : Int32) = some (Sum.inl (a1, r1, r2, r3, r4, r5, r6, X2, X3, qi (i + 1))) := fun X2 X3 =>
          R_needed_103_q a1 a' kp (fun j hj => by rcases hj with hj | hj; exact t3 j hj; exact t4 j hj) e2 0 r1 r2 r3 r4 r5 r6 x1 X2 X3 (qi (qm g)) i N hN
        unfold R_needed_b62 R_needed_93 R_needed_99
        rw [f3, if_neg (show ¬ qi (qm g) ≤ qi i from fun h => absurd ((qi_le _ _ (by omega) (by omega)).mp h) (by omega)), t1, db_some, er, db_some]
        dsimp only
        rw [bk, bk, qne_s]
        cases hq : qne g i with
        | none =>
          rw [hq] at f1
          rw [if_pos (show a8 = -1 from f1)]
          exact ⟨_, rfl, rfl, rfl, rfl, rfl⟩
        | some z =>
          obtain ⟨ze, zc⟩ := z
          have hz := qne_le hg i (by omega) ze zc hq
          rw [hq] at f1 f2
          rw [if_neg (show ¬ a8 = -1 by rw [f1]; exact qi_ne_m1' ze (by omega))]
          by_cases c : zc < qbc1 (qdropE g i)
          · rw [if_pos (show a9 < ql (qbc1 (qdropE g i)) by rw [f2]; exact (ql_lt _ _ (by omega) (by omega)).mpr c)]
            rw [show qnf g (some (ze, zc)) i = some (i, qbc1 (qdropE g i)) from if_pos c]
            exact ⟨_, rfl, rfl, rfl, rfl, rfl⟩
          · rw [if_neg (show ¬ a9 < ql (qbc1 (qdropE g i)) by rw [f2]; exact fun h => c ((ql_lt _ _ (by omega) (by omega)).mp h))]
            rw [show qnf g (some (ze, zc)) i = some (ze, zc) from if_neg c]
            exact ⟨_, rfl, rfl, f1, f2, rfl⟩
      · intro x hx
        obtain ⟨a1, a2, a3, a4, a5, a6, a7, a8, a9, a10⟩ := x
        obtain ⟨e0, f1, f2, f3⟩ := hx
        dsimp only at e0 f1 f2 f3 ⊢
        unfold R_needed_b62
        rw [f3, if_pos (show qi (qm g) ≤ qi (qm g) from (qi_le _ _ (by omega) (by omega)).mpr (by omega))]
        exact ⟨_, rfl, e0, f1, f2⟩
    obtain ⟨y, k3, k4, k5, k6⟩ := k2
    rw [k3, db_some]
    unfold R_needed_a62 R_needed_136
    rw [k4, k5, k6]
    by_cases c : x1 = 0
    · rw [if_pos c, if_pos c]
      exact ⟨_, rfl⟩
    · rw [if_neg c, if_neg c]
      exact ⟨_, rfl⟩
  · intro k y hk hy
    obtain ⟨a, b⟩ := y
    obtain ⟨e1, e2⟩ := hy
    dsimp only at e1 e2 ⊢
    unfold R_needed_b22
    rw [e1, if_neg (show ¬ (58 : Int32) ≤ qi (9 + k) from fun h => absurd ((qi_le 58 _ (by omega) (by omega)).mp h) (by omega)), dk_t ((qi_inb _ 1276 (by omega)).mpr (by omega)), dk_t ((qi_inb _ 64 (by omega)).mpr (by omega)), q_dn, q_dn, qi_nat _ (by omega), ad]
    refine ⟨_, rfl, rfl, ?_⟩
    intro j h1 h2
    dsimp only
    by_cases c : j = 9 + k
    · subst c
      rw [upd_self]
    · rw [upd_ne _ _ c]
      exact e2 j h1 (by omega)
  · intro y hy
    obtain ⟨a, b⟩ := y
    obtain ⟨e1, e2⟩ := hy
    dsimp only at e1 e2 ⊢
    unfold R_needed_b22
    rw [e1, if_pos (show (58 : Int32) ≤ qi (9 + 49) by decide)]
    exact ⟨_, rfl, fun j h1 h2 => e2 j h1 (by omega)⟩
theorem qq_needed (σ : Qσ) (s : SJ) (t : SR) (hJ : qRelJ σ s) (hR : qRelR σ t) (N : Nat) (hN : 200000 < N) (x1 : Int32) : ∃ σ', qOk σ' (sJ_needed N s x1) (sR_needed N t x1) := by
  obtain ⟨⟨hc, hj, hl, hb, hf, hp⟩, hh, hs, hpp, hb0, hb1, hi⟩ := id hJ
  obtain ⟨⟨rc, r1, r2, r3, r4⟩, rh, ri⟩ := id hR
  have hg := hc.1
  have h16 := hg.2.1
  have r9 : (t.2.1 0) (9 : Int32).toNatClampNeg = qi (qm σ.1.1.1) := rc.1.2.1
  obtain ⟨r, ej⟩ := J_needed_core hg hj.1 (s.1 27) (s.1 28) (s.1 29) (s.1 30) (s.1 31) (s.1 33) (s.1 36) (s.2.1 15) (s.2.1 16) (s.2.1 17) (s.2.1 18) (s.2.2.1 3) (s.2.1 19) (s.2.1 20) (s.2.1 21) (s.2.1 22) (s.2.1 24) (s.2.2.1 4) x1 N (by omega)
  refine qYesJ σ (if x1 = 0 then (qnJ (qne σ.1.1.1 (qm σ.1.1.1))).1.toInt64 else (qnJ (qne σ.1.1.1 (qm σ.1.1.1))).2) ?_ ?_
  · unfold sJ_needed
    rw [ej, db_some]
    exact ⟨_, rfl, hJ⟩
  · by_cases c : qm σ.1.1.1 = 0
    · unfold sR_needed R_needed
      rw [if_pos (show (t.2.1 0) (9 : Int32).toNatClampNeg = 0 by rw [r9, c]; rfl), db_some, c]
      have : (if x1 = 0 then (qnJ (qne σ.1.1.1 0)).1.toInt64 else (qnJ (qne σ.1.1.1 0)).2) = -1 := by split <;> rfl
      rw [this]
      exact ⟨_, rfl, hR⟩
    · obtain ⟨r', er⟩ := R_needed_core hg rc.1 (by omega) (t.1 0) (t.2.2 0) (t.2.1 1) (t.2.1 2) (t.2.1 3) (t.2.1 4) (t.2.1 5) (t.2.2 1) x1 N (by omega)
      have e : qnR (qne σ.1.1.1 (qm σ.1.1.1)) = qnJ (qne σ.1.1.1 (qm σ.1.1.1)) := by
        cases h : qne σ.1.1.1 (qm σ.1.1.1) with
        | none => exact absurd ((qne_some _ _).mp h) c
        | some z => rfl
      unfold sR_needed
      rw [er, db_some, e]
      exact ⟨_, rfl, hR⟩
