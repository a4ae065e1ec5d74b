theorem q_lex {a b c d : Nat} (hb : b ≤ 1000000000000000) (h : a < c ∨ (a = c ∧ b < d)) : a * 1000000000000001 + b < c * 1000000000000001 + d := by
  rcases h with h | ⟨h, h2⟩
  · omega
  · omega
def qnk (g : Qg) (t : Qt) : Int32 := (qstp g t (2 * (qmv t).length)).1
def qms (g : Qg) (t : Qt) : Nat := qcr g t * 1000000000000001 + qco g (qts t) t
theorem qnk_q (g : Qg) (t : Qt) (h : qtok t) : qnk g t = Int32.ofInt (-1) ∨ ∃ k, k < 2 * (qmv t).length ∧ qnk g t = qi k ∧ qms g (qmk t k) < qms g t := by
  have hc : qcap = 1000000000000000 := rfl
  have key : ∀ i, i ≤ 2 * (qmv t).length → (qstp g t i = (Int32.ofInt (-1), qcr g t, qco g (qts t) t)) ∨
      ∃ k, k < 2 * (qmv t).length ∧ qstp g t i = (qi k, qcr g (qmk t k), qco g (qts t) (qmk t k)) ∧ qcr g (qmk t k) * 1000000000000001 + qco g (qts t) (qmk t k) < qms g t := by
    intro i
    induction i with
    | zero => intro _; exact .inl rfl
    | succ i ih =>
      intro hi
      have es : qstp g t (i + 1) = qstf g t (qstp g t i) i := q_frange _ _ _
      have hb2 := qco_le g (qts t) (qmk t i)
      rw [es]
      unfold qstf
      rcases ih (by omega) with e | ⟨k, hk, e, hl⟩
      · rw [e]
        split
        · rename_i hh
          right
          refine ⟨i, by omega, rfl, ?_⟩
          exact q_lex hb2 hh
        · exact .inl rfl
      · rw [e]
        have hb3 := qco_le g (qts t) (qmk t k)
        split
        · rename_i hh
          right
          refine ⟨i, by omega, rfl, ?_⟩
          exact Nat.lt_trans (q_lex hb2 hh) hl
        · exact .inr ⟨k, hk, rfl, hl⟩
  unfold qnk
  rcases key _ (Nat.le_refl _) with e | ⟨k, hk, e, hl⟩
  · rw [e]; exact .inl rfl
  · rw [e]
    refine .inr ⟨k, hk, rfl, ?_⟩
    have := (qmk_q h hk).2
    unfold qms
    rw [this]
    exact hl
def qnxt (g : Qg) (t : Qt) : Qt := if qnk g t = Int32.ofInt (-1) then t else qmk t (qnk g t).toNatClampNeg
def qitr (g : Qg) (t : Qt) : Nat → Qt
  | 0 => t
  | i + 1 => qnxt g (qitr g t i)
theorem qi_ne_m1 (k : Nat) (h : k < 2147483648) : qi k ≠ Int32.ofInt (-1) := by
  intro e
  have := congrArg Int32.toInt e
  rw [qi_toInt k h] at this
  have h2 : (Int32.ofInt (-1)).toInt = -1 := by decide
  rw [h2] at this
  omega
theorem qmv_lt (t : Qt) (h : qtok t) : (qmv t).length ≤ 6 := by
  have := qmv_len t h
  have := qtn_le t h
  omega
theorem qnxt_q {g : Qg} {t : Qt} (h : qtok t) (hn : qnk g t ≠ Int32.ofInt (-1)) : ∃ k, k < 2 * (qmv t).length ∧ qnk g t = qi k ∧ qnxt g t = qmk t k ∧ qms g (qnxt g t) < qms g t := by
  have hl := qmv_lt t h
  rcases qnk_q g t h with e | ⟨k, hk, e, hl⟩
  · exact absurd e hn
  · have e2 : qnxt g t = qmk t k := by
      unfold qnxt
      rw [if_neg hn, e, qi_nat _ (by omega)]
    exact ⟨k, hk, e, e2, by rw [e2]; exact hl⟩
theorem qitr_ok {g : Qg} {t : Qt} (h : qtok t) : ∀ i, qtok (qitr g t i) ∧ qts (qitr g t i) = qts t := by
  intro i
  induction i with
  | zero => exact ⟨h, rfl⟩
  | succ i ih =>
    show qtok (qnxt g (qitr g t i)) ∧ _ = _
    by_cases e : qnk g (qitr g t i) = Int32.ofInt (-1)
    · have : qnxt g (qitr g t i) = qitr g t i := if_pos e
      show qtok (qnxt g (qitr g t i)) ∧ qts (qnxt g (qitr g t i)) = qts t
      rw [this]; exact ih
    · obtain ⟨k, hk, _, e2, _⟩ := qnxt_q ih.1 e
      show qtok (qnxt g (qitr g t i)) ∧ qts (qnxt g (qitr g t i)) = qts t
      rw [e2]
      have := qmk_q ih.1 hk
      exact ⟨this.1, this.2.trans ih.2⟩
theorem qitr_dec {g : Qg} {t : Qt} (h : qtok t) (M : Nat) (hM : ∀ i, i ≤ M → qnk g (qitr g t i) ≠ Int32.ofInt (-1)) : ∀ j, j ≤ M → ∀ i, i < j → qms g (qitr g t j) < qms g (qitr g t i) := by
  intro j
  induction j with
  | zero => intro _ i hi; omega
  | succ j ih =>
    intro hj i hi
    obtain ⟨_, _, _, _, hl⟩ := qnxt_q (qitr_ok h j).1 (hM j (by omega))
    have hl' : qms g (qitr g t (j + 1)) < qms g (qitr g t j) := hl
    by_cases e : i = j
    · subst e; exact hl'
    · have := ih (by omega) i (by omega)
      omega
theorem qitr_end {g : Qg} {t : Qt} (h : qtok t) : ∃ n, n ≤ 135135 ∧ qnk g (qitr g t n) = Int32.ofInt (-1) ∧ ∀ j, j < n → qnk g (qitr g t j) ≠ Int32.ofInt (-1) := by
  have least : ∀ M, (∃ i, i ≤ M ∧ qnk g (qitr g t i) = Int32.ofInt (-1)) → ∃ n, n ≤ M ∧ qnk g (qitr g t n) = Int32.ofInt (-1) ∧ ∀ j, j < n → qnk g (qitr g t j) ≠ Int32.ofInt (-1) := by
    intro M
    induction M with
    | zero =>
      rintro ⟨i, hi, e⟩
      have : i = 0 := by omega
      subst this
      exact ⟨0, by omega, e, by intro j hj; omega⟩
    | succ M ih =>
      rintro ⟨i, hi, e⟩
      by_cases hx : ∃ i, i ≤ M ∧ qnk g (qitr g t i) = Int32.ofInt (-1)
      · obtain ⟨n, h1, h2, h3⟩ := ih hx
        exact ⟨n, by omega, h2, h3⟩
      · have : i = M + 1 := by
          by_cases c : i ≤ M
          · exact absurd ⟨i, c, e⟩ hx
          · omega
        subst this
        exact ⟨M + 1, by omega, e, fun j hj ej => hx ⟨j, by omega, ej⟩⟩
  apply least
  by_cases hx : ∃ i, i ≤ 135135 ∧ qnk g (qitr g t i) = Int32.ofInt (-1)
  · exact hx
  · exfalso
    have hall : ∀ i, i ≤ 135135 → qnk g (qitr g t i) ≠ Int32.ofInt (-1) := fun i hi e => hx ⟨i, hi, e⟩
    have gen : ∀ M, (∀ i, i ≤ M → qnk g (qitr g t i) ≠ Int32.ofInt (-1)) → M + 1 ≤ (qAT (qts t) 8).length := by
      intro M hM
      have hd := qitr_dec h M hM
      have hlen : ((List.range (M + 1)).map (qitr g t)).length = M + 1 := by simp
      rw [← hlen]
      apply q_nodup_le
      · unfold List.Nodup
        rw [List.pairwise_map]
        refine (List.pairwise_lt_range (n := M + 1)).imp_of_mem (fun {a b} ha hb hab e => ?_)
        have := hd b (by have := List.mem_range.mp hb; omega) a hab
        rw [e] at this
        omega
      · intro u hu
        obtain ⟨i, _, rfl⟩ := List.mem_map.mp hu
        have := qitr_ok (g := g) h i
        apply qAT_mem _ 8 _ this.1
        rw [this.2, Nat.mod_eq_of_lt (qts_lt t h).1]
    have := gen 135135 hall
    have := qAT_8 (qts t)
    omega
def qJs (g : Qg) (kn cn en : Int32) (cp li ri : Nat → Int32) (sz : Nat → Int64) : Prop := kn = qi 0 ∨ (kn = qi 1 ∧ cn = qi (qcc g) ∧ en = qi (2 ^ qn g) ∧ qSets g li ri ∧ qSz g cp sz (2 ^ qn g))
theorem J_knownSets_q {g : Qg} (hg : qGok g) {kn cn en rel edg lim : Int32} {cp li ri by' left right rows : Nat → Int32} {sz : Nat → Int64} (hj : qJg g rel edg lim rows left right by') (h : qJs g kn cn en cp li ri sz) (N : Nat) (hN : 300 < N) :
    ∃ cp' li' ri' sz', J_knownSets N kn cn en rel edg cp li ri sz by' left right rows = some (qi 1, qi (qcc g), qi (2 ^ qn g), cp', li', ri', sz') ∧ qSets g li' ri' ∧ qSz g cp' sz' (2 ^ qn g) := by
  rcases h with rfl | ⟨rfl, rfl, rfl, h1, h2⟩
  · obtain ⟨cp', li', ri', sz', e, q1, q2⟩ := S_measure_q hg rel edg lim rows left right by' li ri cp sz hj (qi 0) cn en N hN
    refine ⟨cp', li', ri', sz', ?_, q1, q2⟩
    unfold J_knownSets
    rw [if_pos (show qi 0 = 0 from rfl), e]
    rfl
  · refine ⟨cp, li, ri, sz, ?_, h1, h2⟩
    unfold J_knownSets
    rw [if_neg (show ¬ (qi 1 = 0) by decide)]
    rfl
theorem P_copy_q (r' j' r j : Int32) (p' s' p s : Nat → Int32) : ∃ p2 s2, P_copy r' j' r j p' s' p s = some (r', j', p2, s2) ∧ (∀ i, i < 7 → p2 i = p' i ∧ s2 i = s' i) := by
  refine ⟨va_cpy p' p 0 0 7, va_cpy s' s 0 0 7, rfl, ?_⟩
  intro i hi
  unfold va_cpy
  rw [if_pos (by omega), if_pos (by omega)]
  simp
theorem qat_7 {t : Qt} (h : qtok t) {st pt st' pt' : Nat → Int32} (hq : qat (qtn t) 0 st pt) (e : ∀ i, i < 7 → pt' i = pt i ∧ st' i = st i) : qat (qtn t) 0 st' pt' := by
  have hl := qtn_le t h
  exact qat_f hq (fun i hi => ⟨(e i (by omega)).2, (e i (by omega)).1⟩)
theorem J_steps_core {g : Qg} (hg : qGok g) (t : Qt) (h : qtok t) (ht : qts t < 2 ^ qn g) (n : Nat) (hn : n ≤ 135135) (hn1 : qnk g (qitr g t n) = Int32.ofInt (-1)) (hn2 : ∀ j, j < n → qnk g (qitr g t j) ≠ Int32.ofInt (-1))
    {kn cn en rel edg lim : Int32} {cp li ri by' left right rows : Nat → Int32} {sz : Nat → Int64} (hj : qJg g rel edg lim rows left right by') (hs : qJs g kn cn en cp li ri sz)
    (wp ws : Nat → Int32) (hw : qat (qtn t) 0 ws wp) (mr mj : Int32) (sp mp ms : Nat → Int32) (pr pj : Int32) (pp ps : Nat → Int32) (N : Nat) (hN : 200000 < N) :
    ∃ wr wj mr' mj' sp' cp' li' ri' sz' wp' ws' mp' ms', J_steps_31 N kn cn en (qi (qts t)) (qi (qtn t).length) mr mj sp rel edg pr pj cp li ri sz wp ws mp ms by' left right rows pp ps (qi 0) =
      some (qi n, qi 1, qi (qcc g), qi (2 ^ qn g), wr, wj, mr', mj', sp', cp', li', ri', sz', wp', ws', mp', ms') ∧ qSets g li' ri' ∧ qSz g cp' sz' (2 ^ qn g) := by
  have key := qlp_rel (body := fun x : Int32 × Int32 × Int32 × Int32 × Int32 × Int32 × Int32 × (Nat → Int32) × (Nat → Int32) × (Nat → Int32) × (Nat → Int32) × (Nat → Int64) × (Nat → Int32) × (Nat → Int32) × (Nat → Int32) × (Nat → Int32) × Int32 =>
      J_steps_b31 N x.1 x.2.1 x.2.2.1 x.2.2.2.1 x.2.2.2.2.1 x.2.2.2.2.2.1 x.2.2.2.2.2.2.1 x.2.2.2.2.2.2.2.1 rel edg pr pj x.2.2.2.2.2.2.2.2.1 x.2.2.2.2.2.2.2.2.2.1 x.2.2.2.2.2.2.2.2.2.2.1 x.2.2.2.2.2.2.2.2.2.2.2.1 x.2.2.2.2.2.2.2.2.2.2.2.2.1 x.2.2.2.2.2.2.2.2.2.2.2.2.2.1 x.2.2.2.2.2.2.2.2.2.2.2.2.2.2.1 x.2.2.2.2.2.2.2.2.2.2.2.2.2.2.2.1 by' left right rows pp ps x.2.2.2.2.2.2.2.2.2.2.2.2.2.2.2.2)
    (Inv := fun i x => qJs g x.1 x.2.1 x.2.2.1 x.2.2.2.2.2.2.2.2.1 x.2.2.2.2.2.2.2.2.2.1 x.2.2.2.2.2.2.2.2.2.2.1 x.2.2.2.2.2.2.2.2.2.2.2.1 ∧ x.2.2.2.1 = qi (qts t) ∧ x.2.2.2.2.1 = qi (qtn (qitr g t i)).length ∧
      qat (qtn (qitr g t i)) 0 x.2.2.2.2.2.2.2.2.2.2.2.2.2.1 x.2.2.2.2.2.2.2.2.2.2.2.2.1 ∧ x.2.2.2.2.2.2.2.2.2.2.2.2.2.2.2.2 = qi i) n
    (Q := fun y => ∃ wr wj mr' mj' sp' cp' li' ri' sz' wp' ws' mp' ms', y = .inl (qi 1, qi (qcc g), qi (2 ^ qn g), wr, wj, mr', mj', sp', cp', li', ri', sz', wp', ws', mp', ms', qi n) ∧ qSets g li' ri' ∧ qSz g cp' sz' (2 ^ qn g)) ?_ ?_
    (kn, cn, en, qi (qts t), qi (qtn t).length, mr, mj, sp, cp, li, ri, sz, wp, ws, mp, ms, qi 0) ⟨hs, rfl, rfl, hw, rfl⟩ N (by omega)
  · obtain ⟨y, e, wr, wj, mr', mj', sp', cp', li', ri', sz', wp', ws', mp', ms', rfl, q1, q2⟩ := key
    refine ⟨wr, wj, mr', mj', sp', cp', li', ri', sz', wp', ws', mp', ms', ?_, q1, q2⟩
    unfold J_steps_31
    rw [e]
    rfl
  · rintro i ⟨kn, cn, en, wr, wj, mr, mj, sp, cp, li, ri, sz, wp, ws, mp, ms, ix⟩ hi ⟨h1, h2, h3, h4, h5⟩
    simp only at h1 h2 h3 h4 h5
    subst h2
    subst h3
    subst h5
    obtain ⟨ok, oks⟩ := qitr_ok (g := g) h i
    obtain ⟨cp', li', ri', sz', ek, q1, q2⟩ := J_knownSets_q hg hj h1 N (by omega)
    obtain ⟨a1, a2, a3, a4, a5, es⟩ := V_stepOf_q hg q1 q2 (qitr g t i) ok (by rw [oks]; exact ht) ws wp h4 mr mj sp mp ms N (by omega)
    obtain ⟨k, hk, e1, e2, _⟩ := qnxt_q ok (hn2 i hi)
    obtain ⟨b1, b2, b3, em, hq, _, _⟩ := V_make_q (qitr g t i) ok ws wp h4 a1 a2 a3 a4 a5 k hk N (by omega)
    obtain ⟨p2, s2, ec, hc⟩ := P_copy_q (qi (qts (qitr g t i))) (qi (qtn (qmk (qitr g t i) k)).length) (qi (qts t)) (qi (qtn (qitr g t i)).length) b2 b3 wp ws
    have hnx : qitr g t (i + 1) = qmk (qitr g t i) k := e2
    have ok' := (qitr_ok (g := g) h (i + 1)).1
    rw [oks] at es em ec
    have ek1 : (qstp g (qitr g t i) (2 * (qmv (qitr g t i)).length)).1 = qi k := e1
    rw [ek1] at es
    have hkl : k < 100 := by have := qmv_lt _ ok; omega
    refine ⟨(qi 1, qi (qcc g), qi (2 ^ qn g), qi (qts t), qi (qtn (qmk (qitr g t i) k)).length, qi (qts t), qi (qtn (qmk (qitr g t i) k)).length, b1, cp', li', ri', sz', p2, s2, b2, b3, qi (i + 1)), ?_, .inr ⟨rfl, rfl, rfl, q1, q2⟩, rfl, by rw [hnx], ?_, rfl⟩
    · have hm : ¬ qi k = (-1 : Int32) := qi_ne_m1 k (by omega)
      simp (disch := omega) only [J_steps_b31, ek, es, em, ec, dn, db_some, dk_t, qi_lit, qi_le, qi_add, if_neg (show ¬ 1000000 ≤ i by omega)]
      rw [if_neg (by exact hm)]
    · show qat (qtn (qitr g t (i + 1))) 0 s2 p2
      rw [hnx] at ok' ⊢
      exact qat_7 ok' hq hc
  · rintro ⟨kn, cn, en, wr, wj, mr, mj, sp, cp, li, ri, sz, wp, ws, mp, ms, ix⟩ ⟨h1, h2, h3, h4, h5⟩
    simp only at h1 h2 h3 h4 h5
    subst h2
    subst h3
    subst h5
    obtain ⟨ok, oks⟩ := qitr_ok (g := g) h n
    obtain ⟨cp', li', ri', sz', ek, q1, q2⟩ := J_knownSets_q hg hj h1 N (by omega)
    obtain ⟨a1, a2, a3, a4, a5, es⟩ := V_stepOf_q hg q1 q2 (qitr g t n) ok (by rw [oks]; exact ht) ws wp h4 mr mj sp mp ms N (by omega)
    have ek1 : (qstp g (qitr g t n) (2 * (qmv (qitr g t n)).length)).1 = Int32.ofInt (-1) := hn1
    rw [oks, ek1] at es
    refine ⟨.inl (qi 1, qi (qcc g), qi (2 ^ qn g), qi (qts t), qi (qtn (qitr g t n)).length, a1, a2, a3, cp', li', ri', sz', wp, ws, a4, a5, qi n), ?_, _, _, _, _, _, _, _, _, _, _, _, _, _, rfl, q1, q2⟩
    simp (disch := omega) only [J_steps_b31, ek, es, dn, db_some, dk_t, qi_lit, qi_le, if_neg (show ¬ 1000000 ≤ n by omega)]
    rfl
theorem R_steps_core {g : Qg} {all : Nat → Int32} {sz : Nat → Int64} (hg : qGok g) (hr : qRg g all) (hz : ∀ s, s ≠ 0 → s < 2 ^ qn g → sz s = ql (qsz g s)) (t : Qt) (h : qtok t) (ht : qts t < 2 ^ qn g) (n : Nat) (hn : n ≤ 135135) (hn1 : qnk g (qitr g t n) = Int32.ofInt (-1)) (hn2 : ∀ j, j < n → qnk g (qitr g t j) ≠ Int32.ofInt (-1))
    (ra o f1 f2 f3 f4 f5 : Int32) (bc : Nat → Int64) (bx bp cp con nd op p : Nat → Int32) (hp : qRp t p) (hnd : qnd nd (qns t)) (N : Nat) (hN : 200000 < N) :
    ∃ o' nm g1 g2 g3 g4 g5 nd' op' p', R_steps_35 N ra o (qi (qtn t).length) f1 f2 f3 f4 f5 all bc bx bp cp con nd op p sz (qi (qts t)) (qi 0) (qnk g t) =
      some (qi n, ra, o', nm, g1, g2, g3, g4, g5, bc, bx, bp, cp, con, nd', op', p', sz) := by
  have key := qlp_rel (body := fun x : Int32 × Int32 × Int32 × Int32 × Int32 × Int32 × Int32 × (Nat → Int32) × (Nat → Int32) × (Nat → Int32) × Int32 × Int32 =>
      R_steps_b35 N ra x.1 x.2.1 x.2.2.1 x.2.2.2.1 x.2.2.2.2.1 x.2.2.2.2.2.1 x.2.2.2.2.2.2.1 all bc bx bp cp con x.2.2.2.2.2.2.2.1 x.2.2.2.2.2.2.2.2.1 x.2.2.2.2.2.2.2.2.2.1 sz (qi (qts t)) x.2.2.2.2.2.2.2.2.2.2.1 x.2.2.2.2.2.2.2.2.2.2.2)
    (Inv := fun i x => x.2.1 = qi (qtn (qitr g t i)).length ∧ qnd x.2.2.2.2.2.2.2.1 (qns (qitr g t i)) ∧ qRp (qitr g t i) x.2.2.2.2.2.2.2.2.2.1 ∧ x.2.2.2.2.2.2.2.2.2.2.1 = qi i ∧ x.2.2.2.2.2.2.2.2.2.2.2 = qnk g (qitr g t i)) n
    (Q := fun y => y.2.2.2.2.2.2.2.2.2.2 = qi n) ?_ ?_ (o, qi (qtn t).length, f1, f2, f3, f4, f5, nd, op, p, qi 0, qnk g t) ⟨rfl, hnd, hp, rfl, rfl⟩ N (by omega)
  · obtain ⟨⟨o', nm, g1, g2, g3, g4, g5, nd', op', p', b⟩, e, q⟩ := key
    simp only at q
    subst q
    refine ⟨o', nm, g1, g2, g3, g4, g5, nd', op', p', ?_⟩
    unfold R_steps_35
    rw [e]
    rfl
  · rintro i ⟨o, nm, f1, f2, f3, f4, f5, nd, op, p, x2, x3⟩ hi ⟨h1, h2, h3, h4, h5⟩
    simp only at h1 h2 h3 h4 h5
    subst h1
    subst h4
    obtain ⟨ok, oks⟩ := qitr_ok (g := g) h i
    obtain ⟨k, hk, e1, e2, _⟩ := qnxt_q ok (hn2 i hi)
    have hkl : k < 100 := by have := qmv_lt _ ok; omega
    rw [e1] at h5
    subst h5
    obtain ⟨a1, a2, a3, a4, a5, em, hm⟩ := (R_isMove_q (qitr g t i) ok p nd h3 h2 f1 f2 f3 f4 f5 k (by omega) N (by omega)).1 hk
    obtain ⟨p2, eg, hp2, _⟩ := R_goes_q (qitr g t i) ok p h3 k a1 a2 a3 a4 a5 hm
    have hnx : qitr g t (i + 1) = qmk (qitr g t i) k := e2
    obtain ⟨ok', oks'⟩ := qitr_ok (g := g) h (i + 1)
    rw [← hnx] at hp2
    obtain ⟨o', g1, g2, g3, g4, g5, nd', op', p', eb, hp', hnd'⟩ := R_bestMove_q hg hr hz (qitr g t (i + 1)) ok' (by rw [oks']; exact ht) p2 hp2 o (qi (qtn (qitr g t i)).length) a1 a2 a3 a4 a5 nd op N (by omega)
    rw [oks'] at eb
    have eb' : R_bestMove N o (qi (qtn (qitr g t i)).length) a1 a2 a3 a4 a5 all nd op p2 sz (qi (qts t)) = some (qnk g (qitr g t (i + 1)), o', qi (qtn (qitr g t (i + 1))).length, g1, g2, g3, g4, g5, nd', op', p') := eb
    clear eb hnx e2
    generalize qitr g t (i + 1) = T at *
    refine ⟨(o', qi (qtn T).length, g1, g2, g3, g4, g5, nd', op', p', qi (i + 1), qnk g T), ?_, rfl, hnd', hp', rfl, rfl⟩
    have hm : ¬ qi k = (-1 : Int32) := qi_ne_m1 k (by omega)
    simp only []
    unfold R_steps_b35
    rw [if_neg hm, em, db_some]
    simp only []
    rw [eg, db_some]
    simp only [dn]
    rw [eb', db_some, show (1 : Int32) = qi 1 from rfl, qi_add]
  · rintro ⟨o, nm, f1, f2, f3, f4, f5, nd, op, p, x2, x3⟩ ⟨h1, h2, h3, h4, h5⟩
    simp only at h1 h2 h3 h4 h5
    subst h4
    rw [hn1] at h5
    subst h5
    refine ⟨(o, nm, f1, f2, f3, f4, f5, nd, op, p, qi n), ?_, rfl⟩
    unfold R_steps_b35
    rw [if_pos (show Int32.ofInt (-1) = (-1 : Int32) from rfl)]
