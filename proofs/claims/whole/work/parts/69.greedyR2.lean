def qkp (one other : Nat) (u : Qt) : Bool := decide (qts u ≠ one) && decide (qts u ≠ other)
theorem q_take_f {α : Type} (c : α → Bool) (l : List α) (i : Nat) (h : i < l.length) : (l.take (i + 1)).filter c = (l.take i).filter c ++ (if c l[i] then [l[i]] else []) := by
  rw [← List.take_append_getElem h, List.filter_append]
  congr 1
  simp [List.filter_cons]
theorem qarr_s {a : Nat → Int32} {P : List Qt} (h : qarr a P) (u : Qt) : qarr (upd a P.length (qi (qts u))) (P ++ [u]) := by
  intro i v hv
  by_cases hi : i < P.length
  · rw [List.getElem?_append_left hi] at hv
    rw [upd_ne _ _ (by omega)]; exact h i v hv
  · have := (List.getElem?_eq_some_iff.mp hv).1
    simp at this
    have e : i = P.length := by omega
    subst e
    have : v = u := by simpa using hv.symm
    subst this
    exact upd_self _ _ _
theorem qarr_f {a a' : Nat → Int32} {P : List Qt} (h : qarr a P) (e : ∀ i, i < P.length → a' i = a i) : qarr a' P := by
  intro i u hu
  rw [e i (List.getElem?_eq_some_iff.mp hu).1]
  exact h i u hu
theorem R_jg_pack {all p tr : Nat → Int32} {sz : Nat → Int64} (Q : List Qt) (hl8 : Q.length ≤ 8) (hQ : qfo Q) (ht : qarr tr Q) (one other : Nat) (ho : one < 256) (ho' : other < 256) (N : Nat) (hN : 300 < N) :
    ∃ tr', lp (fun y : (Nat → Int32) × Int32 × Int32 => R_joinsGreedily_b146 N (qi Q.length) all p sz y.1 (qi one) (qi other) y.2.1 y.2.2) N (tr, qi 0, qi 0) = some (tr', qi (Q.filter (qkp one other)).length) ∧ qarr tr' (Q.filter (qkp one other)) := by
  have key := qlp_rel (body := fun y : (Nat → Int32) × Int32 × Int32 => R_joinsGreedily_b146 N (qi Q.length) all p sz y.1 (qi one) (qi other) y.2.1 y.2.2)
    (Inv := fun k y => y.2.2 = qi k ∧ y.2.1 = qi ((Q.take k).filter (qkp one other)).length ∧ qarr y.1 ((Q.take k).filter (qkp one other)) ∧ ∀ i u, k ≤ i → Q[i]? = some u → y.1 i = qi (qts u)) Q.length
    (Q := fun y => y.2 = qi (Q.filter (qkp one other)).length ∧ qarr y.1 (Q.filter (qkp one other)))
    (by
      rintro k ⟨f, n, ix⟩ hk ⟨rfl, rfl, h1, h2⟩
      simp only at h1 h2
      have hle : ((Q.take k).filter (qkp one other)).length ≤ k := by
        have := List.length_filter_le (qkp one other) (Q.take k)
        simp at this
        omega
      have hu : Q[k]? = some Q[k] := List.getElem?_eq_getElem hk
      have hfk := h2 k Q[k] (Nat.le_refl _) hu
      have hql := (qts_lt Q[k] (hQ.1 _ (List.mem_of_getElem? hu))).1
      have hstep := q_take_f (qkp one other) Q k hk
      refine ⟨(upd f ((Q.take k).filter (qkp one other)).length (qi (qts Q[k])), qi ((Q.take (k + 1)).filter (qkp one other)).length, qi (k + 1)), ?_, rfl, rfl, ?_, ?_⟩
      · rw [hstep]
        simp (disch := omega) only [R_joinsGreedily_b146, R_joinsGreedily_181, R_joinsGreedily_182, R_joinsGreedily_210, qi_lit, qi_m1, qi_add, qi_mul, qi_and, qi_or, qi_xor, qi_not, qi_shl, qi_shr, qi_and31, qi_nat, qi_inb, qi_eq, qi_lt, qi_le, qi_sub, dn, db_some, dk_t, if_neg (show ¬ Q.length ≤ k by omega), hfk]
        by_cases e1 : qts Q[k] = one
        · simp [e1, qkp]
        · by_cases e2 : qts Q[k] = other
          · simp [e2, qkp]
          · simp [e1, e2, qkp, show ¬ (qi 1 = qi 0) by decide]
      · rw [hstep]
        rcases q_dich (qkp one other Q[k]) with c | c
        · rw [if_neg (by rw [c]; decide), List.append_nil]
          exact qarr_f h1 (fun i hi => upd_ne _ _ (by omega))
        · rw [if_pos c]
          exact qarr_s h1 _
      · intro i u hi hu
        show upd _ _ _ i = _
        rw [upd_ne _ _ (by omega)]
        exact h2 i u (by omega) hu)
    (by
      rintro ⟨f, n, ix⟩ ⟨rfl, h1, h2, h3⟩
      rw [List.take_length] at h1 h2
      refine ⟨(f, n), by simp (disch := omega) only [R_joinsGreedily_b146, qi_lit, qi_m1, qi_add, qi_mul, qi_and, qi_or, qi_xor, qi_not, qi_shl, qi_shr, qi_and31, qi_nat, qi_inb, qi_eq, qi_lt, qi_le, qi_sub]; simp, h1, h2⟩)
    (tr, qi 0, qi 0) ⟨rfl, rfl, fun i u hu => by simp at hu, fun i u _ hu => ht i u hu⟩ N (by omega)
  obtain ⟨⟨f, n⟩, e, rfl, q⟩ := key
  exact ⟨f, e, q⟩
theorem q_two {Q : List Qt} (hQ : qfo Q) {a b : Qt} (ha : a ∈ Q) (hb : b ∈ Q) (ne : a ≠ b) : Q.Perm (a :: b :: Q.filter (qkp (qts a) (qts b))) := by
  obtain ⟨s, t, e⟩ := List.append_of_mem ha
  have p1 : Q.Perm (a :: (s ++ t)) := by rw [e]; exact List.perm_middle
  have hb' : b ∈ s ++ t := by
    rcases List.mem_cons.mp (p1.mem_iff.mp hb) with h | h
    · exact absurd h.symm ne
    · exact h
  obtain ⟨s', t', e'⟩ := List.append_of_mem hb'
  have p2 : Q.Perm (a :: b :: (s' ++ t')) := p1.trans (List.Perm.cons _ (by rw [e']; exact List.perm_middle))
  have hf := qfo_perm hQ p2
  have h1 := List.pairwise_cons.mp hf.2
  have h2 := List.pairwise_cons.mp h1.2
  have nz : ∀ u, u ∈ a :: b :: (s' ++ t') → qts u ≠ 0 := fun u hu => (qts_lt u (hf.1 u hu)).2
  have key : (a :: b :: (s' ++ t')).filter (qkp (qts a) (qts b)) = s' ++ t' := by
    rw [List.filter_cons_of_neg (by simp [qkp]), List.filter_cons_of_neg (by simp [qkp])]
    apply List.filter_eq_self.mpr
    intro u hu
    have n1 : qts u ≠ qts a := by
      intro e
      have := h1.1 u (List.mem_cons_of_mem _ hu)
      rw [← e, Nat.and_self] at this
      exact nz u (by simp at hu ⊢; exact .inr (.inr hu)) this
    have n2 : qts u ≠ qts b := by
      intro e
      have := h2.1 u hu
      rw [← e, Nat.and_self] at this
      exact nz u (by simp at hu ⊢; exact .inr (.inr hu)) this
    simp [qkp, n1, n2]
  have := p2.filter (qkp (qts a) (qts b))
  rw [key] at this
  exact p2.trans (List.Perm.cons _ (List.Perm.cons _ this.symm))
theorem R_joinsGreedily_q {g : Qg} {all p tr : Nat → Int32} {sz : Nat → Int64} (hg : qGok g) (hr : qRg g all) (hz : ∀ s, s ≠ 0 → s < 2 ^ qn g → sz s = ql (qsz g s)) (Q : List Qt) (hQ : qfo Q) (hl : 2 ≤ Q.length) (hl8 : Q.length ≤ 8)
    (hun : qun Q < 2 ^ qn g) (ha : qarr tr Q) (N : Nat) (hN : 300 < N) :
    ∃ a b rest Q', Q.Perm (a :: b :: rest) ∧ qlow (qts a) < qlow (qts b) ∧
      (∀ c d, c ∈ Q → d ∈ Q → c ≠ d → qlow (qts c) < qlow (qts d) → qky g (qts a) (qts b) ≤ qky g (qts c) (qts d)) ∧ Q'.Perm (.op a b :: rest) ∧ Q'.length + 1 = Q.length ∧
      ∃ tr', R_joinsGreedily N (qi Q.length) all p sz tr = some (qi Q'.length, upd p (qts a ||| qts b) (qi (qts a)), tr') ∧ qarr tr' Q' := by
  have hp8 := q_pow8 hg.1
  let x := fun i : Nat => ((Q.map qts)[i]?).getD 0
  have hxi : ∀ (i : Nat) (u : Qt), Q[i]? = some u → x i = qts u := by
    intro i u hu
    simp [x, hu]
  have hget : ∀ i : Nat, i < Q.length → ∃ u, Q[i]? = some u := fun i hi => ⟨Q[i], List.getElem?_eq_getElem hi⟩
  have hx : qxs x Q.length (2 ^ qn g) := fun i hi => by
      obtain ⟨u, hu⟩ := hget i hi
      rw [hxi i u hu]
      have hm := List.mem_of_getElem? hu
      exact ⟨(qts_lt u (hQ.1 u hm)).2, q_sets_lt hun u hm⟩
  have hpw : ∀ i j, i < j → j < Q.length → x i &&& x j = 0 := by
    intro i j hij hj
    obtain ⟨u, hu⟩ := hget i (by omega)
    obtain ⟨v, hv⟩ := hget j hj
    rw [hxi i u hu, hxi j v hv]
    exact q_pw_get hQ.2 i j u v hij hu hv
  have hdis : ∀ i j, i < Q.length → j < Q.length → i ≠ j → x i &&& x j = 0 := by
    intro i j hi hj hne
    by_cases h : i < j
    · exact hpw i j h hj
    · rw [Nat.and_comm]; exact hpw j i (by omega) hi
  obtain ⟨one, other, is, e, hc⟩ := R_jg_scan (p := p) hg hr hz x Q.length hl8 hx hdis (fun i hi => by
      obtain ⟨u, hu⟩ := hget i hi
      rw [hxi i u hu]
      exact ha i u hu) N hN
  rcases hc with ⟨_, _, _, h4⟩ | ⟨i0, j0, ⟨h1, h1'⟩, h2, h3, h4, h5, h6, h7⟩
  · exfalso
    have n1 := h4 0 1 ⟨by omega, by omega⟩ (by omega)
    have n2 := h4 1 0 ⟨by omega, by omega⟩ (by omega)
    have x0 := hx 0 (by omega)
    have x1 := hx 1 (by omega)
    rcases qlow_dis (x 0) (x 1) (by omega) (by omega) x0.1 x1.1 (hdis 0 1 (by omega) (by omega) (by omega)) with ⟨h, _⟩ | ⟨h, _⟩
    · exact n1 h
    · exact n2 h
  · obtain ⟨a, hua⟩ := hget i0 h1
    obtain ⟨b, hub⟩ := hget j0 h1'
    rw [hxi i0 a hua] at h4
    rw [hxi j0 b hub] at h5
    rw [hxi i0 a hua, hxi j0 b hub] at h3
    subst h4
    subst h5
    have aQ := List.mem_of_getElem? hua
    have bQ := List.mem_of_getElem? hub
    have nab : a ≠ b := by intro e; subst e; omega
    have la := qts_lt a (hQ.1 a aQ)
    have lb := qts_lt b (hQ.1 b bQ)
    have perm := q_two hQ aQ bQ nab
    obtain ⟨tr', e2, q2⟩ := R_jg_pack (all := all) (p := upd p (qts a ||| qts b) (qi (qts a))) (sz := sz) Q hl8 hQ ha (qts a) (qts b) la.1 lb.1 N hN
    have hlenf : (Q.filter (qkp (qts a) (qts b))).length + 2 = Q.length := by
      have := perm.length_eq
      simp at this
      omega
    refine ⟨a, b, Q.filter (qkp (qts a) (qts b)), Q.filter (qkp (qts a) (qts b)) ++ [Lean.Data.AC.Expr.op a b], perm, h3, ?_, ?_, by simp; omega, upd tr' (Q.filter (qkp (qts a) (qts b))).length (qi (qts a ||| qts b)), ?_, show qarr (upd tr' _ (qi (qts (Lean.Data.AC.Expr.op a b)))) _ from qarr_s q2 _⟩
    · intro c d hc hd hcd hl
      obtain ⟨i, hi⟩ := List.getElem?_of_mem hc
      obtain ⟨j, hj⟩ := List.getElem?_of_mem hd
      have hij : i ≠ j := by
        intro e
        subst e
        rw [hi] at hj
        exact hcd (Option.some.inj hj)
      have := h7 i j ⟨(List.getElem?_eq_some_iff.mp hi).1, (List.getElem?_eq_some_iff.mp hj).1⟩ hij (by rw [hxi i c hi, hxi j d hj]; exact hl)
      rw [hxi i c hi, hxi j d hj] at this
      exact this
    · exact List.perm_append_comm.trans (List.Perm.refl _)
    · have hor : qts a ||| qts b < 256 := q_or_lt (n := 8) la.1 lb.1
      unfold R_joinsGreedily R_joinsGreedily_9
      rw [show ((0 : Int32), (0 : Int32), (0 : Int32), (0 : Int32)) = (qi 0, qi 0, qi 0, qi 0) from rfl, e, db_some]
      simp (disch := omega) only [R_joinsGreedily_a9, R_joinsGreedily_131, R_joinsGreedily_146, qi_lit, qi_m1, qi_add, qi_mul, qi_and, qi_or, qi_xor, qi_not, qi_shl, qi_shr, qi_and31, qi_nat, qi_inb, qi_eq, qi_lt, qi_le, qi_sub, dn, db_some, dk_t]
      rw [e2, db_some]
      simp (disch := omega) only [R_joinsGreedily_a146, R_joinsGreedily_219, qi_lit, qi_m1, qi_add, qi_mul, qi_and, qi_or, qi_xor, qi_not, qi_shl, qi_shr, qi_and31, qi_nat, qi_inb, qi_eq, qi_lt, qi_le, qi_sub, dn, db_some, dk_t]
      simp
theorem R_partsOfGreedy_q {g : Qg} {all p tr : Nat → Int32} {sz : Nat → Int64} (hg : qGok g) (h1 : 1 ≤ qn g) (hr : qRg g all) (hz : ∀ s, s ≠ 0 → s < 2 ^ qn g → sz s = ql (qsz g s)) (tm : Int32) (N : Nat) (hN : 300 < N) :
    ∃ t, qchain g (qn g - 1) (qini (qn g)) t ∧ ∃ tm' p' tr', R_partsOfGreedy N tm all p sz tr = some (tm', p', tr') ∧ qRp t p' := by
  have hn := hg.1
  have h0 : all 0 = qi (qn g) := hr.1
  have hp0 := Nat.two_pow_pos (qn g)
  obtain ⟨p0, e0, hz0⟩ := R_noParts_q p N hN
  have key1 := qlp_rel (body := fun x : (Nat → Int32) × Int32 => R_partsOfGreedy_b16 N (qi (qn g)) all p0 sz x.1 x.2) (Inv := fun i x => x.2 = qi i ∧ ∀ j, j < i → x.1 j = qi (2 ^ j)) (qn g) (Q := fun y => ∀ j, j < qn g → y j = qi (2 ^ j))
    (by
      rintro i ⟨f, x⟩ hi ⟨rfl, h⟩
      refine ⟨(upd f i (qi (2 ^ i)), qi (i + 1)), ?_, rfl, ?_⟩
      · simp (disch := omega) only [R_partsOfGreedy_b16, qi_lit, qi_m1, qi_add, qi_mul, qi_and, qi_or, qi_xor, qi_not, qi_shl, qi_shr, qi_and31, qi_nat, qi_inb, qi_eq, qi_lt, qi_le, qi_sub, dn, db_some, dk_t, if_neg (show ¬ qn g ≤ i by omega)]
      · intro j hj
        show upd f i (qi (2 ^ i)) j = _
        by_cases e : j = i
        · subst e; exact upd_self _ _ _
        · rw [upd_ne _ _ e]; exact h j (by omega))
    (by
      rintro ⟨f, x⟩ ⟨rfl, h⟩
      exact ⟨f, by simp (disch := omega) only [R_partsOfGreedy_b16, qi_lit, qi_m1, qi_add, qi_mul, qi_and, qi_or, qi_xor, qi_not, qi_shl, qi_shr, qi_and31, qi_nat, qi_inb, qi_eq, qi_lt, qi_le, qi_sub]; simp, h⟩)
    (tr, qi 0) ⟨rfl, by intro j h; omega⟩ N (by omega)
  obtain ⟨tr0, e1, ht0⟩ := key1
  have key := qlp_dn (body := fun y : Int32 × (Nat → Int32) × (Nat → Int32) => R_partsOfGreedy_b39 N y.1 all y.2.1 sz y.2.2)
    (Inv := fun m y => ∃ Q, qfo Q ∧ Q.length = m + 1 ∧ m ≤ 7 ∧ qun Q = 2 ^ qn g - 1 ∧ qarr y.2.2 Q ∧ (∀ s, s < 256 → y.2.1 s = qi (qpfs Q s)) ∧ y.1 = qi (m + 1) ∧ ∀ t, qchain g m Q t → qchain g (qn g - 1) (qini (qn g)) t)
    (Q := fun y => ∃ t, qchain g (qn g - 1) (qini (qn g)) t ∧ qRp t y.2.1) ?_ (qn g - 1) (qi (qn g), p0, tr0) ?_ N (by omega)
  · obtain ⟨⟨tm', p', tr'⟩, e, t, q1, q2⟩ := key
    refine ⟨t, q1, tm', p', tr', ?_, q2⟩
    simp (disch := omega) only [R_partsOfGreedy, R_partsOfGreedy_16, e0, qi_lit, qi_m1, qi_add, qi_mul, qi_and, qi_or, qi_xor, qi_not, qi_shl, qi_shr, qi_and31, qi_nat, qi_inb, qi_eq, qi_lt, qi_le, qi_sub, dn, db_some, dk_t, h0]
    rw [e1, db_some]
    unfold R_partsOfGreedy_a16 R_partsOfGreedy_39
    rw [e]
    rfl
  · rintro m ⟨a1, a2, a3⟩ ⟨Q, p1, p3, p4, p5, p6, p7, p8, p10⟩
    simp only at p6 p7 p8
    subst p8
    by_cases hm : m = 0
    · right
      subst hm
      obtain ⟨t, rfl⟩ := List.length_eq_one_iff.mp p3
      refine ⟨(qi 1, a2, a3), ?_, t, p10 t (List.Perm.refl _), ?_⟩
      · simp (disch := omega) only [R_partsOfGreedy_b39, qi_lit, qi_m1, qi_add, qi_mul, qi_and, qi_or, qi_xor, qi_not, qi_shl, qi_shr, qi_and31, qi_nat, qi_inb, qi_eq, qi_lt, qi_le, qi_sub]
        simp
      · intro s hs
        rw [show (qi 1, a2, a3).2.1 = a2 from rfl, p7 s hs]
        rfl
    · left
      obtain ⟨a, b, rest, Q', perm, lo, mi, perm', hl', tr', ej, q1⟩ := R_joinsGreedily_q (p := a2) hg hr hz Q p1 (by omega) (by omega) (by omega) p6 N hN
      have hfo' := qfo_step p1 perm lo
      refine ⟨(qi Q'.length, upd a2 (qts a ||| qts b) (qi (qts a)), tr'), m - 1, ?_, ⟨Q', qfo_perm hfo' perm'.symm, by omega, by omega, ?_, q1, ?_, by simp only []; congr 1; omega, ?_⟩, by omega⟩
      · rw [p3] at ej
        simp (disch := omega) only [R_partsOfGreedy_b39, qi_lit, qi_m1, qi_add, qi_mul, qi_and, qi_or, qi_xor, qi_not, qi_shl, qi_shr, qi_and31, qi_nat, qi_inb, qi_eq, qi_lt, qi_le, qi_sub, dn, db_some, dk_t, if_neg (show ¬ m + 1 ≤ 1 by omega), ej]
      · rw [qun_perm perm', qun_step, ← qun_perm perm]; exact p5
      · intro s hs
        show upd _ _ _ s = _
        rw [qpfs_perm perm', qpfs_step hfo']
        by_cases es : s = qts a ||| qts b
        · subst es; rw [upd_self, if_pos rfl]
        · rw [upd_ne _ _ es, if_neg es, p7 s hs, qpfs_perm perm]
      · intro t ht
        apply p10
        rw [show m = (m - 1) + 1 by omega]
        exact ⟨Q', ⟨a, b, rest, perm, lo, mi, perm'⟩, ht⟩
  · refine ⟨qini (qn g), qini_fo _ hn, by rw [qini_len]; omega, by omega, qini_un _ hn, qini_arr _ _ ht0, ?_, by simp only []; congr 1; omega, fun t h => h⟩
    intro s hs
    rw [show (qi (qn g), p0, tr0).2.1 = p0 from rfl, hz0 s hs, qpfs_0]
    intro u hu
    obtain ⟨r, hr, rfl⟩ := List.mem_map.mp hu
    rfl
