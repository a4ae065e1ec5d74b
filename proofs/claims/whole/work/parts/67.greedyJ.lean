def qspl2 (sp : Nat → Int32) (P : List Qt) : Prop := ∀ u, u ∈ P → ∀ x, x ∈ qtn u → sp x.1 = qi x.2
theorem q_pw_get {α : Type} {R : α → α → Prop} : ∀ {P : List α}, P.Pairwise R → ∀ (i j : Nat) (u v : α), i < j → P[i]? = some u → P[j]? = some v → R u v := by
  intro P
  induction P with
  | nil => intro _ i j u v _ h; simp at h
  | cons w P ih =>
    intro h i j u v hij hu hv
    have hp := List.pairwise_cons.mp h
    cases j with
    | zero => omega
    | succ j =>
      rw [List.getElem?_cons_succ] at hv
      cases i with
      | zero =>
        simp at hu
        subst hu
        exact hp.1 v (List.mem_of_getElem? hv)
      | succ i =>
        rw [List.getElem?_cons_succ] at hu
        exact ih hp.2 i j u v (by omega) hu hv
theorem q_sets_lt {P : List Qt} {n : Nat} (h : qun P < 2 ^ n) : ∀ u, u ∈ P → qts u < 2 ^ n := by
  induction P with
  | nil => intro u hu; cases hu
  | cons w P ih =>
    intro u hu
    have e : qun (w :: P) = qts w ||| qun P := rfl
    rw [e] at h
    have h1 := @Nat.left_le_or (qts w) (qun P)
    have h2 := @Nat.right_le_or (qts w) (qun P)
    rcases List.mem_cons.mp hu with rfl | hu
    · omega
    · exact ih (by omega) u hu
/-- one joining of the class, as its parts lie -/
theorem A_step_q {g : Qg} {li ri cp pa sp : Nat → Int32} {sz : Nat → Int64} (hg : qGok g) (hS : qSets g li ri) (hz : qSz g cp sz (2 ^ qn g)) (P : List Qt) (hP : qfo P) (hs : qsrt P) (hl : 2 ≤ P.length) (hl8 : P.length ≤ 8)
    (hun : qun P < 2 ^ qn g) (ha : qarr pa P) (hsp : qspl2 sp P) (pf ps : Int32) (N : Nat) (hN : 300 < N) :
    ∃ f s a b rest P', f < 8 ∧ s < 8 ∧ A_pick N (qi P.length) pf ps li ri sz pa = some (qi f, qi s) ∧ pa f = qi (qts a) ∧ pa s = qi (qts b) ∧ P.Perm (a :: b :: rest) ∧ qlow (qts a) < qlow (qts b) ∧
      (∀ c d, c ∈ P → d ∈ P → c ≠ d → qlow (qts c) < qlow (qts d) → qky g (qts a) (qts b) ≤ qky g (qts c) (qts d)) ∧ P'.Perm (.op a b :: rest) ∧
      ∃ pa' sp', A_mergePicked (qi P.length) (qi f) (qi s) pa sp = some (qi P'.length, pa', sp') ∧ qarr pa' P' ∧ qspl2 sp' P' ∧ qsrt P' ∧ P'.length + 1 = P.length := by
  have hp8 := q_pow8 hg.1
  let x := fun i : Nat => ((P.map qts)[i]?).getD 0
  have hxi : ∀ (i : Nat) (u : Qt), P[i]? = some u → x i = qts u := by
    intro i u hu
    simp [x, hu]
  have hget : ∀ i : Nat, i < P.length → ∃ u, P[i]? = some u := fun i hi => ⟨P[i], List.getElem?_eq_getElem hi⟩
  obtain ⟨f, s, hfs, hsm, ep, hmin⟩ := A_pick_q (pa := pa) hg hS hz x P.length hl hl8
    (fun i hi => by
      obtain ⟨u, hu⟩ := hget i hi
      rw [hxi i u hu]
      have hm := List.mem_of_getElem? hu
      exact ⟨(qts_lt u (hP.1 u hm)).2, q_sets_lt hun u hm⟩)
    (fun i hi => by
      obtain ⟨u, hu⟩ := hget i hi
      rw [hxi i u hu]
      exact ha i u hu) pf ps N hN
  obtain ⟨l1, a, l2, b, l3, e, hl1, hl2⟩ := q_cut P f s hfs hsm
  have hfa : P[f]? = some a := by rw [e, ← hl1]; simp
  have hsb : P[s]? = some b := by
    rw [e, List.getElem?_append_right (by omega), show s - l1.length = l2.length + 1 by omega]
    simp
  have hlow : qlow (qts a) < qlow (qts b) := q_pw_get hs f s a b hfs hfa hsb
  have perm : P.Perm (a :: b :: (l1 ++ (l2 ++ l3))) := by
    rw [e]
    refine (List.perm_middle).trans (List.Perm.cons _ ?_)
    rw [← List.append_assoc]
    refine (List.perm_middle).trans (List.Perm.cons _ ?_)
    rw [List.append_assoc]
  have aP := List.mem_of_getElem? hfa
  have bP := List.mem_of_getElem? hsb
  have hor : qts a ||| qts b < 256 := q_or_lt (n := 8) (qts_lt a (hP.1 a aP)).1 (qts_lt b (hP.1 b bP)).1
  have hfo' := qfo_step hP perm hlow
  obtain ⟨pa', em, hq⟩ := A_mergePicked_q (l1 := l1) (l2 := l2) (l3 := l3) (a := a) (b := b) pa sp (by rw [← e]; exact ha) (by rw [← e]; exact hl8) hor
  rw [← e, hl1, hl2] at em
  have hop := hfo'.1 _ (List.mem_cons_self ..)
  have ho := qtok_op hop
  have hlop : qlow (qts a ||| qts b) = qlow (qts a) := by
    have la := qts_lt a hop.1
    have lb := qts_lt b hop.2.1
    rcases qlow_dis _ _ la.1 lb.1 la.2 lb.2 hop.2.2.1 with ⟨_, e⟩ | ⟨e, _⟩
    · exact e
    · omega
  refine ⟨f, s, a, b, l1 ++ (l2 ++ l3), l1 ++ .op a b :: (l2 ++ l3), by omega, by omega, ep, ha f a hfa, ha s b hsb, perm, hlow, ?_, List.perm_middle, pa', upd sp (qts a ||| qts b) (qi (qts a)), ?_, hq, ?_, ?_, ?_⟩
  · intro c d hc hd hcd hlcd
    obtain ⟨i, hi⟩ := List.getElem?_of_mem hc
    obtain ⟨j, hj⟩ := List.getElem?_of_mem hd
    have hij : i < j := by
      by_cases h1 : j < i
      · have := q_pw_get hs j i d c h1 hj hi
        omega
      · by_cases h2 : i = j
        · subst h2
          rw [hi] at hj
          exact absurd (Option.some.inj hj) hcd
        · omega
    have := hmin i j hij (List.getElem?_eq_some_iff.mp hj).1
    rw [hxi f a hfa, hxi s b hsb, hxi i c hi, hxi j d hj] at this
    exact this
  · rw [em, e]; simp; rfl
  · intro u hu y hy
    have hu' : u = .op a b ∨ u ∈ l1 ++ (l2 ++ l3) := by simpa [or_assoc, or_left_comm] using hu
    rcases hu' with rfl | hu'
    · rcases List.mem_cons.mp hy with rfl | hy
      · exact upd_self _ _ _
      · rcases List.mem_append.mp hy with hy | hy
        · have hs := qtn_sub a hop.1 y hy
          have := q_sub_le hs.1
          rw [upd_ne _ _ (by omega)]
          exact hsp a aP y hy
        · have hs := qtn_sub b hop.2.1 y hy
          have := q_sub_le hs.1
          rw [upd_ne _ _ (by omega)]
          exact hsp b bP y hy
    · have huP : u ∈ P := perm.mem_iff.mpr (List.mem_cons_of_mem _ (List.mem_cons_of_mem _ hu'))
      have hut := hP.1 u huP
      have hs := qtn_sub u hut y hy
      have hd : (qts a ||| qts b) &&& qts u = 0 := (List.pairwise_cons.mp hfo'.2).1 u hu'
      have hne : y.1 ≠ qts a ||| qts b := by
        intro e
        have := hs.1
        rw [e] at this
        exact hs.2.1 (by rw [e]; exact this.symm.trans hd)
      rw [upd_ne _ _ hne]
      exact hsp u huP y hy
  · have h1 : (l1 ++ a :: (l2 ++ b :: l3)).Pairwise (fun u v => qlow (qts u) < qlow (qts v)) := by rw [← e]; exact hs
    unfold qsrt
    rw [List.pairwise_append] at h1 ⊢
    obtain ⟨p1, p2, p3⟩ := h1
    have p2' := List.pairwise_cons.mp p2
    have p2'' := List.pairwise_append.mp p2'.2
    refine ⟨p1, List.pairwise_cons.mpr ⟨?_, List.pairwise_append.mpr ⟨p2''.1, (List.pairwise_cons.mp p2''.2.1).2, ?_⟩⟩, ?_⟩
    · intro v hv
      show qlow (qts a ||| qts b) < _
      rw [hlop]
      apply p2'.1 v
      rcases List.mem_append.mp hv with h | h
      · exact List.mem_append_left _ h
      · exact List.mem_append_right _ (List.mem_cons_of_mem _ h)
    · intro u hu v hv
      exact p2''.2.2 u hu v (List.mem_cons_of_mem _ hv)
    · intro u hu v hv
      rcases List.mem_cons.mp hv with rfl | hv
      · show _ < qlow (qts a ||| qts b)
        rw [hlop]
        exact p3 u hu a (by simp)
      · apply p3 u hu v
        rcases List.mem_append.mp hv with h | h
        · exact List.mem_cons_of_mem _ (List.mem_append_left _ h)
        · exact List.mem_cons_of_mem _ (List.mem_append_right _ (List.mem_cons_of_mem _ h))
  · rw [e]; simp; omega
theorem qini_arr (n : Nat) (pa : Nat → Int32) (h : ∀ i, i < n → pa i = qi (2 ^ i)) : qarr pa (qini n) := by
  intro i u hu
  have hi := (List.getElem?_eq_some_iff.mp hu).1
  simp [qini] at hi
  simp [qini, hi] at hu
  subst hu
  exact h i hi
theorem qini_srt (n : Nat) (h : n ≤ 8) : qsrt (qini n) := by
  unfold qsrt qini
  rw [List.pairwise_map]
  refine (List.pairwise_lt_range (n := n)).imp_of_mem (fun {a b} ha hb hab => ?_)
  have ha' := List.mem_range.mp ha
  have hb' := List.mem_range.mp hb
  have : ∀ a, a < 8 → ∀ b, b < 8 → a < b → qlow (2 ^ a) < qlow (2 ^ b) := by decide
  exact this a (by omega) b (by omega) hab
theorem qini_len (n : Nat) : (qini n).length = n := by simp [qini]
theorem A_mergeAll_q {g : Qg} {li ri cp pa sp : Nat → Int32} {sz : Nat → Int64} (hg : qGok g) (h1 : 1 ≤ qn g) (hS : qSets g li ri) (hz : qSz g cp sz (2 ^ qn g)) (mn pf ps : Int32) (N : Nat) (hN : 300 < N) :
    ∃ t, qtok t ∧ qts t = 2 ^ qn g - 1 ∧ qchain g (qn g - 1) (qini (qn g)) t ∧ ∃ m' pf' ps' pa' sp', A_mergeAll N (qi (qn g)) mn pf ps li ri sz pa sp = some (m', pf', ps', pa', sp') ∧ ∀ x, x ∈ qtn t → sp' x.1 = qi x.2 := by
  have hn := hg.1
  have hp0 := Nat.two_pow_pos (qn g)
  obtain ⟨pa0, e0, hpa0⟩ := A_begin_q (qn g) hn mn pa N hN
  have key := qlp_dn (body := fun y : Int32 × Int32 × Int32 × (Nat → Int32) × (Nat → Int32) × Int32 => A_mergeAll_b10 N (qi (qn g)) y.1 y.2.1 y.2.2.1 li ri sz y.2.2.2.1 y.2.2.2.2.1 y.2.2.2.2.2)
    (Inv := fun m y => ∃ P, qfo P ∧ qsrt P ∧ P.length = m + 1 ∧ m ≤ 7 ∧ qun P = 2 ^ qn g - 1 ∧ qarr y.2.2.2.1 P ∧ qspl2 y.2.2.2.2.1 P ∧ y.1 = qi P.length ∧ y.2.2.2.2.2 = qi (m + 1) ∧ ∀ t, qchain g m P t → qchain g (qn g - 1) (qini (qn g)) t)
    (Q := fun y => ∃ t, qtok t ∧ qts t = 2 ^ qn g - 1 ∧ qchain g (qn g - 1) (qini (qn g)) t ∧ ∀ x, x ∈ qtn t → y.2.2.2.2 x.1 = qi x.2) ?_ (qn g - 1) (qi (qn g), pf, ps, pa0, sp, qi (qn g)) ?_ N (by omega)
  · obtain ⟨⟨m', pf', ps', pa', sp'⟩, e, t, q1, q2, q3, q4⟩ := key
    refine ⟨t, q1, q2, q3, m', pf', ps', pa', sp', ?_, q4⟩
    unfold A_mergeAll A_mergeAll_10
    rw [e0, db_some, e]
    rfl
  · rintro m ⟨a1, a2, a3, a4, a5, a6⟩ ⟨P, p1, p2, p3, p4, p5, p6, p7, p8, p9, p10⟩
    simp only at p6 p7 p8 p9
    subst p8
    subst p9
    by_cases hm : m = 0
    · right
      subst hm
      obtain ⟨t, rfl⟩ := List.length_eq_one_iff.mp p3
      have hlen : ([t] : List Qt).length = 1 := rfl
      refine ⟨(qi 1, a2, a3, a4, a5), ?_, t, p1.1 t (by simp), ?_, p10 t (List.Perm.refl _), p7 t (by simp)⟩
      · simp (disch := omega) only [A_mergeAll_b10, qi_lit, qi_m1, qi_add, qi_mul, qi_and, qi_or, qi_xor, qi_not, qi_shl, qi_shr, qi_and31, qi_nat, qi_inb, qi_eq, qi_lt, qi_le, qi_sub, hlen]
        simp
      · have e : qun [t] = qts t ||| 0 := rfl
        rw [e, Nat.or_zero] at p5
        exact p5
    · left
      obtain ⟨f, s, a, b, rest, P', hf, hs, ep, ef, es, perm, lo, mi, perm', pa', sp', em, q1, q2, q3, q4⟩ := A_step_q (pa := a4) (sp := a5) hg hS hz P p1 p2 (by omega) (by omega) (by omega) p6 p7 a2 a3 N hN
      refine ⟨(qi P'.length, qi f, qi s, pa', sp', qi m), m - 1, ?_, ⟨P', qst_fo p1 ⟨a, b, rest, perm, lo, mi, perm'⟩, q3, by omega, by omega, ?_, q1, q2, rfl, by simp only []; congr 1; omega, ?_⟩, by omega⟩
      · have hd := qi_dec (m + 1) (by omega)
        simp (disch := omega) only [A_mergeAll_b10, qi_lit, qi_m1, qi_add, qi_mul, qi_and, qi_or, qi_xor, qi_not, qi_shl, qi_shr, qi_and31, qi_nat, qi_inb, qi_eq, qi_lt, qi_le, qi_sub, dn, db_some, dk_t, if_neg (show ¬ m + 1 ≤ 1 by omega), ep, em, hd, Nat.add_sub_cancel]
      · rw [qun_perm perm', qun_step, ← qun_perm perm]; exact p5
      · intro t ht
        apply p10
        rw [show m = (m - 1) + 1 by omega]
        exact ⟨P', ⟨a, b, rest, perm, lo, mi, perm'⟩, ht⟩
  · refine ⟨qini (qn g), qini_fo _ hn, qini_srt _ hn, by rw [qini_len]; omega, by omega, qini_un _ hn, qini_arr _ _ hpa0, ?_, by rw [qini_len], by simp only []; congr 1; omega, fun t h => h⟩
    intro u hu y hy
    obtain ⟨r, hr, rfl⟩ := List.mem_map.mp hu
    cases hy
