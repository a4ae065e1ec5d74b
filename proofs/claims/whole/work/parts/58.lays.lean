theorem R_sum_q (a b : Nat) (ha : a ≤ 2000000000000000) (hb : b ≤ 2000000000000000) : R_sum (ql a) (ql b) = ql (qmin (a + b)) := by
  simp (disch := omega) only [R_sum, ql_lit, ql_add, ql_mul, ql_div, ql_eq, ql_lt, ql_le, ql_of]
  unfold qmin qcap
  split <;> rfl
theorem qmin_le (a : Nat) : qmin a ≤ qcap := by unfold qmin; split <;> omega
theorem qmin_min (a b : Nat) : qmin (qmin a + b) = qmin (a + b) := by
  unfold qmin
  by_cases h : qcap < a
  · rw [if_pos h]
    by_cases h2 : qcap < qcap + b
    · rw [if_pos h2, if_pos (by omega)]
    · rw [if_neg h2, if_pos (by omega)]; omega
  · rw [if_neg h]
theorem R_everything_q {g : Qg} {all : Nat → Int32} (hg : qGok g) (h0 : all 0 = qi (qn g)) : R_everything all = qi (2 ^ qn g - 1) := by
  have h1 := hg.1
  have h2 := Nat.two_pow_pos (qn g)
  have h3 := q_pow8 h1
  simp (disch := omega) only [R_everything, qi_lit, qi_m1, qi_add, qi_mul, qi_and, qi_or, qi_xor, qi_not, qi_shl, qi_shr, qi_and31, qi_nat, qi_inb, qi_eq, qi_lt, qi_le, qi_sub, h0]
def qlc (s p : Nat) : Bool := qsub p s && qsub (qlow s) p
theorem R_laysBest_q {g : Qg} {all : Nat → Int32} {sz : Nat → Int64} (hg : qGok g) (hr : qRg g all) (lin : Bool) (s : Nat) (h0 : s ≠ 0) (hs : s < 256) (hsz : sz s = ql (qsz g s))
    (c : Nat → Int64) (x p : Nat → Int32) (h : qBt (qbest g lin) (256 * lin.toNat) c x p s) (N : Nat) (hN : 300 < N) :
    R_laysBest N all c x p sz (qi s) (qi (256 * lin.toNat)) = some (vp_updL c (256 * lin.toNat + s) (ql (qbest g lin s).1), upd x (256 * lin.toNat + s) (qi (qbest g lin s).2.1), upd p (256 * lin.toNat + s) (qi (qbest g lin s).2.2)) := by
  have hq : qcap = 1000000000000000 := rfl
  have hoff : 256 * lin.toNat ≤ 256 := by cases lin <;> decide
  have hlin : (256 * lin.toNat ≤ 0) ↔ lin = false := by cases lin <;> simp
  generalize hF : 256 * lin.toNat = F at *
  have hT : ∀ x, x ≠ 0 → x < s → qbb x (qbest g lin x) := fun x _ hx => qbest_b g lin x (by omega)
  let st := fun a p => if qlc s p then qbst g lin (qbest g lin) s a p else a
  let A := fun i => (List.range i).foldl st (0, 0, 0)
  have hA1 : A 1 = (0, 0, 0) := by
    show st (0, 0, 0) 0 = _
    have : qlc s 0 = false := by simp [qlc, q_low0 s hs h0]
    simp [st, this]
  have hAs : ∀ i, A (i + 1) = st (A i) i := fun i => q_frange _ _ _
  have hAn : A s = qbest g lin s := by
    rw [qbest_eq g lin s hs]
    unfold qparts
    rw [q_foldfilter]
    rfl
  have hA : ∀ i, i ≤ s → qbb s (A i) := by
    intro i hi
    refine q_foldl_inv (qbb s) _ _ _ ⟨by decide, .inl rfl, .inl rfl⟩ ?_
    intro y f hf hy
    have hf' := List.mem_range.mp hf
    by_cases h1 : qlc s f = true
    · have hm : f ∈ qparts s := List.mem_filter.mpr ⟨List.mem_range.mpr (by omega), h1⟩
      simp only [st, h1, if_true]
      unfold qbst
      split
      · exact qwgh_b g _ s hs hT y _ hm hy
      · exact hy
    · simp only [st, h1]
      simpa using hy
  have hl := qlow_lt s hs
  have pre : R_laysBest N all c x p sz (qi s) (qi F) = R_laysBest_28 N all (vp_updL c (F + s) (ql 0)) (upd x (F + s) (qi 0)) (upd p (F + s) (qi 0)) sz (qi s) (qi F) (qi (F + s)) (qi 1) := by
    simp (disch := omega) only [R_laysBest, qi_lit, qi_m1, qi_add, qi_mul, qi_and, qi_or, qi_xor, qi_not, qi_shl, qi_shr, qi_and31, qi_nat, qi_inb, qi_eq, qi_lt, qi_le, qi_sub, dn, db_some, dk_t, ql_lit]
  rw [pre]
  rcases q_dich (qone s) with hone | hone
  · have key := qlp_for (body := fun y : (Nat → Int64) × (Nat → Int32) × (Nat → Int32) × Int32 => R_laysBest_b28 N all y.1 y.2.1 y.2.2.1 sz (qi s) (qi F) (qi (F + s)) y.2.2.2)
      (fun i => (vp_updL c (F + s) (ql (A (i + 1)).1), upd x (F + s) (qi (A (i + 1)).2.1), upd p (F + s) (qi (A (i + 1)).2.2), qi (i + 1))) (s - 1)
      (vp_updL c (F + s) (ql (qbest g lin s).1), upd x (F + s) (qi (qbest g lin s).2.1), upd p (F + s) (qi (qbest g lin s).2.2)) ?_ ?_ N (by omega)
    · simp only [Nat.zero_add, hA1] at key
      unfold R_laysBest_28
      rw [key]
      rfl
    · intro i hi
      have hAi := hA (i + 1) (by omega)
      have hAi1 := hAi.1
      have hAi2 := hAi.2.1
      rw [hAs (i + 1)]
      simp (disch := omega) only [R_laysBest_b28, qi_lit, qi_m1, qi_add, qi_mul, qi_and, qi_or, qi_xor, qi_not, qi_shl, qi_shr, qi_and31, qi_nat, qi_inb, qi_eq, qi_lt, qi_le, qi_sub, dn, db_some, dk_t, if_neg (show ¬ s ≤ i + 1 by omega), R_isOne_q, R_isIn_q, R_least_q, qb_0, hone, if_true, hlin]
      rcases q_dich (qlc s (i + 1)) with k | k
      · have : qsub (i + 1) s = false ∨ qsub (qlow s) (i + 1) = false := by
          unfold qlc at k
          rcases q_dich (qsub (i + 1) s) with k1 | k1
          · exact .inl k1
          · right; simpa [k1] using k
        simp only [st, k]
        rcases this with k1 | k1
        · simp [k1]
        · rcases q_dich (qsub (i + 1) s) with k2 | k2 <;> simp [k1, k2]
      · have hm : i + 1 ∈ qparts s := List.mem_filter.mpr ⟨List.mem_range.mpr (by omega), k⟩
        have k1 : qsub (i + 1) s = true ∧ qsub (qlow s) (i + 1) = true := by simpa [qlc] using k
        have ⟨a1, a2, a3, a4, a5, a6, a7⟩ := qparts_all hs hm
        have e := q_and_xor a3
        have hplt : (A (i + 1)).2.2 < 256 := by
          rcases hAi.2.2 with e | e
          · omega
          · exact (qparts_all hs e).2.2.2.2.2.1
        have hf1 := h (i + 1) a2 a1
        have hf2 := h (s ^^^ (i + 1)) a5 a4
        have t1 := hT (i + 1) a2 a1
        have t2 := hT (s ^^^ (i + 1)) a5 a4
        have t11 := t1.1
        have t12 := t1.2.1
        have t21 := t2.1
        have t22 := t2.2.1
        have hszb' : qsz g s ≤ qcap := (qz_b hg s (qn g) (Nat.le_refl _)).2
        have hmn := qmin_le ((qbest g lin (i + 1)).1 + (qbest g lin (s ^^^ (i + 1))).1)
        simp only [e, k1.1, k1.2, if_neg (show ¬ (true = false) by decide), R_isOne_q _ a7, qb_0]
        have core : R_laysBest_89 N all (vp_updL c (F + s) (ql (A (i + 1)).1)) (upd x (F + s) (qi (A (i + 1)).2.1)) (upd p (F + s) (qi (A (i + 1)).2.2)) sz (qi s) (qi F) (qi (F + s)) (qi (i + 1)) =
            some (.inl (vp_updL c (F + s) (ql (qwgh g (qbest g lin) s (A (i + 1)) (i + 1)).1), upd x (F + s) (qi (qwgh g (qbest g lin) s (A (i + 1)) (i + 1)).2.1), upd p (F + s) (qi (qwgh g (qbest g lin) s (A (i + 1)) (i + 1)).2.2), qi (i + 1 + 1))) := by
          have hmn2 := qmin_le (((qbest g lin (i + 1)).1 + (qbest g lin (s ^^^ (i + 1))).1) + qsz g s)
          simp (disch := omega) only [R_laysBest_89, R_laysBest_132, R_laysBest_210, qi_lit, qi_m1, qi_add, qi_mul, qi_and, qi_or, qi_xor, qi_not, qi_shl, qi_shr, qi_and31, qi_nat, qi_inb, qi_eq, qi_lt, qi_le, qi_sub, dn, db_some, dk_t, e, R_isJoined_q hg hr _ _ N (by omega), qb_0, updL_ne, upd_ne, upd_self, updL_self, hf1.1, hf1.2.1, hf2.1, hf2.2.1, hsz, R_sum_q, qmin_min, updL_updL, upd_upd, ql_lt]
          unfold qwgh
          generalize qmin (((qbest g lin (i + 1)).1 + (qbest g lin (s ^^^ (i + 1))).1) + qsz g s) = co at *
          have fin : ∀ j : Nat, j ≤ 1 → (if (A (i + 1)).2.2 = 0 then
                some (Sum.inl (β := (Nat → Int64) × (Nat → Int32) × (Nat → Int32)) (vp_updL c (F + s) (ql co), upd x (F + s) (qi ((qbest g lin (i + 1)).2.1 + (qbest g lin (s ^^^ (i + 1))).2.1 + j)), upd p (F + s) (qi (i + 1)), qi (i + 1 + 1)))
              else if (qbest g lin (i + 1)).2.1 + (qbest g lin (s ^^^ (i + 1))).2.1 + j < (A (i + 1)).2.1 then
                some (Sum.inl (vp_updL c (F + s) (ql co), upd x (F + s) (qi ((qbest g lin (i + 1)).2.1 + (qbest g lin (s ^^^ (i + 1))).2.1 + j)), upd p (F + s) (qi (i + 1)), qi (i + 1 + 1)))
              else if (qbest g lin (i + 1)).2.1 + (qbest g lin (s ^^^ (i + 1))).2.1 + j = (A (i + 1)).2.1 then
                if co < (A (i + 1)).1 then
                  some (Sum.inl (vp_updL c (F + s) (ql co), upd x (F + s) (qi ((qbest g lin (i + 1)).2.1 + (qbest g lin (s ^^^ (i + 1))).2.1 + j)), upd p (F + s) (qi (i + 1)), qi (i + 1 + 1)))
                else some (Sum.inl (vp_updL c (F + s) (ql (A (i + 1)).1), upd x (F + s) (qi (A (i + 1)).2.1), upd p (F + s) (qi (A (i + 1)).2.2), qi (i + 1 + 1)))
              else some (Sum.inl (vp_updL c (F + s) (ql (A (i + 1)).1), upd x (F + s) (qi (A (i + 1)).2.1), upd p (F + s) (qi (A (i + 1)).2.2), qi (i + 1 + 1)))) =
              (let cr := (qbest g lin (i + 1)).2.1 + (qbest g lin (s ^^^ (i + 1))).2.1 + j
               let w := if (A (i + 1)).2.2 = 0 ∨ cr < (A (i + 1)).2.1 ∨ (cr = (A (i + 1)).2.1 ∧ co < (A (i + 1)).1) then (co, cr, i + 1) else (A (i + 1))
               some (Sum.inl (vp_updL c (F + s) (ql w.1), upd x (F + s) (qi w.2.1), upd p (F + s) (qi w.2.2), qi (i + 1 + 1)))) := by
            intro j hj
            generalize A (i + 1) = a
            generalize (qbest g lin (i + 1)).2.1 + (qbest g lin (s ^^^ (i + 1))).2.1 + j = cr
            by_cases h1 : a.2.2 = 0
            · simp [h1]
            · by_cases h2 : cr < a.2.1
              · simp [h1, h2]
              · by_cases h3 : cr = a.2.1
                · by_cases h4 : co < a.1 <;> simp [h1, h2, h3, h4]
                · simp [h1, h2, h3]
          rcases q_dich (qjn g (i + 1) (s ^^^ (i + 1))) with k | k
          · simp only [k, if_true]
            exact fin 1 (by omega)
          · simp only [k, if_neg (show ¬ (true = false) by decide)]
            exact fin 0 (by omega)
        rw [core]
        simp only [st, k, if_true]
        unfold qbst qbc
        cases lin with
        | false => simp
        | true => rcases q_dich (qone (i + 1)) with k3 | k3 <;> rcases q_dich (qone (s ^^^ (i + 1))) with k4 | k4 <;> simp [k3, k4]
    · simp (disch := omega) only [R_laysBest_b28, qi_lit, qi_m1, qi_add, qi_mul, qi_and, qi_or, qi_xor, qi_not, qi_shl, qi_shr, qi_and31, qi_nat, qi_inb, qi_eq, qi_lt, qi_le, qi_sub, if_pos (show s ≤ s - 1 + 1 by omega)]
      rw [show s - 1 + 1 = s by omega, hAn]
  · have hb : qbest g lin s = (0, 0, 0) := by
      rw [qbest_eq g lin s hs, qparts_one s hs hone]; rfl
    rw [hb]
    have key := qlp_for (body := fun y : (Nat → Int64) × (Nat → Int32) × (Nat → Int32) × Int32 => R_laysBest_b28 N all y.1 y.2.1 y.2.2.1 sz (qi s) (qi F) (qi (F + s)) y.2.2.2)
      (fun i => (vp_updL c (F + s) (ql 0), upd x (F + s) (qi 0), upd p (F + s) (qi 0), qi 1)) 0
      (vp_updL c (F + s) (ql 0), upd x (F + s) (qi 0), upd p (F + s) (qi 0)) (by intro i hi; omega) ?_ N (by omega)
    · unfold R_laysBest_28
      rw [key]
      rfl
    · simp (disch := omega) only [R_laysBest_b28, qi_lit, qi_m1, qi_add, qi_mul, qi_and, qi_or, qi_xor, qi_not, qi_shl, qi_shr, qi_and31, qi_nat, qi_inb, qi_eq, qi_lt, qi_le, qi_sub, R_isOne_q, qb_0, hone]
      simp
def qRt (g : Qg) (bc : Nat → Int64) (bx bp cp con : Nat → Int32) (sz : Nat → Int64) (K : Nat) : Prop := qBt (qbest g false) 0 bc bx bp K ∧ qBt (qbest g true) 256 bc bx bp K ∧ ∀ s, s ≠ 0 → s < K → cp s = qi (qcp g s).toNat ∧ con s = qi (qcon g s).toNat ∧ sz s = ql (qsz g s)
theorem R_lays_q {g : Qg} {all : Nat → Int32} (hg : qGok g) (hr : qRg g all) (bc : Nat → Int64) (bx bp cp con : Nat → Int32) (sz : Nat → Int64) (N : Nat) (hN : 300 < N) :
    ∃ bc' bx' bp' cp' con' sz', R_lays N all bc bx bp cp con sz = some (bc', bx', bp', cp', con', sz') ∧ qRt g bc' bx' bp' cp' con' sz' (2 ^ qn g) := by
  have hp8 := q_pow8 hg.1
  have hp0 := Nat.two_pow_pos (qn g)
  have hev := R_everything_q hg hr.1
  have key := qlp_rel (body := fun y : (Nat → Int64) × (Nat → Int32) × (Nat → Int32) × (Nat → Int32) × (Nat → Int32) × (Nat → Int64) × Int32 => R_lays_b2 N all y.1 y.2.1 y.2.2.1 y.2.2.2.1 y.2.2.2.2.1 y.2.2.2.2.2.1 y.2.2.2.2.2.2)
    (Inv := fun i y => y.2.2.2.2.2.2 = qi (i + 1) ∧ qRt g y.1 y.2.1 y.2.2.1 y.2.2.2.1 y.2.2.2.2.1 y.2.2.2.2.2.1 (i + 1)) (2 ^ qn g - 1)
    (Q := fun y => qRt g y.1 y.2.1 y.2.2.1 y.2.2.2.1 y.2.2.2.2.1 y.2.2.2.2.2 (2 ^ qn g))
    (by
      rintro i ⟨bc, bx, bp, cp, con, sz, ix⟩ hi ⟨rfl, h1, h2, h3⟩
      simp only at h1 h2 h3
      have es := R_laysSize_q hg hr cp sz (i + 1) (by omega) N hN
      have ep := R_pairsOf_q (con := con) hg hr (i + 1) (by omega) (by omega) (fun x x0 hx => (h3 x x0 hx).2.1) N hN
      have hszs : vp_updL sz (i + 1) (ql (qz g (qn g) (i + 1)).1) (i + 1) = ql (qsz g (i + 1)) := updL_self _ _ _
      have eb1 := R_laysBest_q hg hr false (i + 1) (by omega) (by omega) hszs bc bx bp h1 N hN
      simp only [Bool.toNat_false, Nat.mul_zero, Nat.zero_add] at eb1
      have h2' : qBt (qbest g true) 256 (vp_updL bc (i + 1) (ql (qbest g false (i + 1)).1)) (upd bx (i + 1) (qi (qbest g false (i + 1)).2.1)) (upd bp (i + 1) (qi (qbest g false (i + 1)).2.2)) (i + 1) := by
        intro s s0 hs
        rw [updL_ne _ _ (by omega), upd_ne _ _ (by omega), upd_ne _ _ (by omega)]
        exact h2 s s0 hs
      have eb2 := R_laysBest_q hg hr true (i + 1) (by omega) (by omega) hszs _ _ _ h2' N hN
      simp only [Bool.toNat_true, Nat.mul_one] at eb2
      have h1' := qBt_s h1
      simp only [Nat.zero_add] at h1'
      have hpl := qpc_lt g (i + 1) (by omega)
      have fin : ∀ b : Bool, R_lays_40 N all bc bx bp (upd cp (i + 1) (qi (qcp g (i + 1)).toNat)) con (vp_updL sz (i + 1) (ql (qz g (qn g) (i + 1)).1)) (qi (i + 1)) (qi (i + 1)) (qi b.toNat) =
          some (.inl (vp_updL (vp_updL bc (i + 1) (ql (qbest g false (i + 1)).1)) (256 + (i + 1)) (ql (qbest g true (i + 1)).1), upd (upd bx (i + 1) (qi (qbest g false (i + 1)).2.1)) (256 + (i + 1)) (qi (qbest g true (i + 1)).2.1),
            upd (upd bp (i + 1) (qi (qbest g false (i + 1)).2.2)) (256 + (i + 1)) (qi (qbest g true (i + 1)).2.2), upd cp (i + 1) (qi (qcp g (i + 1)).toNat), upd con (i + 1) (qi b.toNat), vp_updL sz (i + 1) (ql (qz g (qn g) (i + 1)).1), qi (i + 1 + 1))) := by
        intro b
        simp (disch := omega) only [R_lays_40, qi_lit, qi_m1, qi_add, qi_mul, qi_and, qi_or, qi_xor, qi_not, qi_shl, qi_shr, qi_and31, qi_nat, qi_inb, qi_eq, qi_lt, qi_le, qi_sub, dn, db_some, dk_t, vp_nar_bool, eb1, eb2]
      refine ⟨(vp_updL (vp_updL bc (i + 1) (ql (qbest g false (i + 1)).1)) (256 + (i + 1)) (ql (qbest g true (i + 1)).1), upd (upd bx (i + 1) (qi (qbest g false (i + 1)).2.1)) (256 + (i + 1)) (qi (qbest g true (i + 1)).2.1),
            upd (upd bp (i + 1) (qi (qbest g false (i + 1)).2.2)) (256 + (i + 1)) (qi (qbest g true (i + 1)).2.2), upd cp (i + 1) (qi (qcp g (i + 1)).toNat), upd con (i + 1) (qi (qcon g (i + 1)).toNat), vp_updL sz (i + 1) (ql (qz g (qn g) (i + 1)).1), qi (i + 1 + 1)), ?_, rfl, ?_, ?_, ?_⟩
      · have f1 := fin true
        have f0 := fin false
        simp only [show qi true.toNat = qi 1 from rfl, show qi false.toNat = qi 0 from rfl] at f1 f0
        simp (disch := omega) only [R_lays_b2, R_lays_35, hev, qi_lit, qi_m1, qi_add, qi_mul, qi_and, qi_or, qi_xor, qi_not, qi_shl, qi_shr, qi_and31, qi_nat, qi_inb, qi_eq, qi_lt, qi_le, qi_sub, dn, db_some, dk_t, if_neg (show ¬ 2 ^ qn g - 1 < i + 1 by omega), es, ep, R_isOne_q, qb_0]
        unfold qcp at f1 f0
        rw [f1, f0]
        unfold qcon qcn
        rcases q_dich (qone (i + 1)) with k | k
        · by_cases hpp : qpc g (i + 1) ≤ 0
          · have : ¬ 0 < qpc g (i + 1) := by omega
            simp [k, hpp, this, qcp]
          · have : 0 < qpc g (i + 1) := by omega
            simp [k, this, qcp]
            intro h; omega
        · simp [k, qcp]
      · intro s s0 hs
        show vp_updL _ _ _ _ = _ ∧ upd _ _ _ _ = _ ∧ upd _ _ _ _ = _
        rw [updL_ne (k := 256 + (i + 1)) _ _ (by omega), upd_ne (k := 256 + (i + 1)) (upd bx _ _) _ (by omega), upd_ne (k := 256 + (i + 1)) (upd bp _ _) _ (by omega)]
        have := h1' s s0 hs
        simpa using this
      · exact qBt_s h2'
      · intro s s0 hs
        show upd _ _ _ _ = _ ∧ upd _ _ _ _ = _ ∧ vp_updL _ _ _ _ = _
        by_cases e : s = i + 1
        · subst e
          rw [upd_self, upd_self, updL_self]
          exact ⟨rfl, rfl, rfl⟩
        · rw [upd_ne _ _ e, upd_ne _ _ e, updL_ne _ _ e]
          exact h3 s s0 (by omega))
    (by
      rintro ⟨bc, bx, bp, cp, con, sz, ix⟩ ⟨h1, h2⟩
      rw [show 2 ^ qn g - 1 + 1 = 2 ^ qn g by omega] at h1 h2
      simp only at h1
      refine ⟨(bc, bx, bp, cp, con, sz), ?_, h2⟩
      rw [h1]
      simp (disch := omega) only [R_lays_b2, hev, qi_lit, qi_m1, qi_add, qi_mul, qi_and, qi_or, qi_xor, qi_not, qi_shl, qi_shr, qi_and31, qi_nat, qi_inb, qi_eq, qi_lt, qi_le, qi_sub, if_pos (show 2 ^ qn g - 1 < 2 ^ qn g by omega)])
    (bc, bx, bp, cp, con, sz, qi 1) ⟨rfl, by intro s h1 h2; omega, by intro s h1 h2; omega, by intro s h1 h2; omega⟩ N (by omega)
  obtain ⟨⟨bc', bx', bp', cp', con', sz'⟩, e, q⟩ := key
  refine ⟨bc', bx', bp', cp', con', sz', ?_, q⟩
  unfold R_lays R_lays_2
  rw [show (1 : Int32) = qi 1 from rfl, e]
  rfl
theorem R_pairMany_q {g : Qg} {all con : Nat → Int32} (hg : qGok g) (hr : qRg g all) (hc : ∀ x, x ≠ 0 → x < 2 ^ qn g → con x = qi (qcon g x).toNat) (N : Nat) (hN : 300 < N) :
    R_pairMany N all con = some (qi (qpa g (2 ^ qn g))) := by
  have hp8 := q_pow8 hg.1
  have hp0 := Nat.two_pow_pos (qn g)
  have hev := R_everything_q hg hr.1
  have key := qlp_for (body := fun x : Int32 × Int32 => R_pairMany_b4 N all con x.1 x.2) (fun i => (qi (qpa g (i + 1)), qi (i + 1))) (2 ^ qn g - 1) (qi (qpa g (2 ^ qn g))) ?_ ?_ N (by omega)
  · unfold R_pairMany R_pairMany_4
    rw [show ((0 : Int32), (1 : Int32)) = (qi (qpa g (0 + 1)), qi (0 + 1)) from by simp [qpa, qpc_0]; exact ⟨rfl, rfl⟩, key]
    rfl
  · intro i hi
    have ep := R_pairsOf_q (con := con) hg hr (i + 1) (by omega) (by omega) (fun x x0 hx => hc x x0 (by omega)) N hN
    simp (disch := omega) only [R_pairMany_b4, hev, qi_lit, qi_m1, qi_add, qi_mul, qi_and, qi_or, qi_xor, qi_not, qi_shl, qi_shr, qi_and31, qi_nat, qi_inb, qi_eq, qi_lt, qi_le, qi_sub, dn, db_some, dk_t, if_neg (show ¬ 2 ^ qn g - 1 < i + 1 by omega), ep]
    rw [qpa_s g (i + 1)]
  · simp (disch := omega) only [R_pairMany_b4, hev, qi_lit, qi_m1, qi_add, qi_mul, qi_and, qi_or, qi_xor, qi_not, qi_shl, qi_shr, qi_and31, qi_nat, qi_inb, qi_eq, qi_lt, qi_le, qi_sub, if_pos (show 2 ^ qn g - 1 < 2 ^ qn g - 1 + 1 by omega)]
    rw [show 2 ^ qn g - 1 + 1 = 2 ^ qn g by omega]
theorem qcp_0 (g : Qg) : qcp g 0 = false := by
  have : qz g (qn g) 0 = (1, false) := (qz_n g (r := 0) (s := 0) (by decide) (by omega))
  simp [qcp, this]
theorem R_connectedMany_q {g : Qg} {all con cp : Nat → Int32} (hg : qGok g) (hr : qRg g all) (hc : ∀ x, x ≠ 0 → x < 2 ^ qn g → cp x = qi (qcp g x).toNat ∧ con x = qi (qcon g x).toNat) (b : Bool) (N : Nat) (hN : 300 < N) :
    R_connectedMany N all cp con (qi b.toNat) = some (qi (if b then qcc g else qca g (2 ^ qn g))) := by
  have hp8 := q_pow8 hg.1
  have hp0 := Nat.two_pow_pos (qn g)
  have hev := R_everything_q hg hr.1
  let c := fun s => decide (s ≠ 0) && (if b then qcp g s else qcon g s)
  have key := qlp_for (body := fun x : Int32 × Int32 => R_connectedMany_b4 N all cp con (qi b.toNat) x.1 x.2) (fun i => (qi ((List.range (i + 1)).countP c), qi (i + 1))) (2 ^ qn g - 1) (qi (if b then qcc g else qca g (2 ^ qn g))) ?_ ?_ N (by omega)
  · unfold R_connectedMany R_connectedMany_4
    rw [show ((0 : Int32), (1 : Int32)) = (qi ((List.range (0 + 1)).countP c), qi (0 + 1)) from by simp [c]; exact ⟨rfl, rfl⟩, key]
    rfl
  · intro i hi
    have h1 := hc (i + 1) (by omega) (by omega)
    simp (disch := omega) only [R_connectedMany_b4, R_connectedMany_42, R_connectedMany_43, R_connectedMany_38, hev, qi_lit, qi_m1, qi_add, qi_mul, qi_and, qi_or, qi_xor, qi_not, qi_shl, qi_shr, qi_and31, qi_nat, qi_inb, qi_eq, qi_lt, qi_le, qi_sub, dn, db_some, dk_t, if_neg (show ¬ 2 ^ qn g - 1 < i + 1 by omega), h1.1, h1.2, qb_0]
    rw [q_count_s c (i + 1)]
    cases b
    · rcases q_dich (qcon g (i + 1)) with k | k <;> simp [c, k]
    · rcases q_dich (qcp g (i + 1)) with k | k <;> simp [c, k]
  · simp (disch := omega) only [R_connectedMany_b4, hev, qi_lit, qi_m1, qi_add, qi_mul, qi_and, qi_or, qi_xor, qi_not, qi_shl, qi_shr, qi_and31, qi_nat, qi_inb, qi_eq, qi_lt, qi_le, qi_sub, if_pos (show 2 ^ qn g - 1 < 2 ^ qn g - 1 + 1 by omega)]
    rw [show 2 ^ qn g - 1 + 1 = 2 ^ qn g by omega]
    cases b
    · rfl
    · simp only [c, qcc, if_true]
      congr 4
      funext s
      by_cases h : s = 0
      · subst h; simp [qcp_0]
      · simp [h]
