theorem qi_div (a b : Nat) (ha : a < 2147483648) (hb : b < 2147483648) : qi a / qi b = qi (a / b) := by
  rw [← Int32.toInt_inj, Int32.toInt_div, qi_toInt a ha, qi_toInt b hb, qi_toInt _ (Nat.lt_of_le_of_lt (Nat.div_le_self _ _) ha)]
  have : (a : Int).tdiv (b : Int) = ((a / b : Nat) : Int) := by
    rw [Int.ofNat_tdiv]
  rw [this]
  have h2 : a / b < 2147483648 := Nat.lt_of_le_of_lt (Nat.div_le_self _ _) ha
  generalize a / b = c at *
  rw [Int.bmod_eq_of_le] <;> omega
def qcd (l : List (Nat × Nat)) : List (Nat × Nat) := l.flatMap (fun x => [(x.1, x.2), (x.1, x.1 ^^^ x.2)])
def qgd (y : Nat × Nat) : Bool := !qone y.2
def qmv (t : Qt) : List (Nat × Nat) := (qcd (qtn t)).filter qgd
theorem qcd_get : ∀ (l : List (Nat × Nat)) (i : Nat) (x : Nat × Nat), l[i]? = some x → (qcd l)[2 * i]? = some (x.1, x.2) ∧ (qcd l)[2 * i + 1]? = some (x.1, x.1 ^^^ x.2) := by
  intro l
  induction l with
  | nil => intro i x h; simp at h
  | cons y l ih =>
    intro i x h
    have e : qcd (y :: l) = (y.1, y.2) :: (y.1, y.1 ^^^ y.2) :: qcd l := rfl
    rw [e]
    cases i with
    | zero =>
      simp at h
      subst h
      exact ⟨rfl, rfl⟩
    | succ i =>
      rw [List.getElem?_cons_succ] at h
      have := ih i x h
      rw [show 2 * (i + 1) = 2 * i + 1 + 1 by omega, List.getElem?_cons_succ, List.getElem?_cons_succ, show 2 * i + 1 + 1 + 1 = (2 * i + 1) + 1 + 1 by omega, List.getElem?_cons_succ, List.getElem?_cons_succ]
      exact this
theorem qcd_len (l : List (Nat × Nat)) : (qcd l).length = 2 * l.length := by
  induction l with
  | nil => rfl
  | cons y l ih =>
    have e : qcd (y :: l) = (y.1, y.2) :: (y.1, y.1 ^^^ y.2) :: qcd l := rfl
    rw [e]
    simp [ih]
    omega
theorem qcd_app (a b : List (Nat × Nat)) : qcd (a ++ b) = qcd a ++ qcd b := by
  unfold qcd; exact List.flatMap_append ..
theorem qone_pow (r : Nat) (h : r < 8) : qone (2 ^ r) = true := by
  have : ∀ r, r < 8 → qone (2 ^ r) = true := by decide
  exact this r h
theorem qmv_len : ∀ t, qtok t → (qmv t).length = (qtn t).length - 1 := by
  have sub : ∀ t, qtok t → (if qone (qts t) then 0 else 1) + (qmv t).length = (qtn t).length := by
    intro t
    induction t with
    | var r =>
      intro h
      rw [show qts (.var r) = 2 ^ r from rfl, qone_pow r h]
      rfl
    | op a b iha ihb =>
      intro h
      have ho := qtok_op h
      have ia := iha h.1
      have ib := ihb h.2.1
      have e : qmv (.op a b) = ((qts a ||| qts b, qts a) :: (qts a ||| qts b, (qts a ||| qts b) ^^^ qts a) :: (qcd (qtn a ++ qtn b))).filter qgd := rfl
      rw [show qone (qts (.op a b)) = false from ho.2.2.2.2.2.2, e, qcd_app, ho.2.1]
      have hl : (qtn (.op a b)).length = (qtn a).length + (qtn b).length + 1 := by
        show ((_, _) :: (qtn a ++ qtn b)).length = _
        simp
      rw [hl]
      unfold qmv at ia ib
      rcases q_dich (qone (qts a)) with ka | ka <;> rcases q_dich (qone (qts b)) with kb | kb <;> rw [ka] at ia <;> rw [kb] at ib <;>
        simp [List.filter_cons, qgd, ka, kb, List.filter_append] at ia ib ⊢ <;> omega
  intro t h
  cases t with
  | var r => rfl
  | op a b =>
    have := sub _ h
    rw [show qone (qts (.op a b)) = false from (qtok_op h).2.2.2.2.2.2] at this
    simp at this
    omega
theorem qmv_mem {t : Qt} (h : qtok t) {y : Nat × Nat} (hy : y ∈ qmv t) : qpf t y.1 ≠ 0 ∧ (y.2 = qpf t y.1 ∨ y.2 = y.1 ^^^ qpf t y.1) ∧ qone y.2 = false := by
  obtain ⟨h1, h2⟩ := List.mem_filter.mp hy
  unfold qcd at h1
  obtain ⟨x, hx, hh⟩ := List.mem_flatMap.mp h1
  have hp := qpf_mem t h x hx
  have hs := qtn_sub t h x hx
  have ⟨a1, a2, a3, a4, a5, a6, a7⟩ := qparts_all hs.2.2.1 hs.2.2.2.1
  have h3 : qone y.2 = false := by simpa [qgd] using h2
  simp at hh
  rcases hh with rfl | rfl
  · exact ⟨by simp only [hp]; exact a2, .inl hp.symm, h3⟩
  · exact ⟨by simp only [hp]; exact a2, .inr (by simp only [hp]), h3⟩
theorem q_fget' {α : Type} (c : α → Bool) (l : List α) (i : Nat) (y : α) (hy : l[i]? = some y) (h : c y = true) : (l.filter c)[(l.take i).countP c]? = some y := by
  have e : l = l.take i ++ y :: l.drop (i + 1) := by
    have hi := (List.getElem?_eq_some_iff.mp hy)
    have : l.drop i = y :: l.drop (i + 1) := by
      rw [List.drop_eq_getElem_cons hi.1, hi.2]
    rw [← this]
    exact (List.take_append_drop i l).symm
  have key : ((l.take i ++ y :: l.drop (i + 1)).filter c)[(l.take i).countP c]? = some y := by
    rw [List.filter_append, List.countP_eq_length_filter, List.filter_cons_of_pos h]
    simp
  rw [← e] at key
  exact key
def qct (t : Qt) (m : Nat) : Nat := ((qcd (qtn t)).take m).countP qgd
theorem qct_s (t : Qt) (m : Nat) (y : Nat × Nat) (hy : (qcd (qtn t))[m]? = some y) : qct t (m + 1) = qct t m + (qgd y).toNat := by
  have hi := (List.getElem?_eq_some_iff.mp hy)
  unfold qct
  rw [← List.take_append_getElem hi.1, List.countP_append, hi.2]
  cases h : qgd y <;> simp [h]
theorem qct_n (t : Qt) (m : Nat) (h : 2 * (qtn t).length ≤ m) : qct t m = (qmv t).length := by
  unfold qct qmv
  rw [List.take_of_length_le (by rw [qcd_len]; exact h), List.countP_eq_length_filter]
/-- the candidate at node i and side j -/
theorem qcd_at (t : Qt) (i j : Nat) (x : Nat × Nat) (hx : (qtn t)[i]? = some x) (hj : j < 2) : (qcd (qtn t))[2 * i + j]? = some (x.1, if j = 0 then x.2 else x.1 ^^^ x.2) := by
  have := qcd_get _ i x hx
  by_cases e : j = 0
  · subst e; exact this.1
  · have : j = 1 := by omega
    subst this
    exact (qcd_get _ i x hx).2
theorem V_make_find (t : Qt) (h : qtok t) (st pt : Nat → Int32) (hq : qat (qtn t) 0 st pt) (ro : Int32) (mr mj : Int32) (sp mp ms : Nat → Int32) (x2 : Int32) (q : Nat) (hqm : q < (qmv t).length) (N : Nat) (hN : 300 < N) :
    ∃ (i : Nat) (y : Nat × Nat), (qmv t)[q]? = some y ∧ i < 7 ∧ st i = qi y.1 ∧
      lp (fun x : Int32 × Int32 => V_make_b7 N ro (qi (qtn t).length) pt st mr mj sp mp ms x2 x.1 x.2) N (qi q, qi 0) = some (.inl (qi i, qi y.2)) := by
  have hl := qtn_le t h
  have hml := qmv_len t h
  have inner : ∀ (i : Nat) (x : Nat × Nat), (qtn t)[i]? = some x → qct t (2 * i) ≤ q → ∃ r, lp (fun z : Int32 × Int32 => V_make_b19 N ro (qi (qtn t).length) pt st mr mj sp mp ms x2 z.1 (qi i) z.2) N (qi (q - qct t (2 * i)), qi 0) = some r ∧
      ((∃ y, (qmv t)[q]? = some y ∧ y.1 = x.1 ∧ r = .inl (qi y.2)) ∨ (r = .inr (qi (q - qct t (2 * i + 2))) ∧ qct t (2 * i + 2) ≤ q)) := by
    intro i x hx hle
    have hi := (List.getElem?_eq_some_iff.mp hx).1
    have hst := hq i x hx
    rw [Nat.zero_add] at hst
    have hsub := qtn_sub t h x (List.mem_of_getElem? hx)
    have ⟨a1, a2, a3, a4, a5, a6, a7⟩ := qparts_all hsub.2.2.1 hsub.2.2.2.1
    refine qlp_dn (Inv := fun m z => ∃ j, m = 2 - j ∧ j ≤ 2 ∧ qct t (2 * i + j) ≤ q ∧ z = (qi (q - qct t (2 * i + j)), qi j)) (Q := _) ?_ 2 _ ⟨0, rfl, by omega, hle, rfl⟩ N (by omega)
    rintro m z ⟨j, hm, hj, hc, rfl⟩
    by_cases hj2 : 2 ≤ j
    · right
      have : j = 2 := by omega
      subst this
      refine ⟨.inr (qi (q - qct t (2 * i + 2))), ?_, .inr ⟨rfl, hc⟩⟩
      simp (disch := omega) only [V_make_b19, qi_lit, qi_m1, qi_add, qi_mul, qi_and, qi_or, qi_xor, qi_not, qi_shl, qi_shr, qi_and31, qi_nat, qi_inb, qi_eq, qi_lt, qi_le, qi_sub]
      simp
    · have hcand := qcd_at t i j x hx (by omega)
      have hs := qct_s t _ _ hcand
      have hcl : (if j = 0 then x.2 else x.1 ^^^ x.2) < 256 := by split <;> omega
      have pre : V_make_b19 N ro (qi (qtn t).length) pt st mr mj sp mp ms x2 (qi (q - qct t (2 * i + j))) (qi i) (qi j) = V_make_55 N ro (qi (qtn t).length) pt st mr mj sp mp ms x2 (qi (q - qct t (2 * i + j))) (qi i) (qi j) (qi (if j = 0 then x.2 else x.1 ^^^ x.2)) := by
        by_cases e : j = 0
        · subst e
          simp (disch := omega) only [V_make_b19, qi_lit, qi_m1, qi_add, qi_mul, qi_and, qi_or, qi_xor, qi_not, qi_shl, qi_shr, qi_and31, qi_nat, qi_inb, qi_eq, qi_lt, qi_le, qi_sub, dn, db_some, dk_t, hst.1, hst.2, if_neg (show ¬ 2 ≤ 0 by omega)]
          simp
        · simp (disch := omega) only [V_make_b19, qi_lit, qi_m1, qi_add, qi_mul, qi_and, qi_or, qi_xor, qi_not, qi_shl, qi_shr, qi_and31, qi_nat, qi_inb, qi_eq, qi_lt, qi_le, qi_sub, dn, db_some, dk_t, hst.1, hst.2, if_neg hj2, if_neg e]
      simp only [pre]
      generalize hcv : (if j = 0 then x.2 else x.1 ^^^ x.2) = c at *
      rcases q_dich (qone c) with k | k
      · have hg : qgd (x.1, c) = true := by simp [qgd, k]
        by_cases hit : q - qct t (2 * i + j) = 0
        · right
          refine ⟨.inl (qi c), ?_, .inl ⟨(x.1, c), ?_, rfl, rfl⟩⟩
          · simp (disch := omega) only [V_make_55, qi_lit, qi_m1, qi_add, qi_mul, qi_and, qi_or, qi_xor, qi_not, qi_shl, qi_shr, qi_and31, qi_nat, qi_inb, qi_eq, qi_lt, qi_le, qi_sub, J_isOne_q, qb_0, k, hit]
            simp
          · have := q_fget' qgd (qcd (qtn t)) (2 * i + j) (x.1, c) hcand hg
            have e : q = qct t (2 * i + j) := by omega
            rw [e]
            exact this
        · left
          have e1 : qct t (2 * i + (j + 1)) = qct t (2 * i + j) + 1 := by rw [← Nat.add_assoc, hs, hg]; rfl
          refine ⟨(qi (q - qct t (2 * i + (j + 1))), qi (j + 1)), 2 - (j + 1), ?_, ⟨j + 1, rfl, by omega, by omega, rfl⟩, by omega⟩
          have hd := qi_dec (q - qct t (2 * i + j)) hit
          simp (disch := omega) only [V_make_55, qi_lit, qi_m1, qi_add, qi_mul, qi_and, qi_or, qi_xor, qi_not, qi_shl, qi_shr, qi_and31, qi_nat, qi_inb, qi_eq, qi_lt, qi_le, qi_sub, dn, db_some, dk_t, J_isOne_q, qb_0, k, if_true, if_neg hit, hd]
          rw [e1, Nat.sub_sub]
      · left
        have hg : qgd (x.1, c) = false := by simp [qgd, k]
        have e1 : qct t (2 * i + (j + 1)) = qct t (2 * i + j) := by rw [← Nat.add_assoc, hs, hg]; rfl
        refine ⟨(qi (q - qct t (2 * i + (j + 1))), qi (j + 1)), 2 - (j + 1), ?_, ⟨j + 1, rfl, by omega, by omega, rfl⟩, by omega⟩
        simp (disch := omega) only [V_make_55, qi_lit, qi_m1, qi_add, qi_mul, qi_and, qi_or, qi_xor, qi_not, qi_shl, qi_shr, qi_and31, qi_nat, qi_inb, qi_eq, qi_lt, qi_le, qi_sub, dn, db_some, dk_t, J_isOne_q, qb_0, k, reduceCtorEq, if_false]
        rw [e1]
  have outer := qlp_dn (body := fun x : Int32 × Int32 => V_make_b7 N ro (qi (qtn t).length) pt st mr mj sp mp ms x2 x.1 x.2)
    (Inv := fun m z => ∃ i, m = (qtn t).length - i ∧ i ≤ (qtn t).length ∧ qct t (2 * i) ≤ q ∧ z = (qi (q - qct t (2 * i)), qi i))
    (Q := fun r => ∃ (i : Nat) (y : Nat × Nat), (qmv t)[q]? = some y ∧ i < 7 ∧ st i = qi y.1 ∧ r = .inl (qi i, qi y.2)) ?_ (qtn t).length (qi q, qi 0) ⟨0, by omega, by omega, by simp [qct], by simp [qct]⟩ N (by omega)
  · obtain ⟨r, e, i, y, q1, q2, q3, rfl⟩ := outer
    exact ⟨i, y, q1, q2, q3, e⟩
  · rintro m z ⟨i, hm, hi, hc, rfl⟩
    by_cases he : (qtn t).length ≤ i
    · exfalso
      rw [qct_n t _ (by omega)] at hc
      omega
    · have hx : (qtn t)[i]? = some (qtn t)[i] := List.getElem?_eq_getElem (by omega)
      obtain ⟨r, er, hr⟩ := inner i _ hx hc
      have eb : V_make_b7 N ro (qi (qtn t).length) pt st mr mj sp mp ms x2 (qi (q - qct t (2 * i))) (qi i) = V_make_a19 N ro (qi (qtn t).length) pt st mr mj sp mp ms x2 (qi i) r := by
        simp (disch := omega) only [V_make_b7, V_make_19, qi_lit, qi_m1, qi_add, qi_mul, qi_and, qi_or, qi_xor, qi_not, qi_shl, qi_shr, qi_and31, qi_nat, qi_inb, qi_eq, qi_lt, qi_le, qi_sub, if_neg he]
        rw [er]; rfl
      rcases hr with ⟨y, h1, h2, rfl⟩ | ⟨rfl, h2⟩
      · right
        refine ⟨.inl (qi i, qi y.2), eb, i, y, h1, by omega, ?_, rfl⟩
        have := (hq i _ hx).1
        rw [Nat.zero_add] at this
        rw [this, h2]
      · left
        refine ⟨(qi (q - qct t (2 * (i + 1))), qi (i + 1)), (qtn t).length - (i + 1), ?_, ⟨i + 1, rfl, by omega, h2, rfl⟩, by omega⟩
        rw [eb]
        simp (disch := omega) only [V_make_a19, V_make_100, qi_lit, qi_m1, qi_add, qi_mul, qi_and, qi_or, qi_xor, qi_not, qi_shl, qi_shr, qi_and31, qi_nat, qi_inb, qi_eq, qi_lt, qi_le, qi_sub, dn, db_some, dk_t]
        rfl
def qmk (t : Qt) (k : Nat) : Qt := match (qmv t)[k / 2]? with
  | some y => qmw y.1 y.2 (k % 2) t
  | none => t
theorem V_turn_q (t : Qt) (h : qtok t) (st pt : Nat → Int32) (hq : qat (qtn t) 0 st pt) (mr mj : Int32) (sp mp ms : Nat → Int32) (y : Nat × Nat) (hy : y ∈ qmv t) (kind : Nat) (hk : kind < 2) (N : Nat) (hN : 300 < N) :
    ∃ sp' mp' ms', V_turn N (qi (qts t)) (qi (qtn t).length) pt st mr mj sp mp ms (qi y.1) (qi y.2) (qi kind) = some (qi (qts t), qi (qtn (qmw y.1 y.2 kind t)).length, sp', mp', ms') ∧ qat (qtn (qmw y.1 y.2 kind t)) 0 ms' mp' := by
  have hl := qtn_le t h
  obtain ⟨m1, m2, m3⟩ := qmv_mem h hy
  obtain ⟨w1, w2, w3, w4⟩ := qmw_q h m1 m2 m3 kind
  have key := qlp_rel (body := fun x : (Nat → Int32) × Int32 => V_turn_b3 N (qi (qts t)) (qi (qtn t).length) pt st mr mj x.1 mp ms (qi y.1) (qi y.2) (qi kind) x.2)
    (Inv := fun k x => x.2 = qi k ∧ ∀ (i : Nat) (z : Nat × Nat), i < k → (qtn t)[i]? = some z → x.1 z.1 = qi z.2) (qtn t).length (Q := fun s => ∀ z, z ∈ qtn t → s z.1 = qi z.2)
    (by
      rintro k ⟨f, x⟩ hk ⟨rfl, hf⟩
      have hx : (qtn t)[k]? = some (qtn t)[k] := List.getElem?_eq_getElem hk
      have hst := hq k _ hx
      rw [Nat.zero_add] at hst
      have hsub := qtn_sub t h _ (List.mem_of_getElem? hx)
      refine ⟨(upd f (qtn t)[k].1 (qi (qtn t)[k].2), qi (k + 1)), ?_, rfl, ?_⟩
      · simp (disch := omega) only [V_turn_b3, qi_lit, qi_m1, qi_add, qi_mul, qi_and, qi_or, qi_xor, qi_not, qi_shl, qi_shr, qi_and31, qi_nat, qi_inb, qi_eq, qi_lt, qi_le, qi_sub, dn, db_some, dk_t, if_neg (show ¬ (qtn t).length ≤ k by omega), hst.1, hst.2]
      · intro i z hi hz
        show upd _ _ _ z.1 = _
        by_cases e : z.1 = (qtn t)[k].1
        · rw [e, upd_self]
          rw [← qpf_mem t h _ (List.mem_of_getElem? hx), ← e, qpf_mem t h z (List.mem_of_getElem? hz)]
        · rw [upd_ne _ _ e]
          by_cases ek : i = k
          · subst ek
            rw [hx] at hz
            rw [← Option.some.inj hz] at e
            exact absurd rfl e
          · exact hf i z (by omega) hz)
    (by
      rintro ⟨f, x⟩ ⟨rfl, hf⟩
      refine ⟨f, by simp (disch := omega) only [V_turn_b3, qi_lit, qi_m1, qi_add, qi_mul, qi_and, qi_or, qi_xor, qi_not, qi_shl, qi_shr, qi_and31, qi_nat, qi_inb, qi_eq, qi_lt, qi_le, qi_sub]; simp, ?_⟩
      intro z hz
      obtain ⟨i, hi⟩ := List.getElem?_of_mem hz
      exact hf i z (List.getElem?_eq_some_iff.mp hi).1 hi)
    (sp, qi 0) ⟨rfl, by intro i z hi; omega⟩ N (by omega)
  obtain ⟨s1, e1, hs1⟩ := key
  have hsplit : ∀ x, qpf t x ≠ 0 → s1 x = qi (qpf t x) := fun x hx => hs1 _ (qpf_mem' t h x hx)
  obtain ⟨w5, w6, w7, w8, w9⟩ := w4 (if kind = 0 then qpf t y.2 else y.2 ^^^ qpf t y.2) _ _ rfl rfl rfl
  generalize hSt : (if kind = 0 then qpf t y.2 else y.2 ^^^ qpf t y.2) = S at *
  generalize hGo : y.2 ^^^ S = G at *
  generalize hOt : y.1 ^^^ y.2 = O at *
  obtain ⟨c1, c2, c3, c4, c5, c6, c7, c8, c9, c10, c11, c12, c13, c14, c15⟩ := w5
  have hGO : G ||| O < 256 := q_or_lt (n := 8) c3 c5
  have ff : ∀ a b, a < 256 → b < 256 → a ≠ 0 → b ≠ 0 → a &&& b = 0 → (if qlow b ≤ qlow a then b else a) = qfst a b := by
    intro a b ha hb a0 b0 hab
    unfold qfst
    rcases qlow_dis a b ha hb a0 b0 hab with ⟨k, _⟩ | ⟨k, _⟩
    · rw [if_neg (by omega), if_pos k]
    · rw [if_pos (by omega), if_neg (by omega)]
  have hGO0 : G ||| O ≠ 0 := by have := @Nat.left_le_or G O; omega
  have dSGO : S &&& (G ||| O) = 0 := by rw [Nat.and_or_distrib_left, c7, c8]; rfl
  have fGO := ff G O c3 c5 c4 c6 c9
  have fS := ff S (G ||| O) c1 hGO c2 hGO0 dSGO
  have hqlt := qpf_lt t h y.2
  obtain ⟨mp', ms', et, qt⟩ := P_take_q (qmw y.1 y.2 kind t) w1 (upd (upd s1 (G ||| O) (qi (qfst G O))) y.1 (qi (qfst S (G ||| O)))) mp ms mr mj (by
    intro x hx
    have hpx := qpf_mem _ w1 x hx
    have hsx := qtn_sub _ w1 x hx
    have hx2 : x.2 ≠ 0 := (qparts_all hsx.2.2.1 hsx.2.2.2.1).2.1
    rw [w9 x.1] at hpx
    by_cases z1 : x.1 = y.1
    · rw [if_pos z1] at hpx
      rw [z1, upd_self, hpx]
    · rw [if_neg z1] at hpx
      rw [upd_ne _ _ z1]
      by_cases z2 : x.1 = G ||| O
      · rw [if_pos z2] at hpx
        rw [z2, upd_self, hpx]
      · rw [if_neg z2] at hpx
        rw [upd_ne _ _ z2]
        by_cases z3 : x.1 = y.2
        · rw [if_pos z3] at hpx
          exact absurd hpx.symm hx2
        · rw [if_neg z3] at hpx
          rw [hsplit x.1 (by rw [hpx]; exact hx2), hpx])
  rw [w2] at et
  refine ⟨upd (upd s1 (G ||| O) (qi (qfst G O))) y.1 (qi (qfst S (G ||| O))), mp', ms', ?_, qt⟩
  unfold V_turn V_turn_3
  rw [show (0 : Int32) = qi 0 from rfl, e1, db_some]
  have e37 : V_turn_37 N (qi (qts t)) (qi (qtn t).length) pt st mr mj s1 mp ms (qi y.1) (qi y.2) (qi kind) = V_turn_59 N (qi (qts t)) (qi (qtn t).length) pt st mr mj s1 mp ms (qi y.1) (qi y.2) (qi S) := by
    by_cases e : kind = 0
    · rw [if_pos e] at hSt
      simp (disch := omega) only [V_turn_37, qi_lit, qi_m1, qi_add, qi_mul, qi_and, qi_or, qi_xor, qi_not, qi_shl, qi_shr, qi_and31, qi_nat, qi_inb, qi_eq, qi_lt, qi_le, qi_sub, dn, db_some, dk_t, hsplit y.2 w3, if_pos e, hSt]
    · rw [if_neg e] at hSt
      simp (disch := omega) only [V_turn_37, qi_lit, qi_m1, qi_add, qi_mul, qi_and, qi_or, qi_xor, qi_not, qi_shl, qi_shr, qi_and31, qi_nat, qi_inb, qi_eq, qi_lt, qi_le, qi_sub, dn, db_some, dk_t, hsplit y.2 w3, if_neg e, hSt]
  unfold V_turn_a3
  rw [e37]
  simp (disch := omega) only [V_turn_59, qi_lit, qi_m1, qi_add, qi_mul, qi_and, qi_or, qi_xor, qi_not, qi_shl, qi_shr, qi_and31, qi_nat, qi_inb, qi_eq, qi_lt, qi_le, qi_sub, dn, db_some, dk_t, hGo, hOt, J_firstOf_q _ _ c3 c5, J_firstOf_q _ _ c1 hGO, fGO, fS, et]
theorem V_make_q (t : Qt) (h : qtok t) (st pt : Nat → Int32) (hq : qat (qtn t) 0 st pt) (mr mj : Int32) (sp mp ms : Nat → Int32) (k : Nat) (hk : k < 2 * (qmv t).length) (N : Nat) (hN : 300 < N) :
    ∃ sp' mp' ms', V_make N (qi (qts t)) (qi (qtn t).length) pt st mr mj sp mp ms (qi k) = some (qi (qts t), qi (qtn (qmk t k)).length, sp', mp', ms') ∧ qat (qtn (qmk t k)) 0 ms' mp' ∧ qtok (qmk t k) ∧ qts (qmk t k) = qts t := by
  have hl := qtn_le t h
  have hml := qmv_len t h
  obtain ⟨i, y, hy, hi, hsi, e⟩ := V_make_find t h st pt hq (qi (qts t)) mr mj sp mp ms (qi k) (k / 2) (by omega) N hN
  have hym := List.mem_of_getElem? hy
  obtain ⟨m1, m2, m3⟩ := qmv_mem h hym
  obtain ⟨w1, w2, w3, w4⟩ := qmw_q h m1 m2 m3 (k % 2)
  obtain ⟨sp', mp', ms', et, qt⟩ := V_turn_q t h st pt hq mr mj sp mp ms y hym (k % 2) (by omega) N hN
  have hmk : qmk t k = qmw y.1 y.2 (k % 2) t := by unfold qmk; rw [hy]
  rw [hmk]
  refine ⟨sp', mp', ms', ?_, qt, w1, w2⟩
  have hkind : V_kindOf (qi k) = qi (k % 2) := by
    unfold V_kindOf
    rw [show (2 : Int32) = qi 2 from rfl, qi_div _ _ (by omega) (by omega), qi_mul, qi_sub _ _ (by omega)]
    congr 1; omega
  have hdiv : qi k / (2 : Int32) = qi (k / 2) := by rw [show (2 : Int32) = qi 2 from rfl, qi_div _ _ (by omega) (by omega)]
  unfold V_make V_make_7
  simp only [dn, hdiv]
  rw [show (0 : Int32) = qi 0 from rfl, e, db_some]
  simp (disch := omega) only [V_make_a7, V_make_72, qi_lit, qi_m1, qi_add, qi_mul, qi_and, qi_or, qi_xor, qi_not, qi_shl, qi_shr, qi_and31, qi_nat, qi_inb, qi_eq, qi_lt, qi_le, qi_sub, dn, db_some, dk_t, hsi, hkind, et]
