theorem qi_dec2 (k : Nat) (h : 2 ≤ k) : qi k + Int32.ofInt (-2) = qi (k - 2) := by
  rw [show k = k - 2 + 2 by omega, ← qi_add, Int32.add_assoc, show qi 2 + Int32.ofInt (-2) = 0 from rfl, Int32.add_zero, Nat.add_sub_cancel]
theorem qi_m2 : -(qi 2) = Int32.ofInt (-2) := rfl
theorem qmv_leaf {t : Qt} (h : qtok t) {x : Nat × Nat} (hx : x ∈ qtn t) {c : Nat} (hc : c = x.2 ∨ c = x.1 ^^^ x.2) : (qpf t c = 0) ↔ qone c = true := by
  have hp := qpf_mem t h x hx
  have hs := qtn_sub t h x hx
  have ⟨a1, a2, a3, a4, a5, a6, a7⟩ := qparts_all hs.2.2.1 hs.2.2.2.1
  constructor
  · intro e
    rcases q_dich (qone c) with k | k
    · exact absurd e (qmw_q h (s := x.1) (c := c) (by rw [hp]; exact a2) (by rw [hp]; exact hc) k 0).2.2.1
    · exact k
  · intro e
    by_cases k : qpf t c = 0
    · exact k
    · have := qpf_sub t h c k
      rw [qparts_one c this.2.2.1 e] at this
      cases this.2.2.2
theorem R_isMove_find (t : Qt) (h : qtok t) (p nd : Nat → Int32) (hp : qRp t p) (hnd : qnd nd (qns t)) (f1 f2 f3 f4 f5 : Int32) (k : Nat) (hk : k < 2147483648) (N : Nat) (hN : 300 < N) :
    ∃ r, lp (fun x : Int32 × Int32 => R_isMove_b4 N (qi (qtn t).length) f1 f2 f3 f4 f5 nd p x.1 x.2) N (qi k, qi 0) = some r ∧
      ((∃ y, (qmv t)[k / 2]? = some y ∧ r = .inl (qi (k % 2), qi y.1, qi y.2)) ∨ (r = .inr () ∧ 2 * (qmv t).length ≤ k)) := by
  have hl := qtn_le t h
  have hml := qmv_len t h
  have inner : ∀ (i : Nat) (x : Nat × Nat), (qtn t)[i]? = some x → 2 * qct t (2 * i) ≤ k → ∃ r, lp (fun z : Int32 × Int32 => R_isMove_b15 N (qi (qtn t).length) f1 f2 f3 f4 f5 nd p z.1 (qi i) z.2) N (qi (k - 2 * qct t (2 * i)), qi 0) = some r ∧
      ((∃ y, (qmv t)[k / 2]? = some y ∧ r = .inl (qi (k % 2), qi y.1, qi y.2)) ∨ (r = .inr (qi (k - 2 * qct t (2 * i + 2))) ∧ 2 * qct t (2 * i + 2) ≤ k)) := by
    intro i x hx hle
    have hi := (List.getElem?_eq_some_iff.mp hx).1
    have hni : nd i = qi x.1 := hnd i x.1 (by unfold qns; simp [hx])
    have hxm := List.mem_of_getElem? hx
    have hsub := qtn_sub t h x hxm
    have ⟨a1, a2, a3, a4, a5, a6, a7⟩ := qparts_all hsub.2.2.1 hsub.2.2.2.1
    have hps : p x.1 = qi x.2 := by rw [hp _ hsub.2.2.1, qpf_mem t h x hxm]
    have hxx := q_and_xor a3
    refine qlp_dn (Inv := fun m z => ∃ j, m = 2 - j ∧ j ≤ 2 ∧ 2 * qct t (2 * i + j) ≤ k ∧ z = (qi (k - 2 * qct t (2 * i + j)), qi j)) (Q := _) ?_ 2 _ ⟨0, rfl, by omega, hle, rfl⟩ N (by omega)
    rintro m z ⟨j, hm, hj, hc, rfl⟩
    by_cases hj2 : 2 ≤ j
    · right
      have : j = 2 := by omega
      subst this
      refine ⟨.inr (qi (k - 2 * qct t (2 * i + 2))), ?_, .inr ⟨rfl, hc⟩⟩
      simp (disch := omega) only [R_isMove_b15, qi_lit, qi_m1, qi_add, qi_mul, qi_and, qi_or, qi_xor, qi_not, qi_shl, qi_shr, qi_and31, qi_nat, qi_inb, qi_eq, qi_lt, qi_le, qi_sub]
      simp
    · have hcand := qcd_at t i j x hx (by omega)
      have hs := qct_s t _ _ hcand
      have hcl : (if j = 0 then x.2 else x.1 ^^^ x.2) < 256 := by split <;> omega
      have hcc : (if j = 0 then x.2 else x.1 ^^^ x.2) = x.2 ∨ (if j = 0 then x.2 else x.1 ^^^ x.2) = x.1 ^^^ x.2 := by
        split
        · exact .inl rfl
        · exact .inr rfl
      have pre : R_isMove_b15 N (qi (qtn t).length) f1 f2 f3 f4 f5 nd p (qi (k - 2 * qct t (2 * i + j))) (qi i) (qi j) = R_isMove_56 N (qi (qtn t).length) f1 f2 f3 f4 f5 nd p (qi (k - 2 * qct t (2 * i + j))) (qi i) (qi j) (qi x.1) (qi (if j = 0 then x.2 else x.1 ^^^ x.2)) := by
        by_cases e : j = 0
        · subst e
          simp (disch := omega) only [R_isMove_b15, qi_lit, qi_m1, qi_add, qi_mul, qi_and, qi_or, qi_xor, qi_not, qi_shl, qi_shr, qi_and31, qi_nat, qi_inb, qi_eq, qi_lt, qi_le, qi_sub, dn, db_some, dk_t, hni, hps, if_neg (show ¬ 2 ≤ 0 by omega)]
          simp
        · simp (disch := omega) only [R_isMove_b15, qi_lit, qi_m1, qi_add, qi_mul, qi_and, qi_or, qi_xor, qi_not, qi_shl, qi_shr, qi_and31, qi_nat, qi_inb, qi_eq, qi_lt, qi_le, qi_sub, dn, db_some, dk_t, hni, hps, if_neg hj2, if_neg e, hxx]
      simp only [pre]
      have hleaf := qmv_leaf h hxm hcc
      generalize hcv : (if j = 0 then x.2 else x.1 ^^^ x.2) = c at *
      have hpc := hp c hcl
      have hpl := qpf_lt t h c
      rcases q_dich (qone c) with kk | kk
      · have hg : qgd (x.1, c) = true := by simp [qgd, kk]
        have hnz : ¬ qpf t c = 0 := fun e => by rw [hleaf.mp e] at kk; cases kk
        by_cases hit : 2 ≤ k - 2 * qct t (2 * i + j)
        · left
          have e1 : qct t (2 * i + (j + 1)) = qct t (2 * i + j) + 1 := by rw [← Nat.add_assoc, hs, hg]; rfl
          refine ⟨(qi (k - 2 * qct t (2 * i + (j + 1))), qi (j + 1)), 2 - (j + 1), ?_, ⟨j + 1, rfl, by omega, by omega, rfl⟩, by omega⟩
          have hd := qi_dec2 (k - 2 * qct t (2 * i + j)) hit
          simp (disch := omega) only [R_isMove_56, qi_lit, qi_m1, qi_add, qi_mul, qi_and, qi_or, qi_xor, qi_not, qi_shl, qi_shr, qi_and31, qi_nat, qi_inb, qi_eq, qi_lt, qi_le, qi_sub, qi_m2, dn, db_some, dk_t, hpc, if_neg hnz, if_pos hit, hd]
          rw [e1, show k - 2 * qct t (2 * i + j) - 2 = k - 2 * (qct t (2 * i + j) + 1) by omega]
        · right
          refine ⟨.inl (qi (k % 2), qi x.1, qi c), ?_, .inl ⟨(x.1, c), ?_, rfl⟩⟩
          · simp (disch := omega) only [R_isMove_56, qi_lit, qi_m1, qi_add, qi_mul, qi_and, qi_or, qi_xor, qi_not, qi_shl, qi_shr, qi_and31, qi_nat, qi_inb, qi_eq, qi_lt, qi_le, qi_sub, dn, db_some, dk_t, hpc, if_neg hnz, if_neg hit]
            rw [show k - 2 * qct t (2 * i + j) = k % 2 by omega]
          · have := q_fget' qgd (qcd (qtn t)) (2 * i + j) (x.1, c) hcand hg
            have e : k / 2 = qct t (2 * i + j) := by omega
            rw [e]
            exact this
      · left
        have hg : qgd (x.1, c) = false := by simp [qgd, kk]
        have e1 : qct t (2 * i + (j + 1)) = qct t (2 * i + j) := by rw [← Nat.add_assoc, hs, hg]; rfl
        refine ⟨(qi (k - 2 * qct t (2 * i + (j + 1))), qi (j + 1)), 2 - (j + 1), ?_, ⟨j + 1, rfl, by omega, by omega, rfl⟩, by omega⟩
        simp (disch := omega) only [R_isMove_56, qi_lit, qi_m1, qi_add, qi_mul, qi_and, qi_or, qi_xor, qi_not, qi_shl, qi_shr, qi_and31, qi_nat, qi_inb, qi_eq, qi_lt, qi_le, qi_sub, dn, db_some, dk_t, hpc, hleaf.mpr kk, if_true]
        rw [e1]
  refine qlp_dn (Inv := fun m z => ∃ i, m = (qtn t).length - i ∧ i ≤ (qtn t).length ∧ 2 * qct t (2 * i) ≤ k ∧ z = (qi (k - 2 * qct t (2 * i)), qi i))
    (Q := _) ?_ (qtn t).length _ ⟨0, by omega, by omega, by simp [qct], by simp [qct]⟩ N (by omega)
  rintro m z ⟨i, hm, hi, hc, rfl⟩
  by_cases he : (qtn t).length ≤ i
  · right
    refine ⟨.inr (), by simp (disch := omega) only [R_isMove_b4, qi_lit, qi_m1, qi_add, qi_mul, qi_and, qi_or, qi_xor, qi_not, qi_shl, qi_shr, qi_and31, qi_nat, qi_inb, qi_eq, qi_lt, qi_le, qi_sub, if_pos he], .inr ⟨rfl, ?_⟩⟩
    rw [qct_n t _ (by omega)] at hc
    exact hc
  · have hx : (qtn t)[i]? = some (qtn t)[i] := List.getElem?_eq_getElem (by omega)
    obtain ⟨r, er, hr⟩ := inner i _ hx hc
    have eb : R_isMove_b4 N (qi (qtn t).length) f1 f2 f3 f4 f5 nd p (qi (k - 2 * qct t (2 * i))) (qi i) = R_isMove_a15 N (qi (qtn t).length) f1 f2 f3 f4 f5 nd p (qi i) r := by
      simp (disch := omega) only [R_isMove_b4, R_isMove_15, qi_lit, qi_m1, qi_add, qi_mul, qi_and, qi_or, qi_xor, qi_not, qi_shl, qi_shr, qi_and31, qi_nat, qi_inb, qi_eq, qi_lt, qi_le, qi_sub, if_neg he]
      rw [er]; rfl
    rcases hr with ⟨y, h1, rfl⟩ | ⟨rfl, h2⟩
    · right
      exact ⟨.inl (qi (k % 2), qi y.1, qi y.2), eb, .inl ⟨y, h1, rfl⟩⟩
    · left
      refine ⟨(qi (k - 2 * qct t (2 * (i + 1))), qi (i + 1)), (qtn t).length - (i + 1), ?_, ⟨i + 1, rfl, by omega, h2, rfl⟩, by omega⟩
      rw [eb]
      simp (disch := omega) only [R_isMove_a15, R_isMove_153, qi_lit, qi_m1, qi_add, qi_mul, qi_and, qi_or, qi_xor, qi_not, qi_shl, qi_shr, qi_and31, qi_nat, qi_inb, qi_eq, qi_lt, qi_le, qi_sub, dn, db_some, dk_t]
      rfl
/-- the five numbers of the k-th move -/
def qmn (t : Qt) (k : Nat) (f : Int32 × Int32 × Int32 × Int32 × Int32) : Prop :=
  ∃ y S G O, (qmv t)[k / 2]? = some y ∧ S = (if k % 2 = 0 then qpf t y.2 else y.2 ^^^ qpf t y.2) ∧ G = y.2 ^^^ S ∧ O = y.1 ^^^ y.2 ∧ f = (qi y.1, qi y.2, qi S, qi G, qi O)
theorem R_isMove_q (t : Qt) (h : qtok t) (p nd : Nat → Int32) (hp : qRp t p) (hnd : qnd nd (qns t)) (f1 f2 f3 f4 f5 : Int32) (k : Nat) (hk : k < 2147483648) (N : Nat) (hN : 300 < N) :
    (k < 2 * (qmv t).length → ∃ g1 g2 g3 g4 g5, R_isMove N (qi (qtn t).length) f1 f2 f3 f4 f5 nd p (qi k) = some (qi 1, g1, g2, g3, g4, g5) ∧ qmn t k (g1, g2, g3, g4, g5)) ∧
    (2 * (qmv t).length ≤ k → R_isMove N (qi (qtn t).length) f1 f2 f3 f4 f5 nd p (qi k) = some (qi 0, f1, f2, f3, f4, f5)) := by
  obtain ⟨r, er, hr⟩ := R_isMove_find t h p nd hp hnd f1 f2 f3 f4 f5 k hk N hN
  have pre : R_isMove N (qi (qtn t).length) f1 f2 f3 f4 f5 nd p (qi k) = R_isMove_a4 N (qi (qtn t).length) f1 f2 f3 f4 f5 nd p r := by
    unfold R_isMove R_isMove_4
    rw [show (0 : Int32) = qi 0 from rfl, er]; rfl
  rw [pre]
  constructor
  · intro hlt
    rcases hr with ⟨y, h1, rfl⟩ | ⟨_, h2⟩
    · have hym := List.mem_of_getElem? h1
      obtain ⟨m1, m2, m3⟩ := qmv_mem h hym
      obtain ⟨w1, w2, w3, w4⟩ := qmw_q h m1 m2 m3 (k % 2)
      obtain ⟨w5, w6, w7, w8, w9⟩ := w4 (if k % 2 = 0 then qpf t y.2 else y.2 ^^^ qpf t y.2) _ _ rfl rfl rfl
      obtain ⟨c1, c2, c3, c4, c5, c6, c7, c8, c9, c10, c11, c12, c13, c14, c15⟩ := w5
      have hpy := hp y.2 c11
      have hpl := qpf_lt t h y.2
      have hsub := qpf_sub t h y.2 w3
      have ⟨b1, b2, b3, b4, b5, b6, b7⟩ := qparts_all hsub.2.2.1 hsub.2.2.2
      have hcs : y.2 &&& y.1 = y.2 := by
        have := c12
        rw [← this]
        exact q_or_sub_l _ _
      have e1 := q_and_xor hcs
      have e2 := q_and_xor b3
      have hSs : (if k % 2 = 0 then qpf t y.2 else y.2 ^^^ qpf t y.2) &&& y.2 = (if k % 2 = 0 then qpf t y.2 else y.2 ^^^ qpf t y.2) := by
        split
        · exact b3
        · exact q_xor_sub b3
      have e3 := q_and_xor hSs
      refine ⟨_, _, _, _, _, ?_, y, _, _, _, h1, rfl, rfl, rfl, rfl⟩
      by_cases ek : k % 2 = 0
      · rw [if_pos ek] at e3
        simp (disch := omega) only [R_isMove_a4, R_isMove_76, R_isMove_126, qi_lit, qi_m1, qi_add, qi_mul, qi_and, qi_or, qi_xor, qi_not, qi_shl, qi_shr, qi_and31, qi_nat, qi_inb, qi_eq, qi_lt, qi_le, qi_sub, dn, db_some, dk_t, if_pos ek, hpy, e1, e3]
      · rw [if_neg ek] at e3
        simp (disch := omega) only [R_isMove_a4, R_isMove_76, R_isMove_126, qi_lit, qi_m1, qi_add, qi_mul, qi_and, qi_or, qi_xor, qi_not, qi_shl, qi_shr, qi_and31, qi_nat, qi_inb, qi_eq, qi_lt, qi_le, qi_sub, dn, db_some, dk_t, if_neg ek, hpy, e1, e2, e3]
    · omega
  · intro hge
    rcases hr with ⟨y, h1, rfl⟩ | ⟨rfl, h2⟩
    · have := (List.getElem?_eq_some_iff.mp h1).1
      omega
    · rfl
theorem qmk_q {t : Qt} (h : qtok t) {k : Nat} (hk : k < 2 * (qmv t).length) : qtok (qmk t k) ∧ qts (qmk t k) = qts t := by
  have hy : (qmv t)[k / 2]? = some ((qmv t)[k / 2]'(by omega)) := List.getElem?_eq_getElem (by omega)
  obtain ⟨m1, m2, m3⟩ := qmv_mem h (List.mem_of_getElem? hy)
  obtain ⟨w1, w2, w3, w4⟩ := qmw_q h m1 m2 m3 (k % 2)
  unfold qmk
  rw [hy]
  exact ⟨w1, w2⟩
theorem R_goes_q (t : Qt) (h : qtok t) (p : Nat → Int32) (hp : qRp t p) (k : Nat) (g1 g2 g3 g4 g5 : Int32) (hm : qmn t k (g1, g2, g3, g4, g5)) :
    ∃ p', R_goes g1 g2 g3 g4 g5 p = some p' ∧ qRp (qmk t k) p' ∧ ∃ p'', R_goesBack g1 g2 g3 g4 g5 p' = some p'' ∧ qRp t p'' := by
  obtain ⟨y, S, G, O, hy, hS, hG, hO, he⟩ := hm
  simp only [Prod.mk.injEq] at he
  obtain ⟨rfl, rfl, rfl, rfl, rfl⟩ := he
  obtain ⟨m1, m2, m3⟩ := qmv_mem h (List.mem_of_getElem? hy)
  obtain ⟨w1, w2, w3, w4⟩ := qmw_q h m1 m2 m3 (k % 2)
  obtain ⟨w5, w6, w7, w8, w9⟩ := w4 S G O hS hG hO
  obtain ⟨c1, c2, c3, c4, c5, c6, c7, c8, c9, c10, c11, c12, c13, c14, c15⟩ := w5
  have hmk : qmk t k = qmw y.1 y.2 (k % 2) t := by unfold qmk; rw [hy]
  have hGO : G ||| O < 256 := q_or_lt (n := 8) c3 c5
  have hGO0 : G ||| O ≠ 0 := by have := @Nat.left_le_or G O; omega
  have dSGO : S &&& (G ||| O) = 0 := by rw [Nat.and_or_distrib_left, c7, c8]; rfl
  have y2 : y.2 ≠ 0 := by have := @Nat.left_le_or S G; omega
  have hgs : G ||| O ≠ y.1 := by
    intro e
    have : S &&& (G ||| O) = S := by rw [e, ← c13]; exact q_or_sub_l _ _
    rw [dSGO] at this
    exact c2 this.symm
  have hgc : G ||| O ≠ y.2 := by
    intro e
    have h1 : O &&& y.2 = O := by rw [← e]; exact q_or_sub_r _ _
    rw [Nat.and_comm, c15] at h1
    exact c6 h1.symm
  have hcs : y.2 ≠ y.1 := by
    intro e
    have h1 : O &&& y.2 = O := by rw [e, ← c12]; exact q_or_sub_r _ _
    rw [Nat.and_comm, c15] at h1
    exact c6 h1.symm
  have a1 := R_isAheadOf_q G O c3 c5 c4 c6 c9
  have a2 := R_isAheadOf_q S (G ||| O) c1 hGO c2 hGO0 dSGO
  have a3 := R_isAheadOf_q S G c1 c3 c2 c4 c7
  have a4 := R_isAheadOf_q y.2 O c11 c5 y2 c6 c15
  have hf : ∀ a b, (decide (qlow a < qlow b) = false ∧ qfst a b = b) ∨ (decide (qlow a < qlow b) = true ∧ qfst a b = a) := by
    intro a b
    unfold qfst
    by_cases e : qlow a < qlow b
    · right; rw [if_pos e]; exact ⟨decide_eq_true e, rfl⟩
    · left; rw [if_neg e]; exact ⟨decide_eq_false e, rfl⟩
  have eg : R_goes (qi y.1) (qi y.2) (qi S) (qi G) (qi O) p = some (upd (upd (upd p y.2 (qi 0)) (G ||| O) (qi (qfst G O))) y.1 (qi (qfst S (G ||| O)))) := by
    simp (disch := omega) only [R_goes, R_goes_50, R_goes_78, qi_lit, qi_m1, qi_add, qi_mul, qi_and, qi_or, qi_xor, qi_not, qi_shl, qi_shr, qi_and31, qi_nat, qi_inb, qi_eq, qi_lt, qi_le, qi_sub, dn, db_some, dk_t, a1, a2, qb_0]
    rcases hf G O with ⟨k1, k2⟩ | ⟨k1, k2⟩ <;> rcases hf S (G ||| O) with ⟨k3, k4⟩ | ⟨k3, k4⟩ <;> simp only [k1, k2, k3, k4, if_true, reduceCtorEq, if_false]
  refine ⟨_, eg, ?_, ?_⟩
  · intro x hx
    rw [hmk, w9 x]
    by_cases z1 : x = y.1
    · rw [if_pos z1, z1, upd_self]
    · rw [if_neg z1, upd_ne _ _ z1]
      by_cases z2 : x = G ||| O
      · rw [if_pos z2, z2, upd_self]
      · rw [if_neg z2, upd_ne _ _ z2]
        by_cases z3 : x = y.2
        · rw [if_pos z3, z3, upd_self]
        · rw [if_neg z3, upd_ne _ _ z3]; exact hp x hx
  · generalize hP : upd (upd (upd p y.2 (qi 0)) (G ||| O) (qi (qfst G O))) y.1 (qi (qfst S (G ||| O))) = P
    refine ⟨upd (upd (upd P (G ||| O) (qi 0)) y.2 (qi (qfst S G))) y.1 (qi (qfst y.2 O)), ?_, ?_⟩
    · simp (disch := omega) only [R_goesBack, R_goesBack_50, R_goesBack_84, qi_lit, qi_m1, qi_add, qi_mul, qi_and, qi_or, qi_xor, qi_not, qi_shl, qi_shr, qi_and31, qi_nat, qi_inb, qi_eq, qi_lt, qi_le, qi_sub, dn, db_some, dk_t, a3, a4, qb_0]
      rcases hf S G with ⟨k1, k2⟩ | ⟨k1, k2⟩ <;> rcases hf y.2 O with ⟨k3, k4⟩ | ⟨k3, k4⟩ <;> simp only [k1, k2, k3, k4, if_true, reduceCtorEq, if_false]
    · intro x hx
      by_cases z1 : x = y.1
      · rw [z1, upd_self, w8]
      · rw [upd_ne _ _ z1]
        by_cases z3 : x = y.2
        · rw [z3, upd_self, w7]
        · rw [upd_ne _ _ z3]
          by_cases z2 : x = G ||| O
          · rw [z2, upd_self, w6]
          · rw [upd_ne _ _ z2, ← hP, upd_ne _ _ z1, upd_ne _ _ z2, upd_ne _ _ z3]
            exact hp x hx
theorem R_moveMany_q (t : Qt) (h : qtok t) (p nd : Nat → Int32) (hp : qRp t p) (hnd : qnd nd (qns t)) (f1 f2 f3 f4 f5 : Int32) (N : Nat) (hN : 300 < N) :
    ∃ g1 g2 g3 g4 g5, R_moveMany N (qi (qtn t).length) f1 f2 f3 f4 f5 nd p = some (qi (2 * (qmv t).length), g1, g2, g3, g4, g5) := by
  have hl := qtn_le t h
  have hml := qmv_len t h
  have key := qlp_rel (body := fun x : Int32 × Int32 × Int32 × Int32 × Int32 × Int32 => R_moveMany_b2 N (qi (qtn t).length) x.1 x.2.1 x.2.2.1 x.2.2.2.1 x.2.2.2.2.1 nd p x.2.2.2.2.2)
    (Inv := fun k x => x.2.2.2.2.2 = qi k) (2 * (qmv t).length) (Q := fun y => y.2.2.2.2.2 = qi (2 * (qmv t).length)) ?_ ?_ (f1, f2, f3, f4, f5, qi 0) rfl N (by omega)
  · obtain ⟨⟨g1, g2, g3, g4, g5, g6⟩, e, q⟩ := key
    simp only at q
    subst q
    refine ⟨g1, g2, g3, g4, g5, ?_⟩
    unfold R_moveMany R_moveMany_2
    rw [show (0 : Int32) = qi 0 from rfl, e]
    rfl
  · rintro k ⟨g1, g2, g3, g4, g5, g6⟩ hk hg
    simp only at hg
    subst hg
    obtain ⟨a1, a2, a3, a4, a5, e, _⟩ := (R_isMove_q t h p nd hp hnd g1 g2 g3 g4 g5 k (by omega) N hN).1 hk
    refine ⟨(a1, a2, a3, a4, a5, qi (k + 1)), ?_, rfl⟩
    simp (disch := omega) only [R_moveMany_b2, qi_lit, qi_m1, qi_add, qi_mul, qi_and, qi_or, qi_xor, qi_not, qi_shl, qi_shr, qi_and31, qi_nat, qi_inb, qi_eq, qi_lt, qi_le, qi_sub, dn, db_some, dk_t, e, if_neg (show ¬ (1 = 0) by omega)]
  · rintro ⟨g1, g2, g3, g4, g5, g6⟩ hg
    simp only at hg
    subst hg
    have e := (R_isMove_q t h p nd hp hnd g1 g2 g3 g4 g5 (2 * (qmv t).length) (by omega) N hN).2 (Nat.le_refl _)
    refine ⟨(g1, g2, g3, g4, g5, qi (2 * (qmv t).length)), ?_, rfl⟩
    simp (disch := omega) only [R_moveMany_b2, dn, db_some, dk_t, e]
    rfl
def qstf (g : Qg) (t : Qt) (a : Int32 × Nat × Nat) (k : Nat) : Int32 × Nat × Nat :=
  if qcr g (qmk t k) < a.2.1 ∨ (qcr g (qmk t k) = a.2.1 ∧ qco g (qts t) (qmk t k) < a.2.2) then (qi k, qcr g (qmk t k), qco g (qts t) (qmk t k)) else a
def qstp (g : Qg) (t : Qt) (k : Nat) : Int32 × Nat × Nat := (List.range k).foldl (qstf g t) (Int32.ofInt (-1), qcr g t, qco g (qts t) t)
theorem qcr_le (g : Qg) (t : Qt) (h : qtok t) : qcr g t ≤ 7 := by
  have := qps_le (qxw g) (qtn t) 1 (qxw_le g) (qtn t).length (Nat.le_refl _)
  rw [qps_n] at this
  have := qtn_le t h
  unfold qcr
  omega
theorem qco_le (g : Qg) (w : Nat) (t : Qt) : qco g w t ≤ qcap := qmin_le _
theorem qstp_b (g : Qg) (t : Qt) (h : qtok t) : ∀ k, k ≤ 2 * (qmv t).length → (qstp g t k).2.1 ≤ 7 ∧ (qstp g t k).2.2 ≤ qcap := by
  intro k
  induction k with
  | zero => intro _; exact ⟨qcr_le g t h, qco_le g _ t⟩
  | succ k ih =>
    intro hk
    have := ih (by omega)
    unfold qstp at this ⊢
    rw [q_frange]
    unfold qstf
    split
    · exact ⟨qcr_le g _ (qmk_q h (by omega)).1, qco_le g _ _⟩
    · exact this
theorem R_bestMove_q {g : Qg} {all : Nat → Int32} {sz : Nat → Int64} (hg : qGok g) (hr : qRg g all) (hz : ∀ s, s ≠ 0 → s < 2 ^ qn g → sz s = ql (qsz g s)) (t : Qt) (h : qtok t) (ht : qts t < 2 ^ qn g) (p : Nat → Int32) (hp : qRp t p)
    (o n f1 f2 f3 f4 f5 : Int32) (nd op : Nat → Int32) (N : Nat) (hN : 300 < N) :
    ∃ o' g1 g2 g3 g4 g5 nd' op' p', R_bestMove N o n f1 f2 f3 f4 f5 all nd op p sz (qi (qts t)) = some ((qstp g t (2 * (qmv t).length)).1, o', qi (qtn t).length, g1, g2, g3, g4, g5, nd', op', p') ∧ qRp t p' ∧ qnd nd' (qns t) := by
  have hl := qtn_le t h
  have hml := qmv_len t h
  have hc : qcap = 1000000000000000 := rfl
  obtain ⟨nd', op', en, hnd⟩ := R_laysNodes_q t h p hp o n nd op N hN
  have ec := R_crossesOfParts_q hg hr t h hp N hN
  have ev := R_costOfParts_q hg t h ht hz hp (qts t) N hN
  obtain ⟨m1, m2, m3, m4, m5, em⟩ := R_moveMany_q t h p nd' hp hnd f1 f2 f3 f4 f5 N hN
  have key := qlp_rel (body := fun x : Int32 × Int32 × Int32 × Int32 × Int32 × (Nat → Int32) × Int32 × Int32 × Int64 × Int32 =>
      R_bestMove_b28 N (qi 0) (qi (qtn t).length) x.1 x.2.1 x.2.2.1 x.2.2.2.1 x.2.2.2.2.1 all nd' op' x.2.2.2.2.2.1 sz (qi (qts t)) x.2.2.2.2.2.2.1 x.2.2.2.2.2.2.2.1 x.2.2.2.2.2.2.2.2.1 (qi (2 * (qmv t).length)) x.2.2.2.2.2.2.2.2.2)
    (Inv := fun k x => qRp t x.2.2.2.2.2.1 ∧ x.2.2.2.2.2.2 = ((qstp g t k).1, qi (qstp g t k).2.1, ql (qstp g t k).2.2, qi k)) (2 * (qmv t).length)
    (Q := fun y => qRp t y.2.2.2.2.2.1 ∧ y.2.2.2.2.2.2 = (qstp g t (2 * (qmv t).length)).1) ?_ ?_ (m1, m2, m3, m4, m5, p, Int32.ofInt (-1), qi (qcr g t), ql (qco g (qts t) t), qi 0) ⟨hp, rfl⟩ N (by omega)
  · obtain ⟨⟨g1, g2, g3, g4, g5, p', b⟩, e, q1, q2⟩ := key
    simp only at q1 q2
    subst q2
    refine ⟨qi 0, g1, g2, g3, g4, g5, nd', op', p', ?_, q1, hnd⟩
    unfold R_bestMove
    rw [en, db_some, ec, db_some, ev, db_some]
    simp only []
    rw [em, db_some]
    unfold R_bestMove_28
    simp only []
    rw [show ((-1 : Int32)) = Int32.ofInt (-1) from rfl, show (0 : Int32) = qi 0 from rfl, e]
    rfl
  · rintro k ⟨g1, g2, g3, g4, g5, p1, b1, b2, b3, b4⟩ hk ⟨hp1, hb⟩
    simp only [Prod.mk.injEq] at hp1 hb
    obtain ⟨rfl, rfl, rfl, rfl⟩ := hb
    obtain ⟨a1, a2, a3, a4, a5, e, hm⟩ := (R_isMove_q t h p1 nd' hp1 hnd g1 g2 g3 g4 g5 k (by omega) N hN).1 hk
    obtain ⟨p2, eg, hp2, p3, eb, hp3⟩ := R_goes_q t h p1 hp1 k a1 a2 a3 a4 a5 hm
    obtain ⟨k1, k2⟩ := qmk_q h hk
    have ec2 := R_crossesOfParts_q hg hr (qmk t k) k1 hp2 N hN
    have ev2 := R_costOfParts_q hg (qmk t k) k1 (by rw [k2]; exact ht) hz hp2 (qts t) N hN
    have hb := qstp_b g t h k (by omega)
    have hb2 := qcr_le g _ k1
    have hb3 := qco_le g (qts t) (qmk t k)
    have es : qstp g t (k + 1) = qstf g t (qstp g t k) k := q_frange _ _ _
    refine ⟨(a1, a2, a3, a4, a5, p3, (qstp g t (k + 1)).1, qi (qstp g t (k + 1)).2.1, ql (qstp g t (k + 1)).2.2, qi (k + 1)), ?_, hp3, rfl⟩
    rw [es]
    unfold qstf
    simp (disch := omega) only [R_bestMove_b28, R_bestMove_89, qi_le, if_neg (show ¬ 2 * (qmv t).length ≤ k by omega), e, eg, ec2, ev2, eb, dn, db_some, dk_t, qi_lit, qi_eq, qi_lt, ql_lt, qi_add, if_neg (show ¬ (1 = 0) by omega)]
    generalize qcr g (qmk t k) = C at *
    generalize qco g (qts t) (qmk t k) = V at *
    generalize qstp g t k = A at *
    by_cases h1 : C < A.2.1
    · simp [h1]
    · by_cases h2 : C = A.2.1
      · by_cases h3 : V < A.2.2 <;> simp [h2, h3]
      · simp [h1, h2]
  · rintro ⟨g1, g2, g3, g4, g5, p1, b1, b2, b3, b4⟩ ⟨hp1, hb⟩
    simp only [Prod.mk.injEq] at hp1 hb
    obtain ⟨rfl, rfl, rfl, rfl⟩ := hb
    refine ⟨(g1, g2, g3, g4, g5, p1, _), ?_, hp1, rfl⟩
    simp (disch := omega) only [R_bestMove_b28, qi_le, if_pos (Nat.le_refl _)]
theorem V_stepOf_q {g : Qg} {li ri cp : Nat → Int32} {sz : Nat → Int64} (hg : qGok g) (hS : qSets g li ri) (hz : qSz g cp sz (2 ^ qn g)) (t : Qt) (h : qtok t) (ht : qts t < 2 ^ qn g) (st pt : Nat → Int32) (hq : qat (qtn t) 0 st pt)
    (mr mj : Int32) (sp mp ms : Nat → Int32) (N : Nat) (hN : 300 < N) :
    ∃ mr' mj' sp' mp' ms', V_stepOf N (qi (qts t)) (qi (qtn t).length) pt st li ri sz mr mj sp mp ms = some ((qstp g t (2 * (qmv t).length)).1, mr', mj', sp', mp', ms') := by
  have hl := qtn_le t h
  have hml := qmv_len t h
  have hc : qcap = 1000000000000000 := rfl
  have ec := S_crossesOf_q hg hS t h ht st pt hq N hN
  have ev := S_costOf_q hg hz t h ht st pt hq (qts t) N hN
  have em : V_movesOf (qi (qtn t).length) = qi (2 * (qmv t).length) := by
    rw [hml]
    by_cases e : 2 ≤ (qtn t).length
    · simp (disch := omega) only [V_movesOf, qi_lit, qi_m1, qi_add, qi_mul, qi_and, qi_or, qi_xor, qi_not, qi_shl, qi_shr, qi_and31, qi_nat, qi_inb, qi_eq, qi_lt, qi_le, qi_sub, if_pos e]
    · have e2 : 2 * ((qtn t).length - 1) = 0 := by omega
      simp (disch := omega) only [V_movesOf, qi_lit, qi_m1, qi_add, qi_mul, qi_and, qi_or, qi_xor, qi_not, qi_shl, qi_shr, qi_and31, qi_nat, qi_inb, qi_eq, qi_lt, qi_le, qi_sub, if_neg e, e2]
  have key := qlp_rel (body := fun x : Int32 × Int32 × (Nat → Int32) × (Nat → Int32) × (Nat → Int32) × Int32 × Int32 × Int64 × Int32 =>
      V_stepOf_b29 N (qi (qts t)) (qi (qtn t).length) pt st li ri sz x.1 x.2.1 x.2.2.1 x.2.2.2.1 x.2.2.2.2.1 x.2.2.2.2.2.1 x.2.2.2.2.2.2.1 x.2.2.2.2.2.2.2.1 (qi (2 * (qmv t).length)) x.2.2.2.2.2.2.2.2)
    (Inv := fun k x => x.2.2.2.2.2 = ((qstp g t k).1, qi (qstp g t k).2.1, ql (qstp g t k).2.2, qi k)) (2 * (qmv t).length)
    (Q := fun y => y.2.2.2.2.2 = (qstp g t (2 * (qmv t).length)).1) ?_ ?_ (mr, mj, sp, mp, ms, Int32.ofInt (-1), qi (qcr g t), ql (qco g (qts t) t), qi 0) rfl N (by omega)
  · obtain ⟨⟨a1, a2, a3, a4, a5, b⟩, e, q⟩ := key
    simp only at q
    subst q
    refine ⟨a1, a2, a3, a4, a5, ?_⟩
    unfold V_stepOf
    rw [ec, db_some, ev, db_some, em]
    simp only [dn]
    unfold V_stepOf_29
    rw [show ((-1 : Int32)) = Int32.ofInt (-1) from rfl, show (0 : Int32) = qi 0 from rfl, e]
    rfl
  · rintro k ⟨a1, a2, a3, a4, a5, b1, b2, b3, b4⟩ hk hb
    simp only [Prod.mk.injEq] at hb
    obtain ⟨rfl, rfl, rfl, rfl⟩ := hb
    obtain ⟨s', p', m', e, hq', k1, k2⟩ := V_make_q t h st pt hq a1 a2 a3 a4 a5 k hk N hN
    have ec2 := S_crossesOf_q hg hS (qmk t k) k1 (by rw [k2]; exact ht) m' p' hq' N hN
    have ev2 := S_costOf_q hg hz (qmk t k) k1 (by rw [k2]; exact ht) m' p' hq' (qts t) N hN
    have hb := qstp_b g t h k (by omega)
    have hb2 := qcr_le g _ k1
    have hb3 := qco_le g (qts t) (qmk t k)
    have es : qstp g t (k + 1) = qstf g t (qstp g t k) k := q_frange _ _ _
    refine ⟨(qi (qts t), qi (qtn (qmk t k)).length, s', p', m', (qstp g t (k + 1)).1, qi (qstp g t (k + 1)).2.1, ql (qstp g t (k + 1)).2.2, qi (k + 1)), ?_, rfl⟩
    have hbet := J_isBetter_q (qcr g (qmk t k)) (qco g (qts t) (qmk t k)) (qstp g t k).2.1 (qstp g t k).2.2 (by omega) (by omega) hb3 hb.2
    rw [es]
    unfold qstf
    simp (disch := omega) only [V_stepOf_b29, qi_le, if_neg (show ¬ 2 * (qmv t).length ≤ k by omega), e, ec2, ev2, hbet, dn, db_some, dk_t, qi_lit, qb_0, qi_add]
    by_cases hh : qcr g (qmk t k) < (qstp g t k).2.1 ∨ (qcr g (qmk t k) = (qstp g t k).2.1 ∧ qco g (qts t) (qmk t k) < (qstp g t k).2.2)
    · simp only [decide_eq_true hh, reduceCtorEq, if_false, if_pos hh]
    · simp only [decide_eq_false hh, if_true, if_neg hh]
  · rintro ⟨a1, a2, a3, a4, a5, b1, b2, b3, b4⟩ hb
    simp only [Prod.mk.injEq] at hb
    obtain ⟨rfl, rfl, rfl, rfl⟩ := hb
    refine ⟨(a1, a2, a3, a4, a5, _), ?_, rfl⟩
    simp (disch := omega) only [V_stepOf_b29, qi_le, if_pos (Nat.le_refl _)]
