theorem qfr_iff {g : Qg} {set ahead e : Nat} : qfr g set ahead e = true ↔ ((qle g e &&& set = qle g e ∧ qri g e &&& set = qri g e) ∧ ¬ (qle g e &&& ahead = qle g e ∧ qri g e &&& ahead = qri g e)) := by
  have hor : ∀ a b s : Nat, (a ||| b) &&& s = a ||| b ↔ (a &&& s = a ∧ b &&& s = b) := by
    intro a b s
    constructor
    · intro h
      constructor
      · apply q_sub_of
        intro i hi
        exact q_tb h i (by simp [hi])
      · apply q_sub_of
        intro i hi
        exact q_tb h i (by simp [hi])
    · rintro ⟨h1, h2⟩
      apply q_sub_of
      intro i hi
      simp at hi
      rcases hi with h | h
      · exact q_tb h1 i h
      · exact q_tb h2 i h
  unfold qfr
  simp only [Bool.and_eq_true, Bool.not_eq_true', qsub_t, qsub_f, hor]
theorem S_grow_q {g : Qg} (hg : qGok g) (rows by' li ri cp : Nat → Int32) (sz : Nat → Int64) (cnt : Nat) (hrows : ∀ r, r < qn g → rows r = qi (qrw g r)) (hby : ∀ e, e < qm g → by' e = qi (qby g e)) (hs : qSets g li ri)
    (r ahead : Nat) (hr : r < qn g) (ha : ahead < 2 ^ r) (hsz : sz ahead = ql (qz g r ahead).1) (hcp : cp ahead = qi (qz g r ahead).2.toNat) (N : Nat) (hN : 300 < N) :
    S_grow N (qi (qm g)) (qi cnt) by' rows cp li ri sz (qi ahead) (qi r) =
      some (qi (cnt + (qz g (r + 1) (ahead + 2 ^ r)).2.toNat), upd cp (ahead + 2 ^ r) (qi (qz g (r + 1) (ahead + 2 ^ r)).2.toNat), vp_updL sz (ahead + 2 ^ r) (ql (qz g (r + 1) (ahead + 2 ^ r)).1)) := by
  have hn := hg.1
  have hm := hg.2.1
  have hc : qcap = 1000000000000000 := rfl
  have hp : 2 ^ r ≤ 128 := Nat.pow_le_pow_right (n := 2) (by omega) (show r ≤ 7 by omega)
  have hrn : 2 ^ (r + 1) ≤ 2 ^ qn g := Nat.pow_le_pow_right (by omega) (by omega)
  have hr2 : 2 ^ (r + 1) = 2 * 2 ^ r := by rw [Nat.pow_succ]; omega
  have hpn := q_pow8 hn
  have hrow := hrows r hr
  have hrw := hg.2.2.2.1 r hr
  have hmodr : (ahead + 2 ^ r) % 2 ^ r = ahead := by
    rw [Nat.add_mod_right]; exact Nat.mod_eq_of_lt ha
  have hbit : (ahead + 2 ^ r).testBit r = true := by
    rw [q_tbd, Nat.add_div_right _ (Nat.two_pow_pos r), Nat.div_eq_of_lt ha]; rfl
  have hqz : qz g (r + 1) (ahead + 2 ^ r) = qgrow g (qz g r ahead) ahead r := by
    rw [qz, hbit, hmodr, qz_mod g r (ahead + 2 ^ r) ahead (by rw [hmodr, Nat.mod_eq_of_lt ha])]
    rfl
  rw [hqz]
  have hz := qz_b hg ahead r (by omega)
  have hd' : 1000000000000000 / qrw g r ≤ 1000000000000000 := Nat.div_le_self _ _
  have hmul := qmulc_b g r (qz g r ahead).1 hrw.1 hz.1
  have hor : ahead ||| 2 ^ r = ahead + 2 ^ r := q_orp ha
  unfold qgrow
  generalize qz g r ahead = z at *
  obtain ⟨v, o⟩ := z
  simp only at hz hmul hsz hcp ⊢
  obtain ⟨⟨w1, b1, e1, t1⟩, ⟨w2, b2, e2, t2⟩⟩ := hs (ahead + 2 ^ r) (by omega)
  obtain ⟨⟨w3, b3, e3, t3⟩, ⟨w4, b4, e4, t4⟩⟩ := hs ahead (by omega)
  have hmax : (if (1 : Int32) < qi (qrw g r) then qi (qrw g r) else (1 : Int32)) = qi (qrw g r) := by
    by_cases h : qrw g r = 1
    · rw [h]; rfl
    · rw [if_pos]
      rw [show (1 : Int32) = qi 1 from rfl, qi_lt _ _ (by omega) (by omega)]; omega
  have inner : ∀ (x6 : Int32) (v : Nat), 1 ≤ v → v ≤ qcap →
      lp (fun x : Int64 × Int32 => S_grow_b85 N (qi (qm g)) (qi cnt) by' rows cp li ri sz (qi ahead) (qi (ahead + 2 ^ r)) x6 x.1 (qi ((w1 &&& w2) ^^^ (w1 &&& w2 &&& (w3 &&& w4)))) x.2) N (ql v, qi 0) = some (ql (qdv g (ahead ||| 2 ^ r) ahead v (qm g))) := by
    intro x6 v h1 h2
    rw [hor]
    refine qlp_for (fun i => (ql (qdv g (ahead + 2 ^ r) ahead v i), qi i)) (qm g) _ ?_ ?_ N (by omega)
    · intro i hi
      have l4 := (hg.2.2.2.2 i hi).2.2.2.2.2
      have l5 := qdv_b g (ahead + 2 ^ r) ahead v i h1 h2
      have e : qdv g (ahead + 2 ^ r) ahead v (i + 1) = qds g (ahead + 2 ^ r) ahead (qdv g (ahead + 2 ^ r) ahead v i) i := q_frange _ _ _
      rw [e]
      generalize qdv g (ahead + 2 ^ r) ahead v i = u at *
      have l6 := Nat.div_le_self u (qby g i)
      have hbyi := hby i hi
      have hwl : (w1 &&& w2) ^^^ (w1 &&& w2 &&& (w3 &&& w4)) < 2 ^ 16 := by
        apply Nat.xor_lt_two_pow
        · exact Nat.lt_of_le_of_lt Nat.and_le_left b1
        · exact Nat.lt_of_le_of_lt Nat.and_le_left (Nat.lt_of_le_of_lt Nat.and_le_left b1)
      have hbt : ((w1 &&& w2) ^^^ (w1 &&& w2 &&& (w3 &&& w4))).testBit i = qfr g (ahead + 2 ^ r) ahead i := by
        have h1 : qfr g (ahead + 2 ^ r) ahead i = true ↔ ((w1.testBit i = true ∧ w2.testBit i = true) ∧ ¬ (w3.testBit i = true ∧ w4.testBit i = true)) := by
          rw [qfr_iff, t1 i, t2 i, t3 i, t4 i]
          simp [hi]
        rw [Bool.eq_iff_iff, h1]
        simp only [Nat.testBit_xor, Nat.testBit_and]
        cases w1.testBit i <;> cases w2.testBit i <;> cases w3.testBit i <;> cases w4.testBit i <;> simp
      generalize (w1 &&& w2) ^^^ (w1 &&& w2 &&& (w3 &&& w4)) = W at *
      have hsr := Nat.div_le_self W (2 ^ i)
      have hand : W / 2 ^ i &&& 1 < 2147483648 := by
        have := @Nat.and_le_left (W / 2 ^ i) 1
        omega
      have hmx : (if (qi 1 : Int32) < qi (qby g i) then qi (qby g i) else (qi 1 : Int32)) = qi (qby g i) := by
        by_cases h : qby g i = 1
        · rw [h]; rfl
        · rw [if_pos]
          rw [qi_lt _ _ (by omega) (by omega)]; omega
      unfold qds
      rcases q_dich (qfr g (ahead + 2 ^ r) ahead i) with k | k
      · have hb2 := (q_bit W i).mpr (hbt.trans k)
        simp (disch := omega) only [S_grow_b85, qi_lit, qi_m1, qi_add, qi_mul, qi_and, qi_or, qi_xor, qi_not, qi_shl, qi_shr, qi_and31, qi_nat, qi_inb, qi_eq, qi_lt, qi_le, qi_sub, dn, db_some, dk_t, if_neg (show ¬ qm g ≤ i by omega), hb2, if_true, k]
        simp
      · have hb2 : ¬ (W / 2 ^ i &&& 1 = 0) := by
          rw [q_bit, hbt, k]; simp
        have hif : (if 1 < qby g i then qi (qby g i) else qi 1) = qi (qby g i) := by
          by_cases h : 1 < qby g i
          · rw [if_pos h]
          · rw [if_neg h, show qby g i = 1 by omega]
        simp (disch := omega) only [S_grow_b85, qi_lit, qi_m1, qi_add, qi_mul, qi_and, qi_or, qi_xor, qi_not, qi_shl, qi_shr, qi_and31, qi_nat, qi_inb, qi_eq, qi_lt, qi_le, qi_sub, ql_lit, ql_add, ql_mul, ql_div, ql_eq, ql_lt, ql_le, ql_of, dn, db_some, dk_t, if_neg (show ¬ qm g ≤ i by omega), if_neg hb2, if_true, k, hbyi, hif]
        split <;> rfl
    · simp (disch := omega) only [S_grow_b85, qi_lit, qi_m1, qi_add, qi_mul, qi_and, qi_or, qi_xor, qi_not, qi_shl, qi_shr, qi_and31, qi_nat, qi_inb, qi_eq, qi_lt, qi_le, qi_sub]
      simp
  have fin : ∀ (x6 : Bool) (v : Nat), 1 ≤ v → v ≤ qcap → S_grow_64 N (qi (qm g)) (qi cnt) by' rows cp li ri sz (qi ahead) (qi (ahead + 2 ^ r)) (qi x6.toNat) (ql v) =
      some (qi (cnt + (o || x6).toNat), upd cp (ahead + 2 ^ r) (qi (o || x6).toNat), vp_updL sz (ahead + 2 ^ r) (ql (qdv g (ahead ||| 2 ^ r) ahead v (qm g)))) := by
    intro x6 v h1 h2
    simp (disch := omega) only [S_grow_64, S_grow_85, S_edgesIn, qi_lit, qi_m1, qi_add, qi_mul, qi_and, qi_or, qi_xor, qi_not, qi_shl, qi_shr, qi_and31, qi_nat, qi_inb, qi_eq, qi_lt, qi_le, qi_sub, dn, db_some, dk_t, e1, e2, e3, e4]
    rw [inner (qi x6.toNat) v h1 h2]
    have hne : ahead ≠ ahead + 2 ^ r := by have := Nat.two_pow_pos r; omega
    simp (disch := omega) only [S_grow_a85, S_grow_131, S_grow_160, S_grow_165, S_grow_186, qi_lit, qi_m1, qi_add, qi_mul, qi_and, qi_or, qi_xor, qi_not, qi_shl, qi_shr, qi_and31, qi_nat, qi_inb, qi_eq, qi_lt, qi_le, qi_sub, dn, db_some, dk_t, qb_0, hcp, upd_q, vp_nar_bool, show ∀ n, vp_nar FieldType.boolean (qi n) = qi n &&& 1 from fun _ => rfl]
    cases o <;> cases x6 <;> simp [show ¬ (qi 1 = qi 0) by decide]
  have f1 := fin true
  have f0 := fin false
  simp only [show qi true.toNat = qi 1 from rfl, show qi false.toNat = qi 0 from rfl] at f1 f0
  unfold qmulc at hmul ⊢
  have hmax' : (if 1 < qrw g r then qi (qrw g r) else qi 1) = qi (qrw g r) := by
    by_cases h : 1 < qrw g r
    · rw [if_pos h]
    · rw [if_neg h, show qrw g r = 1 by omega]
  by_cases hov : qcap / qrw g r < v
  · rw [if_pos hov] at hmul ⊢
    have hov' : 1000000000000000 / qrw g r < v := hov
    simp (disch := omega) only [S_grow, S_grow_41, qi_lit, qi_m1, qi_add, qi_mul, qi_and, qi_or, qi_xor, qi_not, qi_shl, qi_shr, qi_and31, qi_nat, qi_inb, qi_eq, qi_lt, qi_le, qi_sub, ql_lit, ql_add, ql_mul, ql_div, ql_eq, ql_lt, ql_le, ql_of, dn, db_some, dk_t, hor, hrow, hmax', hsz, if_pos hov']
    rw [show (1000000000000000 : Nat) = qcap from rfl, f1 _ hmul.1 hmul.2, hor]
    simp [hov]
  · rw [if_neg hov] at hmul ⊢
    have hov' : ¬ 1000000000000000 / qrw g r < v := hov
    simp (disch := omega) only [S_grow, S_grow_41, qi_lit, qi_m1, qi_add, qi_mul, qi_and, qi_or, qi_xor, qi_not, qi_shl, qi_shr, qi_and31, qi_nat, qi_inb, qi_eq, qi_lt, qi_le, qi_sub, ql_lit, ql_add, ql_mul, ql_div, ql_eq, ql_lt, ql_le, ql_of, dn, db_some, dk_t, hor, hrow, hmax', hsz, if_neg hov', if_true]
    rw [f0 _ hmul.1 hmul.2, hor]
    simp [hov]

def qsz (g : Qg) (s : Nat) : Nat := (qz g (qn g) s).1
def qcp (g : Qg) (s : Nat) : Bool := (qz g (qn g) s).2
def qcc (g : Qg) : Nat := (List.range (2 ^ qn g)).countP (qcp g)
theorem q_count_s (c : Nat → Bool) (k : Nat) : (List.range (k + 1)).countP c = (List.range k).countP c + (c k).toNat := by
  rw [List.range_succ, List.countP_append]
  cases h : c k <;> simp [h]
theorem q_count_le (c : Nat → Bool) (k : Nat) : (List.range k).countP c ≤ k := by
  have := List.countP_le_length (p := c) (l := List.range k)
  simpa using this
theorem qz_n (g : Qg) {r s : Nat} (hs : s < 2 ^ r) (hr : r ≤ qn g) : qz g (qn g) s = qz g r s := by
  have := qz_st g s r hs (qn g - r)
  rwa [show r + (qn g - r) = qn g by omega] at this
def qSz (g : Qg) (cp : Nat → Int32) (sz : Nat → Int64) (k : Nat) : Prop := ∀ s, s < k → cp s = qi (qcp g s).toNat ∧ sz s = ql (qsz g s)
theorem qSz_s {g : Qg} {cp : Nat → Int32} {sz : Nat → Int64} {k : Nat} (h : qSz g cp sz k) : qSz g (upd cp k (qi (qcp g k).toNat)) (vp_updL sz k (ql (qsz g k))) (k + 1) := by
  intro s hs
  rw [upd_q, updL_q]
  by_cases e : s = k
  · subst e; simp
  · rw [if_neg e, if_neg e]; exact h s (by omega)
theorem S_measure_q {g : Qg} (hg : qGok g) (rel edg lim : Int32) (rows left right by' li ri cp : Nat → Int32) (sz : Nat → Int64) (hj : qJg g rel edg lim rows left right by') (kn cn en : Int32) (N : Nat) (hN : 300 < N) :
    ∃ cp' li' ri' sz', S_measure N rel edg kn cn en by' left right rows cp li ri sz = some (1, qi (qcc g), qi (2 ^ qn g), cp', li', ri', sz') ∧ qSets g li' ri' ∧ qSz g cp' sz' (2 ^ qn g) := by
  have hn := hg.1
  have hm := hg.2.1
  have hpn := q_pow8 hn
  obtain ⟨rfl, rfl, rfl, hrows, hedg⟩ := hj
  obtain ⟨li', el, hl⟩ := S_lay_q (qn g) (qm g) hn hm left (qle g) (fun e he => ⟨(hedg e he).1, (hg.2.2.2.2 e he).2.1⟩) li N hN
  obtain ⟨ri', er, hr⟩ := S_lay_q (qn g) (qm g) hn hm right (qri g) (fun e he => ⟨(hedg e he).2.1, (hg.2.2.2.2 e he).2.2.2.1⟩) ri N hN
  have hS : qSets g li' ri' := fun s hs => ⟨hl s hs, hr s hs⟩
  have outer := qlp_rel (body := fun x : Int32 × (Nat → Int32) × (Nat → Int64) × Int32 => S_measure_b57 N (qi (qn g)) (qi (qm g)) kn x.1 (qi (2 ^ qn g)) by' left right rows x.2.1 li' ri' x.2.2.1 x.2.2.2)
    (Inv := fun r x => x.2.2.2 = qi r ∧ x.1 = qi ((List.range (2 ^ r)).countP (qcp g)) ∧ qSz g x.2.1 x.2.2.1 (2 ^ r)) (qn g)
    (Q := fun y => y.1 = qi (qcc g) ∧ qSz g y.2.1 y.2.2 (2 ^ qn g))
    (by
      rintro r ⟨c, cp, sz, ix⟩ hr ⟨rfl, rfl, h⟩
      simp only at h
      have hp : 2 ^ r ≤ 128 := Nat.pow_le_pow_right (n := 2) (by omega) (show r ≤ 7 by omega)
      have hr2 : 2 ^ (r + 1) = 2 * 2 ^ r := by rw [Nat.pow_succ]; omega
      have inner := qlp_rel (body := fun x : Int32 × (Nat → Int32) × (Nat → Int64) × Int32 => S_measure_b67 N (qi (qn g)) (qi (qm g)) kn x.1 (qi (2 ^ qn g)) by' left right rows x.2.1 li' ri' x.2.2.1 (qi r) x.2.2.2)
        (Inv := fun j x => x.2.2.2 = qi j ∧ x.1 = qi ((List.range (2 ^ r + j)).countP (qcp g)) ∧ qSz g x.2.1 x.2.2.1 (2 ^ r + j)) (2 ^ r)
        (Q := fun y => y.1 = qi ((List.range (2 ^ r + 2 ^ r)).countP (qcp g)) ∧ qSz g y.2.1 y.2.2 (2 ^ r + 2 ^ r))
        (by
          rintro j ⟨c, cp, sz, ix⟩ hj ⟨rfl, rfl, h⟩
          simp only at h
          have hsz := h j (by omega)
          have hst := qz_n g hj (by omega : r ≤ qn g)
          have hlt : j + 2 ^ r < 2 ^ (r + 1) := by omega
          have hst2 := qz_n g hlt (by omega : r + 1 ≤ qn g)
          have gr := S_grow_q hg rows by' li' ri' cp sz ((List.range (2 ^ r + j)).countP (qcp g)) hrows (fun e he => (hedg e he).2.2) hS r j hr hj
            (by rw [hsz.2, qsz, hst]) (by rw [hsz.1, qcp, hst]) N hN
          rw [← hst2] at gr
          refine ⟨(qi ((List.range (2 ^ r + j)).countP (qcp g) + (qcp g (2 ^ r + j)).toNat), upd cp (2 ^ r + j) (qi (qcp g (2 ^ r + j)).toNat), vp_updL sz (2 ^ r + j) (ql (qsz g (2 ^ r + j))), qi (j + 1)), ?_, rfl, ?_, ?_⟩
          · simp (disch := omega) only [S_measure_b67, qi_lit, qi_m1, qi_add, qi_mul, qi_and, qi_or, qi_xor, qi_not, qi_shl, qi_shr, qi_and31, qi_nat, qi_inb, qi_eq, qi_lt, qi_le, qi_sub, dn, db_some, dk_t, if_neg (show ¬ 2 ^ r ≤ j by omega), gr]
            rw [show j + 2 ^ r = 2 ^ r + j by omega]
            rfl
          · rw [← Nat.add_assoc, q_count_s]
          · exact qSz_s h)
        (by
          rintro ⟨c, cp, sz, ix⟩ ⟨rfl, h1, h2⟩
          exact ⟨(c, cp, sz), by simp (disch := omega) only [S_measure_b67, qi_lit, qi_m1, qi_add, qi_mul, qi_and, qi_or, qi_xor, qi_not, qi_shl, qi_shr, qi_and31, qi_nat, qi_inb, qi_eq, qi_lt, qi_le, qi_sub]; simp, h1, h2⟩)
        (qi ((List.range (2 ^ r)).countP (qcp g)), cp, sz, qi 0) ⟨rfl, rfl, h⟩ N (by omega)
      obtain ⟨⟨c', cp', sz'⟩, e, q1, q2⟩ := inner
      refine ⟨(c', cp', sz', qi (r + 1)), ?_, rfl, ?_, ?_⟩
      · simp (disch := omega) only [S_measure_b57, S_measure_67, S_measure_a67, S_measure_87, qi_lit, qi_m1, qi_add, qi_mul, qi_and, qi_or, qi_xor, qi_not, qi_shl, qi_shr, qi_and31, qi_nat, qi_inb, qi_eq, qi_lt, qi_le, qi_sub, dn, db_some, dk_t, if_neg (show ¬ qn g ≤ r by omega), e]
      · rw [hr2, show 2 * 2 ^ r = 2 ^ r + 2 ^ r by omega]; exact q1
      · rw [hr2, show 2 * 2 ^ r = 2 ^ r + 2 ^ r by omega]; exact q2)
    (by
      rintro ⟨c, cp, sz, ix⟩ ⟨rfl, h1, h2⟩
      exact ⟨(c, cp, sz), by simp (disch := omega) only [S_measure_b57, qi_lit, qi_m1, qi_add, qi_mul, qi_and, qi_or, qi_xor, qi_not, qi_shl, qi_shr, qi_and31, qi_nat, qi_inb, qi_eq, qi_lt, qi_le, qi_sub]; simp, h1, h2⟩)
    (qi 0, upd cp 0 (qi 0), vp_updL sz 0 (ql 1), qi 0)
    ⟨rfl, by
      have : qz g (qn g) 0 = (1, false) := (qz_n g (r := 0) (s := 0) (by decide) (by omega))
      simp [qcp, this], by
      have : qz g (qn g) 0 = (1, false) := (qz_n g (r := 0) (s := 0) (by decide) (by omega))
      intro s hs
      have : s = 0 := by simpa using hs
      subst this
      simp [upd_q, updL_q, qcp, qsz, this]⟩ N (by omega)
  obtain ⟨⟨c, cp', sz'⟩, e, q1, q2⟩ := outer
  refine ⟨cp', li', ri', sz', ?_, hS, q2⟩
  simp (disch := omega) only [S_measure, S_measure_57, S_measure_a57, S_measure_93, qi_lit, qi_m1, qi_add, qi_mul, qi_and, qi_or, qi_xor, qi_not, qi_shl, qi_shr, qi_and31, qi_nat, qi_inb, qi_eq, qi_lt, qi_le, qi_sub, dn, db_some, dk_t, el, er, ql_lit, show vp_nar FieldType.boolean (qi 0) = qi 0 from rfl]
  simp only at q1
  rw [e, q1]
  rfl
