def qSets (g : Qg) (li ri : Nat → Int32) : Prop := ∀ s, s < 2 ^ qn g → qW li s (fun e => e < qm g ∧ qle g e &&& s = qle g e) ∧ qW ri s (fun e => e < qm g ∧ qri g e &&& s = qri g e)
theorem q_ne0 {w : Nat} : w ≠ 0 ↔ ∃ e, w.testBit e = true := by
  constructor
  · intro h
    exact Nat.exists_testBit_of_ne_zero h
  · rintro ⟨e, h⟩ rfl
    simp at h
theorem qsub_t {a b : Nat} : qsub a b = true ↔ a &&& b = a := by unfold qsub; simp
theorem qsub_f {a b : Nat} : qsub a b = false ↔ ¬ (a &&& b = a) := by unfold qsub; simp
theorem S_areJoined_q {g : Qg} {li ri : Nat → Int32} (hg : qGok g) (h : qSets g li ri) (a b : Nat) (ha : a < 2 ^ qn g) (hb : b < 2 ^ qn g) :
    S_areJoined li ri (qi a) (qi b) = some (qi (qjn g a b).toNat) := by
  have hp := q_pow8 hg.1
  obtain ⟨⟨w, w1, w2, w3⟩, ⟨v, v1, v2, v3⟩⟩ := h a ha
  obtain ⟨⟨w', w1', w2', w3'⟩, ⟨v', v1', v2', v3'⟩⟩ := h b hb
  have hlt : (w &&& v' ||| w' &&& v) < 2 ^ 16 := q_or_lt (Nat.lt_of_le_of_lt Nat.and_le_left w1) (Nat.lt_of_le_of_lt Nat.and_le_left w1')
  simp (disch := omega) only [S_areJoined, qi_lit, qi_m1, qi_add, qi_mul, qi_and, qi_or, qi_xor, qi_not, qi_shl, qi_shr, qi_and31, qi_nat, qi_inb, qi_eq, qi_lt, qi_le, qi_sub, dn, db_some, dk_t, w2, v2, w2', v2']
  have hiff : (w &&& v' ||| w' &&& v) ≠ 0 ↔ qjn g a b = true := by
    rw [q_ne0, qjn_t]
    constructor
    · rintro ⟨e, he⟩
      simp only [Nat.testBit_or, Nat.testBit_and, Bool.or_eq_true, Bool.and_eq_true, w3, v3, w3', v3'] at he
      refine ⟨e, ?_, ?_⟩
      · rcases he with ⟨h1, h2⟩ | ⟨h1, h2⟩ <;> exact h1.1
      · unfold qjc
        simp only [Bool.or_eq_true, Bool.and_eq_true, qsub_t]
        rcases he with ⟨h1, h2⟩ | ⟨h1, h2⟩
        · exact .inl ⟨h1.2, h2.2⟩
        · exact .inr ⟨h1.2, h2.2⟩
    · rintro ⟨e, he, hc⟩
      refine ⟨e, ?_⟩
      simp only [Nat.testBit_or, Nat.testBit_and, Bool.or_eq_true, Bool.and_eq_true, w3, v3, w3', v3']
      unfold qjc at hc
      simp only [Bool.or_eq_true, Bool.and_eq_true, qsub_t] at hc
      rcases hc with ⟨h1, h2⟩ | ⟨h1, h2⟩
      · exact .inl ⟨⟨he, h1⟩, ⟨he, h2⟩⟩
      · exact .inr ⟨⟨he, h1⟩, ⟨he, h2⟩⟩
  by_cases h0 : (w &&& v' ||| w' &&& v) = 0
  · rw [if_pos h0]
    have : qjn g a b = false := by
      rcases q_dich (qjn g a b) with h | h
      · exact h
      · exact absurd h0 (hiff.mpr h)
    rw [this]; rfl
  · rw [if_neg h0, hiff.mp h0]; rfl
def qcap : Nat := 1000000000000000
def qfr (g : Qg) (set ahead e : Nat) : Bool := qsub (qle g e ||| qri g e) set && !qsub (qle g e ||| qri g e) ahead
def qds (g : Qg) (set ahead : Nat) (v e : Nat) : Nat := if qfr g set ahead e then (if v / qby g e < 1 then 1 else v / qby g e) else v
def qdv (g : Qg) (set ahead v k : Nat) : Nat := (List.range k).foldl (qds g set ahead) v
def qmulc (g : Qg) (r v : Nat) : Nat := if qcap / qrw g r < v then qcap else v * qrw g r
def qgrow (g : Qg) (z : Nat × Bool) (ahead r : Nat) : Nat × Bool := (qdv g (ahead ||| 2 ^ r) ahead (qmulc g r z.1) (qm g), z.2 || decide (qcap / qrw g r < z.1))
def qz (g : Qg) : Nat → Nat → Nat × Bool
  | 0, _ => (1, false)
  | r + 1, s => if s.testBit r then qgrow g (qz g r s) (s % 2 ^ r) r else qz g r s
theorem qdv_b (g : Qg) (set ahead v k : Nat) (h1 : 1 ≤ v) (h2 : v ≤ qcap) : 1 ≤ qdv g set ahead v k ∧ qdv g set ahead v k ≤ qcap := by
  unfold qdv
  induction k with
  | zero => exact ⟨h1, h2⟩
  | succ k ih =>
    rw [q_frange]
    generalize (List.range k).foldl (qds g set ahead) v = u at *
    unfold qds
    have := Nat.div_le_self u (qby g k)
    have : 1 ≤ qcap := by decide
    split
    · split <;> omega
    · exact ih
theorem qmulc_b (g : Qg) (r v : Nat) (h : 1 ≤ qrw g r) (h1 : 1 ≤ v) : 1 ≤ qmulc g r v ∧ qmulc g r v ≤ qcap := by
  unfold qmulc
  split
  · decide
  · have hle : v ≤ qcap / qrw g r := by omega
    exact ⟨Nat.mul_pos (by omega) (by omega), Nat.le_trans (Nat.mul_le_mul_right _ hle) (Nat.div_mul_le_self _ _)⟩
theorem qz_b {g : Qg} (hg : qGok g) (s : Nat) : ∀ r, r ≤ qn g → 1 ≤ (qz g r s).1 ∧ (qz g r s).1 ≤ qcap := by
  intro r
  induction r with
  | zero => intro _; exact ⟨Nat.le_refl 1, show 1 ≤ qcap by decide⟩
  | succ r ih =>
    intro hr
    have h := ih (by omega)
    unfold qz
    split
    · have := qmulc_b g r (qz g r s).1 (hg.2.2.2.1 r (by omega)).1 h.1
      exact qdv_b g _ _ _ _ this.1 this.2
    · exact h
theorem q_tbd (s r : Nat) : s.testBit r = decide (s / 2 ^ r % 2 = 1) := Nat.testBit_eq_decide_div_mod_eq
theorem q_bit (s r : Nat) : (s / 2 ^ r &&& 1 = 0) ↔ s.testBit r = false := by
  rw [q_tbd, Nat.and_one_is_mod]
  have := Nat.mod_lt (s / 2 ^ r) (show 2 > 0 by omega)
  simp
theorem q_mod1 {s r : Nat} (h : s.testBit r = true) : s % 2 ^ (r + 1) = s % 2 ^ r + 2 ^ r := by
  rw [q_tbd] at h
  simp at h
  rw [Nat.mod_pow_succ, h, Nat.mul_one]
theorem q_mod0 {s r : Nat} (h : s.testBit r = false) : s % 2 ^ (r + 1) = s % 2 ^ r := by
  rw [q_tbd] at h
  simp at h
  rw [Nat.mod_pow_succ, h, Nat.mul_zero, Nat.add_zero]
theorem q_orp {a r : Nat} (h : a < 2 ^ r) : a ||| 2 ^ r = a + 2 ^ r := by
  rw [Nat.or_comm, Nat.add_comm]
  have := Nat.two_pow_add_eq_or_of_lt h 1
  simpa using this.symm
theorem qz_mod (g : Qg) : ∀ r s s', s % 2 ^ r = s' % 2 ^ r → qz g r s = qz g r s' := by
  intro r
  induction r with
  | zero => intro s s' _; rfl
  | succ r ih =>
    intro s s' h
    have hm : s % 2 ^ r = s' % 2 ^ r := by
      have h1 := congrArg (· % 2 ^ r) h
      simp only [Nat.mod_mod_of_dvd _ (Nat.pow_dvd_pow 2 (Nat.le_succ r))] at h1
      exact h1
    have hb : s.testBit r = s'.testBit r := by
      have h1 := congrArg (fun z => z.testBit r) h
      simp only [Nat.testBit_mod_two_pow] at h1
      simpa using h1
    unfold qz
    rw [ih s s' hm, hm, hb]
theorem qz_st (g : Qg) (s r : Nat) (hs : s < 2 ^ r) : ∀ d, qz g (r + d) s = qz g r s := by
  intro d
  induction d with
  | zero => rfl
  | succ d ih =>
    rw [← Nat.add_assoc]
    show (if s.testBit (r + d) then _ else _) = _
    rw [Nat.testBit_lt_two_pow (Nat.lt_of_lt_of_le hs (Nat.pow_le_pow_right (by omega) (by omega)))]
    simpa using ih
theorem vp_nar_bool (b : Bool) : vp_nar .boolean (qi b.toNat) = qi b.toNat := by cases b <;> rfl
theorem R_laysSize_q {g : Qg} {all : Nat → Int32} (hg : qGok g) (hr : qRg g all) (cp : Nat → Int32) (sz : Nat → Int64) (s : Nat) (hs : s < 256) (N : Nat) (hN : 300 < N) :
    R_laysSize N all cp sz (qi s) = some (upd cp s (qi (qz g (qn g) s).2.toNat), vp_updL sz s (ql (qz g (qn g) s).1)) := by
  have hn := hg.1
  have hm := hg.2.1
  have h9 : all 9 = qi (qm g) := hr.2.1
  have h0 : all 0 = qi (qn g) := hr.1
  have hc : qcap = 1000000000000000 := rfl
  have inner : ∀ (v : Nat) (o r till ahead : Nat), 1 ≤ v → v ≤ qcap → till < 256 → ahead < 256 →
      lp (fun x : Int64 × Int32 => R_laysSize_b117 N all cp sz (qi s) x.1 (qi o) (qi till) (qi r) (qi ahead) x.2) N (ql v, qi 0) = some (ql (qdv g till ahead v (qm g))) := by
    intro v o r till ahead h1 h2 h3 h4
    refine qlp_for (fun i => (ql (qdv g till ahead v i), qi i)) (qm g) _ ?_ ?_ N (by omega)
    · intro i hi
      have l1 := qGle hg i hi
      have l2 := qGri hg i hi
      have l3 : qle g i ||| qri g i < 2 ^ 8 := q_or_lt l1 l2
      have l4 := (hg.2.2.2.2 i hi).2.2.2.2.2
      have l5 := qdv_b g till ahead v i h1 h2
      have e : qdv g till ahead v (i + 1) = qds g till ahead (qdv g till ahead v i) i := q_frange _ _ _
      rw [e]
      generalize qdv g till ahead v i = u at *
      have l6 := Nat.div_le_self u (qby g i)
      simp (disch := omega) only [R_laysSize_b117, R_laysSize_185, qi_lit, qi_m1, qi_add, qi_mul, qi_and, qi_or, qi_xor, qi_not, qi_shl, qi_shr, qi_and31, qi_nat, qi_inb, qi_eq, qi_lt, qi_le, qi_sub, ql_lit, ql_add, ql_mul, ql_div, ql_eq, ql_lt, ql_le, ql_of, dn, db_some, dk_t, h9, if_neg (show ¬ qm g ≤ i by omega), qRl hg hr i hi, qRr hg hr i hi, qRb hg hr i hi, R_isIn_q, qb_0]
      unfold qds qfr
      rcases q_dich (qsub (qle g i ||| qri g i) till) with k1 | k1 <;> rcases q_dich (qsub (qle g i ||| qri g i) ahead) with k2 | k2 <;> simp [k1, k2]
      split <;> rfl
    · simp (disch := omega) only [R_laysSize_b117, qi_lit, qi_m1, qi_add, qi_mul, qi_and, qi_or, qi_xor, qi_not, qi_shl, qi_shr, qi_and31, qi_nat, qi_inb, qi_eq, qi_lt, qi_le, qi_sub, h9]
      simp
  have outer : lp (fun x : Int64 × Int32 × Int32 × Int32 => R_laysSize_b11 N all cp sz (qi s) x.1 x.2.1 x.2.2.1 x.2.2.2) N (ql 1, qi 0, qi 0, qi 0) = some (ql (qz g (qn g) s).1, qi (qz g (qn g) s).2.toNat) := by
    have key := qlp_for (body := fun x : Int64 × Int32 × Int32 × Int32 => R_laysSize_b11 N all cp sz (qi s) x.1 x.2.1 x.2.2.1 x.2.2.2)
      (fun r => (ql (qz g r s).1, qi (qz g r s).2.toNat, qi (s % 2 ^ r), qi r)) (qn g) (ql (qz g (qn g) s).1, qi (qz g (qn g) s).2.toNat) ?_ ?_ N (by omega)
    · simpa [qz, Nat.mod_one] using key
    · intro r hr'
      have hrow := hr.2.2.2.1 r hr'
      have hrw := hg.2.2.2.1 r hr'
      have hz := qz_b hg s r (by omega)
      have hlt : s % 2 ^ r < 2 ^ r := Nat.mod_lt _ (Nat.two_pow_pos r)
      have hp : 2 ^ r ≤ 128 := Nat.pow_le_pow_right (n := 2) (by omega) (show r ≤ 7 by omega)
      have hsr := Nat.div_le_self s (2 ^ r)
      have hand : s / 2 ^ r &&& 1 < 2147483648 := by
        have := @Nat.and_le_left (s / 2 ^ r) 1
        omega
      rcases q_dich (s.testBit r) with hb | hb
      · have hb2 := (q_bit s r).mpr hb
        rw [q_mod0 hb, show qz g (r + 1) s = qz g r s by rw [qz, hb]; rfl]
        simp (disch := omega) only [R_laysSize_b11, R_laysSize_192, qi_lit, qi_m1, qi_add, qi_mul, qi_and, qi_or, qi_xor, qi_not, qi_shl, qi_shr, qi_and31, qi_nat, qi_inb, qi_eq, qi_lt, qi_le, qi_sub, dn, db_some, dk_t, h0, if_neg (show ¬ qn g ≤ r by omega), hb2, if_true]
      · have hb2 : ¬ (s / 2 ^ r &&& 1 = 0) := by
          rw [q_bit, hb]; simp
        rw [q_mod1 hb, ← q_orp hlt, show qz g (r + 1) s = qgrow g (qz g r s) (s % 2 ^ r) r by rw [qz, hb]; rfl]
        have hor : s % 2 ^ r ||| 2 ^ r < 256 := by rw [q_orp hlt]; omega
        have hd := Nat.div_le_self qcap (qrw g r)
        have hmul := qmulc_b g r (qz g r s).1 hrw.1 hz.1
        unfold qgrow
        generalize qz g r s = z at *
        obtain ⟨v, o⟩ := z
        simp only at hz hmul ⊢
        have hd' : 1000000000000000 / qrw g r ≤ 1000000000000000 := hd
        have ho : ∀ b : Bool, b.toNat < 2147483648 := by intro b; cases b <;> decide
        have hno : ∀ b : Bool, qi b.toNat = qi 0 ∨ qi b.toNat = qi 1 := by intro b; cases b <;> simp
        have fin : ∀ (b : Bool) (v' : Nat), 1 ≤ v' → v' ≤ qcap → R_laysSize_100 N all cp sz (qi s) (qi b.toNat) (qi (s % 2 ^ r)) (qi r) (ql v') =
            some (.inl (ql (qdv g (s % 2 ^ r ||| 2 ^ r) (s % 2 ^ r) v' (qm g)), qi b.toNat, qi (s % 2 ^ r ||| 2 ^ r), qi (r + 1))) := by
          intro b v' h1 h2
          simp (disch := omega) only [R_laysSize_100, R_laysSize_117, R_laysSize_a117, R_laysSize_192, qi_lit, qi_m1, qi_add, qi_mul, qi_and, qi_or, qi_xor, qi_not, qi_shl, qi_shr, qi_and31, qi_nat, qi_inb, qi_eq, qi_lt, qi_le, qi_sub, dn, db_some, dk_t]
          rw [inner v' b.toNat r _ _ h1 h2 hor (by omega)]
          rfl
        have f1 := fin true
        have f0 := fin false
        simp only [show qi true.toNat = qi 1 from rfl, show qi false.toNat = qi 0 from rfl] at f1 f0
        unfold qmulc at hmul ⊢
        by_cases hov : qcap / qrw g r < v
        · rw [if_pos hov] at hmul ⊢
          have hov' : 1000000000000000 / qrw g r < v := hov
          simp (disch := omega) only [R_laysSize_b11, R_laysSize_58, R_laysSize_75, R_laysSize_70, qi_lit, qi_m1, qi_add, qi_mul, qi_and, qi_or, qi_xor, qi_not, qi_shl, qi_shr, qi_and31, qi_nat, qi_inb, qi_eq, qi_lt, qi_le, qi_sub, ql_of, dn, db_some, dk_t, h0, if_neg (show ¬ qn g ≤ r by omega), if_neg hb2, hrow, ql_div, ql_lit, ql_eq, ql_lt, if_pos hov', qb_0]
          rw [show (1000000000000000 : Nat) = qcap from rfl, f1 _ hmul.1 hmul.2]
          cases o <;> simp [hov]
        · rw [if_neg hov] at hmul ⊢
          have hov' : ¬ 1000000000000000 / qrw g r < v := hov
          simp (disch := omega) only [R_laysSize_b11, R_laysSize_58, R_laysSize_75, R_laysSize_70, qi_lit, qi_m1, qi_add, qi_mul, qi_and, qi_or, qi_xor, qi_not, qi_shl, qi_shr, qi_and31, qi_nat, qi_inb, qi_eq, qi_lt, qi_le, qi_sub, ql_of, dn, db_some, dk_t, h0, if_neg (show ¬ qn g ≤ r by omega), if_neg hb2, hrow, ql_div, ql_lit, ql_eq, ql_lt, ql_mul, if_neg hov', qb_0]
          rw [f1 _ hmul.1 hmul.2, f0 _ hmul.1 hmul.2]
          cases o <;> simp [hov]
    · simp (disch := omega) only [R_laysSize_b11, qi_lit, qi_m1, qi_add, qi_mul, qi_and, qi_or, qi_xor, qi_not, qi_shl, qi_shr, qi_and31, qi_nat, qi_inb, qi_eq, qi_lt, qi_le, qi_sub, h0]
      simp
  unfold R_laysSize R_laysSize_11
  rw [show ((1 : Int64), (0 : Int32), (0 : Int32), (0 : Int32)) = (ql 1, qi 0, qi 0, qi 0) from rfl, outer, db_some]
  unfold R_laysSize_a11 R_laysSize_198
  simp (disch := omega) only [qi_lit, qi_m1, qi_add, qi_mul, qi_and, qi_or, qi_xor, qi_not, qi_shl, qi_shr, qi_and31, qi_nat, qi_inb, qi_eq, qi_lt, qi_le, qi_sub, dn, db_some, dk_t, vp_nar_bool]
