theorem upd_q (f : Nat → Int32) (k : Nat) (x : Int32) (j : Nat) : upd f k x j = if j = k then x else f j := rfl
theorem updL_q (f : Nat → Int64) (k : Nat) (x : Int64) (j : Nat) : vp_updL f k x j = if j = k then x else f j := rfl
def qW (a : Nat → Int32) (s : Nat) (P : Nat → Prop) : Prop := ∃ w, w < 65536 ∧ a s = qi w ∧ ∀ e, w.testBit e = true ↔ P e
theorem qW_c {a a' : Nat → Int32} {s : Nat} {P P' : Nat → Prop} (h : qW a s P) (ha : a' s = a s) (hp : ∀ e, P e ↔ P' e) : qW a' s P' := by
  obtain ⟨w, h1, h2, h3⟩ := h
  exact ⟨w, h1, by rw [ha, h2], fun e => (h3 e).trans (hp e)⟩
def qPk (k x s : Nat) : Prop := ∀ i, (k ≤ i → x.testBit i = s.testBit i) ∧ (x.testBit i = true → s.testBit i = true)
theorem qPk_0 (x s : Nat) : qPk 0 x s ↔ x = s := by
  constructor
  · intro h
    exact Nat.eq_of_testBit_eq fun i => (h i).1 (by omega)
  · rintro rfl i
    exact ⟨fun _ => rfl, fun h => h⟩
theorem qPk_n {n x s : Nat} (hx : x < 2 ^ n) (hs : s < 2 ^ n) : qPk n x s ↔ x &&& s = x := by
  constructor
  · intro h
    exact q_sub_of fun i => (h i).2
  · intro h i
    refine ⟨fun hi => ?_, q_tb h i⟩
    rw [Nat.testBit_lt_two_pow (Nat.lt_of_lt_of_le hx (Nat.pow_le_pow_right (by omega) hi)), Nat.testBit_lt_two_pow (Nat.lt_of_lt_of_le hs (Nat.pow_le_pow_right (by omega) hi))]
theorem qPk_s0 {k x s : Nat} (h : s.testBit k = false) : qPk (k + 1) x s ↔ qPk k x s := by
  constructor
  · intro hp i
    refine ⟨fun hi => ?_, (hp i).2⟩
    by_cases e : i = k
    · subst e
      rw [h]
      have := (hp i).2
      rw [h] at this
      simpa using this
    · exact (hp i).1 (by omega)
  · intro hp i
    exact ⟨fun hi => (hp i).1 (by omega), (hp i).2⟩
theorem q_xpow (s k i : Nat) : (s ^^^ 2 ^ k).testBit i = ((s.testBit i) != decide (k = i)) := by
  rw [Nat.testBit_xor, Nat.testBit_two_pow]
theorem qPk_s1 {k x s : Nat} (h : s.testBit k = true) : qPk (k + 1) x s ↔ (qPk k x s ∨ qPk k x (s ^^^ 2 ^ k)) := by
  constructor
  · intro hp
    by_cases hx : x.testBit k = true
    · left
      intro i
      refine ⟨fun hi => ?_, (hp i).2⟩
      by_cases e : i = k
      · subst e; rw [h, hx]
      · exact (hp i).1 (by omega)
    · right
      intro i
      rw [q_xpow]
      by_cases e : i = k
      · subst e; simp [h]; simpa using hx
      · have : decide (k = i) = false := by simp; omega
        rw [this]
        simp
        exact ⟨fun hi => (hp i).1 (by omega), (hp i).2⟩
  · rintro (hp | hp) i
    · exact ⟨fun hi => (hp i).1 (by omega), (hp i).2⟩
    · have := hp i
      rw [q_xpow] at this
      by_cases e : i = k
      · subst e
        exact ⟨fun hi => absurd hi (by omega), fun _ => h⟩
      · have e2 : decide (k = i) = false := by simp; omega
        rw [e2] at this
        simp at this
        exact ⟨fun hi => this.1 (by omega), this.2⟩
theorem Y_fill_q (a : Nat → Int32) (N : Nat) (hN : 300 < N) : ∃ a', Y_fill_ints_int N a (0 : Int32) = some a' ∧ ∀ s, s < 256 → a' s = qi 0 := by
  have key := qlp_rel (body := fun x : (Nat → Int32) × Int32 => Y_fill_ints_int_b5 N x.1 (qi 0) x.2 (qi 256))
    (Inv := fun i x => x.2 = qi i ∧ ∀ s, s < i → x.1 s = qi 0) 256 (Q := fun y => ∀ s, s < 256 → y s = qi 0)
    (by
      rintro i ⟨f, x⟩ hi ⟨rfl, h⟩
      refine ⟨(upd f i (qi 0), qi (i + 1)), ?_, rfl, ?_⟩
      · simp (disch := omega) only [Y_fill_ints_int_b5, qi_lit, qi_m1, qi_add, qi_mul, qi_and, qi_or, qi_xor, qi_not, qi_shl, qi_shr, qi_and31, qi_nat, qi_inb, qi_eq, qi_lt, qi_le, qi_sub, dn, db_some, dk_t, if_neg (show ¬ 256 ≤ i by omega)]
      · intro s hs
        simp only [upd_q]
        split
        · rfl
        · exact h s (by omega))
    (by
      rintro ⟨f, x⟩ ⟨rfl, h⟩
      exact ⟨f, by simp (disch := omega) only [Y_fill_ints_int_b5, qi_lit, qi_m1, qi_add, qi_mul, qi_and, qi_or, qi_xor, qi_not, qi_shl, qi_shr, qi_and31, qi_nat, qi_inb, qi_eq, qi_lt, qi_le, qi_sub]; simp, h⟩)
    (a, qi 0) ⟨rfl, by intro s h; omega⟩ N (by omega)
  obtain ⟨y, e, q⟩ := key
  refine ⟨y, ?_, q⟩
  unfold Y_fill_ints_int Y_fill_ints_int_5
  rw [show (0 : Int32) = qi 0 from rfl, show (256 : Int32) = qi 256 from rfl, e]
  rfl
theorem q_or_lt {a b n : Nat} (ha : a < 2 ^ n) (hb : b < 2 ^ n) : a ||| b < 2 ^ n := Nat.or_lt_two_pow ha hb
theorem q_and_pow (s k : Nat) : (s &&& 2 ^ k = 0) ↔ s.testBit k = false := by
  constructor
  · intro h
    have := congrArg (fun z => z.testBit k) h
    simp at this
    exact this
  · intro h
    apply Nat.eq_of_testBit_eq
    intro i
    rw [Nat.testBit_and, Nat.testBit_two_pow]
    by_cases e : k = i
    · subst e; simp [h]
    · simp [e]
theorem S_lay_q (n m : Nat) (hn : n ≤ 8) (hm : m ≤ 16) (side : Nat → Int32) (x : Nat → Nat) (hx : ∀ e, e < m → side e = qi (x e) ∧ x e < 2 ^ n) (a : Nat → Int32) (N : Nat) (hN : 300 < N) :
    ∃ a', S_lay N side (qi n) (qi m) a (qi (2 ^ n)) = some a' ∧ ∀ s, s < 2 ^ n → qW a' s (fun e => e < m ∧ x e &&& s = x e) := by
  have hp := q_pow8 hn
  obtain ⟨a1, e1, h1⟩ := Y_fill_q a N hN
  have key1 := qlp_rel (body := fun y : (Nat → Int32) × Int32 => S_lay_b8 N side (qi n) (qi m) y.1 (qi (2 ^ n)) y.2)
    (Inv := fun i y => y.2 = qi i ∧ ∀ s, s < 256 → qW y.1 s (fun e => e < i ∧ x e = s)) m (Q := fun y => ∀ s, s < 256 → qW y s (fun e => e < m ∧ x e = s))
    (by
      rintro i ⟨f, y⟩ hi ⟨rfl, h⟩
      have ⟨hs1, hs2⟩ := hx i hi
      have ⟨w, w1, w2, w3⟩ := h (x i) (by omega)
      refine ⟨(upd f (x i) (qi (w ||| 2 ^ i)), qi (i + 1)), ?_, rfl, ?_⟩
      · simp only at w2
        simp (disch := omega) only [S_lay_b8, qi_lit, qi_m1, qi_add, qi_mul, qi_and, qi_or, qi_xor, qi_not, qi_shl, qi_shr, qi_and31, qi_nat, qi_inb, qi_eq, qi_lt, qi_le, qi_sub, dn, db_some, dk_t, if_neg (show ¬ m ≤ i by omega), hs1, w2]
      · intro s hs
        by_cases e : s = x i
        · subst e
          refine ⟨w ||| 2 ^ i, q_or_lt (n := 16) w1 (Nat.pow_lt_pow_right (by omega) (by omega)), by simp [upd_q], ?_⟩
          intro e
          rw [Nat.testBit_or, Nat.testBit_two_pow, Bool.or_eq_true, w3 e]
          simp
          constructor
          · rintro (⟨h1, h2⟩ | h1)
            · exact ⟨by omega, h2⟩
            · subst h1; exact ⟨by omega, rfl⟩
          · rintro ⟨h1, h2⟩
            by_cases h3 : i = e
            · exact .inr h3
            · exact .inl ⟨by omega, h2⟩
        · refine qW_c (h s hs) (by simp [upd_q, e]) ?_
          intro e'
          constructor
          · rintro ⟨h1, h2⟩; exact ⟨by omega, h2⟩
          · rintro ⟨h1, h2⟩
            refine ⟨?_, h2⟩
            by_cases h3 : e' = i
            · subst h3; exact absurd h2.symm e
            · omega)
    (by
      rintro ⟨f, y⟩ ⟨rfl, h⟩
      exact ⟨f, by simp (disch := omega) only [S_lay_b8, qi_lit, qi_m1, qi_add, qi_mul, qi_and, qi_or, qi_xor, qi_not, qi_shl, qi_shr, qi_and31, qi_nat, qi_inb, qi_eq, qi_lt, qi_le, qi_sub]; simp, h⟩)
    (a1, qi 0) ⟨rfl, by intro s hs; exact ⟨0, by omega, h1 s hs, by intro e; simp⟩⟩ N (by omega)
  obtain ⟨a2, e2, h2⟩ := key1
  have key2 := qlp_rel (body := fun y : (Nat → Int32) × Int32 => S_lay_b39 N side (qi n) (qi m) y.1 (qi (2 ^ n)) y.2)
    (Inv := fun k y => y.2 = qi k ∧ ∀ s, s < 2 ^ n → qW y.1 s (fun e => e < m ∧ qPk k (x e) s)) n (Q := fun y => ∀ s, s < 2 ^ n → qW y s (fun e => e < m ∧ qPk n (x e) s))
    (by
      rintro k ⟨f, y⟩ hk ⟨rfl, h⟩
      have hkn : 2 ^ k ≤ 2 ^ n := Nat.pow_le_pow_right (by omega) (by omega)
      have hk0 : 0 < 2 ^ k := Nat.two_pow_pos k
      have inner := qlp_rel (body := fun z : (Nat → Int32) × Int32 => S_lay_b58 N side (qi n) (qi m) z.1 (qi (2 ^ n)) (qi k) (qi (2 ^ k)) z.2)
        (Inv := fun j z => z.2 = qi (2 ^ k + j) ∧ ∀ s, s < 2 ^ n → qW z.1 s (fun e => e < m ∧ qPk (if s < 2 ^ k + j then k + 1 else k) (x e) s)) (2 ^ n - 2 ^ k)
        (Q := fun z => ∀ s, s < 2 ^ n → qW z s (fun e => e < m ∧ qPk (k + 1) (x e) s))
        (by
          rintro j ⟨f, z⟩ hj ⟨rfl, h⟩
          have hs : 2 ^ k + j < 2 ^ n := by omega
          generalize hsj : 2 ^ k + j = s at *
          simp only at h
          by_cases hb : s.testBit k = true
          · have hx1 : s ^^^ 2 ^ k < s := by
              have h3 : (2 ^ k) &&& s = 2 ^ k := by
                apply q_sub_of
                intro i
                rw [Nat.testBit_two_pow]
                simp
                rintro rfl
                exact hb
              have h4 := q_sub_le (q_xor_sub h3)
              have h5 : s ^^^ 2 ^ k ≠ s := by
                intro e
                have := congrArg (fun z => z.testBit k) e
                simp [hb, q_xpow] at this
              omega
            have hx2 : (s ^^^ 2 ^ k).testBit k = false := by rw [q_xpow, hb]; simp
            have hand : s &&& 2 ^ k ≠ 0 := by
              intro e
              rw [q_and_pow] at e
              rw [e] at hb
              cases hb
            have ⟨w, w1, w2, w3⟩ := h s hs
            have ⟨v, v1, v2, v3⟩ := h (s ^^^ 2 ^ k) (by omega)
            have hlt : s &&& 2 ^ k < 2147483648 := by
              have := @Nat.and_le_left s (2 ^ k)
              omega
            refine ⟨(upd f s (qi (w ||| v)), qi (s + 1)), ?_, by simp only []; congr 1; omega, ?_⟩
            · simp (disch := omega) only [S_lay_b58, qi_lit, qi_m1, qi_add, qi_mul, qi_and, qi_or, qi_xor, qi_not, qi_shl, qi_shr, qi_and31, qi_nat, qi_inb, qi_eq, qi_lt, qi_le, qi_sub, dn, db_some, dk_t, if_neg (show ¬ 2 ^ n ≤ s by omega), if_neg hand, w2, v2]
            · intro s' hs'
              by_cases e : s' = s
              · subst e
                rw [if_pos (by omega)]
                refine ⟨w ||| v, q_or_lt (n := 16) w1 v1, by simp [upd_q], ?_⟩
                intro e
                rw [Nat.testBit_or, Bool.or_eq_true, w3 e, v3 e]
                dsimp only
                rw [qPk_s1 hb, if_neg (by omega), if_pos (by omega), qPk_s0 hx2]
                constructor
                · rintro (⟨h1, h2⟩ | ⟨h1, h2⟩)
                  · exact ⟨h1, .inl h2⟩
                  · exact ⟨h1, .inr h2⟩
                · rintro ⟨h1, h2 | h2⟩
                  · exact .inl ⟨h1, h2⟩
                  · exact .inr ⟨h1, h2⟩
              · refine qW_c (h s' hs') (by simp [upd_q, e]) ?_
                intro e'
                have : (s' < 2 ^ k + (j + 1)) ↔ s' < s := by omega
                simp only [this]
          · have hb' : s.testBit k = false := by simpa using hb
            refine ⟨(f, qi (s + 1)), ?_, by simp only []; congr 1; omega, ?_⟩
            · have hand := (q_and_pow s k).mpr hb'
              simp (disch := omega) only [S_lay_b58, qi_lit, qi_m1, qi_add, qi_mul, qi_and, qi_or, qi_xor, qi_not, qi_shl, qi_shr, qi_and31, qi_nat, qi_inb, qi_eq, qi_lt, qi_le, qi_sub, dn, db_some, dk_t, if_neg (show ¬ 2 ^ n ≤ s by omega), hand, if_true]
            · intro s' hs'
              by_cases e : s' = s
              · subst e
                refine qW_c (h s' hs') rfl ?_
                intro e'
                rw [if_neg (by omega), if_pos (by omega), qPk_s0 hb']
              · refine qW_c (h s' hs') rfl ?_
                intro e'
                have : (s' < 2 ^ k + (j + 1)) ↔ s' < s := by omega
                simp only [this])
        (by
          rintro ⟨f, z⟩ ⟨hz, h⟩
          refine ⟨f, ?_, ?_⟩
          · simp only at hz
            rw [hz]
            simp (disch := omega) only [S_lay_b58, qi_lit, qi_m1, qi_add, qi_mul, qi_and, qi_or, qi_xor, qi_not, qi_shl, qi_shr, qi_and31, qi_nat, qi_inb, qi_eq, qi_lt, qi_le, qi_sub, if_pos (show 2 ^ n ≤ 2 ^ k + (2 ^ n - 2 ^ k) by omega)]
          · intro s hs
            refine qW_c (h s hs) rfl ?_
            intro e
            rw [if_pos (by omega)])
        (f, qi (2 ^ k)) ⟨rfl, by
          intro s hs
          refine qW_c (h s hs) rfl ?_
          intro e
          split
          · rw [qPk_s0 (Nat.testBit_lt_two_pow (by omega))]
          · rfl⟩ N (by omega)
      obtain ⟨f', e, q⟩ := inner
      refine ⟨(f', qi (k + 1)), ?_, rfl, q⟩
      simp (disch := omega) only [S_lay_b39, S_lay_58, S_lay_a58, S_lay_95, qi_lit, qi_m1, qi_add, qi_mul, qi_and, qi_or, qi_xor, qi_not, qi_shl, qi_shr, qi_and31, qi_nat, qi_inb, qi_eq, qi_lt, qi_le, qi_sub, dn, db_some, dk_t, if_neg (show ¬ n ≤ k by omega), e])
    (by
      rintro ⟨f, y⟩ ⟨rfl, h⟩
      exact ⟨f, by simp (disch := omega) only [S_lay_b39, qi_lit, qi_m1, qi_add, qi_mul, qi_and, qi_or, qi_xor, qi_not, qi_shl, qi_shr, qi_and31, qi_nat, qi_inb, qi_eq, qi_lt, qi_le, qi_sub]; simp, h⟩)
    (a2, qi 0) ⟨rfl, by intro s hs; exact qW_c (h2 s (by omega)) rfl (fun e => by rw [qPk_0])⟩ N (by omega)
  obtain ⟨a3, e3, h3⟩ := key2
  refine ⟨a3, ?_, ?_⟩
  · unfold S_lay S_lay_8 S_lay_a8 S_lay_36 S_lay_39 S_lay_a39 S_lay_101
    rw [e1, db_some, show (0 : Int32) = qi 0 from rfl, e2, db_some, e3, db_some]
  · intro s hs
    refine qW_c (h3 s hs) rfl ?_
    intro e
    constructor
    · rintro ⟨h1, h2⟩; exact ⟨h1, (qPk_n (hx e h1).2 hs).mp h2⟩
    · rintro ⟨h1, h2⟩; exact ⟨h1, (qPk_n (hx e h1).2 hs).mpr h2⟩
