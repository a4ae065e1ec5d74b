theorem qre_at {c : Nat → Bool} {b : Nat → Nat} {len p e : Nat} (h : qre c b len p e) (i : Nat) (hi : i < e - p) : p + i < len ∧ c (b (p + i)) = true := by
  have := h.2.1
  exact ⟨by omega, h.2.2.1 (p + i) (by omega) (by omega)⟩
theorem qwd_q (b : Nat → Nat) (s n : Nat) (hb : ∀ i, i < n → b (s + i) ≠ 0 ∧ b (s + i) < 256) :
    qwd b s n = (if n = (qWd.getD 0 []).length ∧ ∀ i, i < (qWd.getD 0 []).length → b (s + i) = (qWd.getD 0 []).getD i 0 then 6
      else if n = (qWd.getD 1 []).length ∧ ∀ i, i < (qWd.getD 1 []).length → b (s + i) = (qWd.getD 1 []).getD i 0 then 7
      else if n = (qWd.getD 2 []).length ∧ ∀ i, i < (qWd.getD 2 []).length → b (s + i) = (qWd.getD 2 []).getD i 0 then 8
      else if n = (qWd.getD 3 []).length ∧ ∀ i, i < (qWd.getD 3 []).length → b (s + i) = (qWd.getD 3 []).getD i 0 then 9 else 10) := by
  have hw : ∀ j, j < 4 → ∀ c, c ∈ qWd.getD j [] → c ≠ 0 ∧ c < 256 := by decide
  have h0 := qpk_word b s n (qWd.getD 0 []) 0x72656c6174696f6e (by decide) (hw 0 (by omega)) hb
  have h1 := qpk_word b s n (qWd.getD 1 []) 0x65646765 (by decide) (hw 1 (by omega)) hb
  have h2 := qpk_word b s n (qWd.getD 2 []) 0x6c696d6974 (by decide) (hw 2 (by omega)) hb
  have h3 := qpk_word b s n (qWd.getD 3 []) 0x6279 (by decide) (hw 3 (by omega)) hb
  have l0 : (qWd.getD 0 []).length = 8 := rfl
  have l1 : (qWd.getD 1 []).length = 4 := rfl
  have l2 : (qWd.getD 2 []).length = 5 := rfl
  have l3 : (qWd.getD 3 []).length = 2 := rfl
  unfold qwd
  by_cases c : 8 < n
  · rw [if_pos c, if_neg (fun h => by omega), if_neg (fun h => by omega), if_neg (fun h => by omega), if_neg (fun h => by omega)]
  · rw [if_neg c]
    simp only [h0, h1, h2, h3]
theorem T_readToken_q (b : Nat → Nat) (len : Nat) (by' : Nat → Int32) (hb : qby' b len by') (p k s v e : Nat) (h : qtk b len p k s v e) (kd st nu : Int32) (N : Nat) (hN : 600 < N) :
    ∃ nu', T_readToken N (qi len) kd st nu (qi p) by' = some (qi k, qi s, nu', qi e) ∧ (k = 1 → nu' = qi v) ∧ (k ≠ 1 → k ≠ 10 → nu' = nu) := by
  have hle := qtk_le h
  obtain ⟨hs, h⟩ := h
  have hsl := qre_le hs
  have hb' := hb
  obtain ⟨hb1, hb2, hb3⟩ := hb
  have key := qlp_for (body := fun x => T_readToken_b0 N (qi len) kd st nu x by') (fun i => qi (p + i)) (s - p) (qi s) ?_ ?_ N (by omega)
  · have pre : T_readToken N (qi len) kd st nu (qi p) by' = T_readToken_52 N (qi len) kd st nu (qi s) by' := by
      unfold T_readToken T_readToken_0
      rw [show qi p = qi (p + 0) from rfl, key]
      rfl
    rw [pre]
    rcases h with ⟨a, b', c⟩ | ⟨a, b', c, d, e'⟩ | ⟨a, b', c, d⟩ | ⟨a, b', c, d, e'⟩
    · subst c
      refine ⟨nu, ?_, by intro h; omega, by intro _ _; rfl⟩
      simp (disch := omega) only [T_readToken_52, qi_lt, if_neg (show ¬ e < len by omega)]
      rw [b']
      rfl
    · have hbs := hb3 s a
      have hbl := hb2 s
      have hel := qre_le c
      have key2 := qlp_for (body := fun x : Int32 × Int32 => T_readNumber_b5 N (qi len) kd (qi s) x.1 x.2 by') (fun i => (qi (qvl b s (if i ≤ 7 then i else 7)), qi (s + i))) (e - s) (qi v, qi e) ?_ ?_ N (by omega)
      · refine ⟨qi v, ?_, fun _ => rfl, ?_⟩
        · have e1 : T_readNumber N (qi len) kd (qi s) nu (qi s) by' = some (qi k, qi v, qi e) := by
            unfold T_readNumber T_readNumber_5
            rw [show ((0 : Int32), qi s) = (qi (qvl b s (if 0 ≤ 7 then 0 else 7)), qi (s + 0)) from rfl, key2, db_some]
            simp (disch := omega) only [T_readNumber_a5, T_readNumber_82, T_readNumber_103, qi_lit, qi_m1, qi_add, qi_mul, qi_and, qi_or, qi_xor, qi_not, qi_shl, qi_shr, qi_and31, qi_nat, qi_inb, qi_eq, qi_lt, qi_le, qi_sub, d]
            by_cases c7 : e - s ≤ 7
            · rw [if_pos c7, if_neg (by omega)]
            · rw [if_neg c7, if_pos (by omega)]
          simp (disch := omega) only [T_readToken_52, qi_lt, if_pos a, dn, db_some, dk_t, qi_inb, qi_nat, hbs, T_isDigit_q _ hbl, b', e1]
          rfl
        · intro h1 h2
          by_cases c7 : 7 < e - s
          · rw [if_pos c7] at d; omega
          · rw [if_neg c7] at d; omega
      · intro i hi
        have hat := qre_at c i hi
        have hbi := hb3 (s + i) hat.1
        have hbil := hb2 (s + i)
        have hdd : 48 ≤ b (s + i) ∧ b (s + i) ≤ 57 := by
          have := hat.2
          unfold qdg at this
          simpa using this
        have hv7 : ∀ n, n ≤ e - s → n ≤ 7 → qvl b s n < 10000000 := by
          intro n hn h7
          apply qvl_7 b s n h7
          intro i' hi'
          have := (qre_at c i' (by omega)).2
          unfold qdg at this
          have : 48 ≤ b (s + i') ∧ b (s + i') ≤ 57 := by simpa using this
          exact this.2
        by_cases c7 : 7 ≤ i
        · have e1 : (if i ≤ 7 then i else 7) = 7 := by split <;> omega
          have e2 : (if i + 1 ≤ 7 then i + 1 else 7) = 7 := by split <;> omega
          rw [e1, e2]
          simp (disch := omega) only [T_readNumber_b5, T_readNumber_69, qi_lit, qi_m1, qi_add, qi_mul, qi_and, qi_or, qi_xor, qi_not, qi_shl, qi_shr, qi_and31, qi_nat, qi_inb, qi_eq, qi_lt, qi_le, qi_sub, dn, db_some, dk_t, if_neg (show ¬ len ≤ s + i by omega), hbi, T_isDigit_q, hat.2, Nat.add_sub_cancel_left, if_pos c7, qb_0, reduceCtorEq, if_false]
          rfl
        · have e1 : (if i ≤ 7 then i else 7) = i := by split <;> omega
          have e2 : (if i + 1 ≤ 7 then i + 1 else 7) = i + 1 := by split <;> omega
          rw [e1, e2, qvl_s]
          simp (disch := omega) only [T_readNumber_b5, T_readNumber_69, qi_lit, qi_m1, qi_add, qi_mul, qi_and, qi_or, qi_xor, qi_not, qi_shl, qi_shr, qi_and31, qi_nat, qi_inb, qi_eq, qi_lt, qi_le, qi_sub, dn, db_some, dk_t, if_neg (show ¬ len ≤ s + i by omega), hbi, T_isDigit_q, hat.2, Nat.add_sub_cancel_left, if_neg c7, qb_0, reduceCtorEq, if_false]
          rfl
      · rw [e', show s + (e - s) = e by omega]
        rcases c.2.2.2 with ee | ee
        · simp (disch := omega) only [T_readNumber_b5, qi_lit, qi_m1, qi_add, qi_mul, qi_and, qi_or, qi_xor, qi_not, qi_shl, qi_shr, qi_and31, qi_nat, qi_inb, qi_eq, qi_lt, qi_le, qi_sub, if_pos (show len ≤ e by omega)]
        · by_cases hel' : len ≤ e
          · simp (disch := omega) only [T_readNumber_b5, qi_lit, qi_m1, qi_add, qi_mul, qi_and, qi_or, qi_xor, qi_not, qi_shl, qi_shr, qi_and31, qi_nat, qi_inb, qi_eq, qi_lt, qi_le, qi_sub, if_pos hel']
          · have hbe := hb3 e (by omega)
            have hbel := hb2 e
            simp (disch := omega) only [T_readNumber_b5, qi_lit, qi_m1, qi_add, qi_mul, qi_and, qi_or, qi_xor, qi_not, qi_shl, qi_shr, qi_and31, qi_nat, qi_inb, qi_eq, qi_lt, qi_le, qi_sub, dn, db_some, dk_t, if_neg hel', hbe, T_isDigit_q, ee, qb_0, if_true]
    · have hbs := hb3 s a
      have hbl := hb2 s
      have hel := qre_le c
      have hnd : qdg (b s) = false := by
        unfold qlw at b'
        unfold qdg
        have : 97 ≤ b s ∧ b s ≤ 122 := by simpa using b'
        simp
        omega
      have key2 := qlp_for (body := fun x => T_readWord_b0 N (qi len) kd (qi s) x by') (fun i => qi (s + i)) (e - s) (qi e) ?_ ?_ N (by omega)
      · have hbb : ∀ i, i < e - s → b (s + i) ≠ 0 ∧ b (s + i) < 256 := by
          intro i hi
          have := (qre_at c i hi).2
          unfold qlw at this
          have : 97 ≤ b (s + i) ∧ b (s + i) ≤ 122 := by simpa using this
          exact ⟨by omega, hb2 _⟩
        have w0 := T_isWord_q b len by' hb' 0 (by omega) s e (by omega) (by omega) N hN
        have w1 := T_isWord_q b len by' hb' 1 (by omega) s e (by omega) (by omega) N hN
        have w2 := T_isWord_q b len by' hb' 2 (by omega) s e (by omega) (by omega) N hN
        have w3 := T_isWord_q b len by' hb' 3 (by omega) s e (by omega) (by omega) N hN
        have hk : k ≠ 1 := by
          rw [d]; unfold qwd; split; omega; split; omega; split; omega; split; omega; split <;> omega
        refine ⟨nu, ?_, fun h => absurd h hk, fun _ _ => rfl⟩
        have e1 : T_readWord N (qi len) kd (qi s) (qi s) by' = some (qi k, qi e) := by
          unfold T_readWord T_readWord_0
          rw [show (lp (fun x => T_readWord_b0 N (qi len) kd (qi s) x by') N (qi s)) = some (qi e) from key2, db_some, d, qwd_q b s (e - s) hbb]
          unfold T_readWord_a0 T_readWord_39
          obtain ⟨d0, hd0⟩ : ∃ d : Bool, d = decide (e - s = (qWd.getD 0 []).length ∧ ∀ i, i < (qWd.getD 0 []).length → b (s + i) = (qWd.getD 0 []).getD i 0) := ⟨_, rfl⟩
          obtain ⟨d1, hd1⟩ : ∃ d : Bool, d = decide (e - s = (qWd.getD 1 []).length ∧ ∀ i, i < (qWd.getD 1 []).length → b (s + i) = (qWd.getD 1 []).getD i 0) := ⟨_, rfl⟩
          obtain ⟨d2, hd2⟩ : ∃ d : Bool, d = decide (e - s = (qWd.getD 2 []).length ∧ ∀ i, i < (qWd.getD 2 []).length → b (s + i) = (qWd.getD 2 []).getD i 0) := ⟨_, rfl⟩
          obtain ⟨d3, hd3⟩ : ∃ d : Bool, d = decide (e - s = (qWd.getD 3 []).length ∧ ∀ i, i < (qWd.getD 3 []).length → b (s + i) = (qWd.getD 3 []).getD i 0) := ⟨_, rfl⟩
          have h0 : (e - s = (qWd.getD 0 []).length ∧ ∀ i, i < (qWd.getD 0 []).length → b (s + i) = (qWd.getD 0 []).getD i 0) ↔ d0 = true := by rw [hd0]; exact (decide_eq_true_iff).symm
          have h1 : (e - s = (qWd.getD 1 []).length ∧ ∀ i, i < (qWd.getD 1 []).length → b (s + i) = (qWd.getD 1 []).getD i 0) ↔ d1 = true := by rw [hd1]; exact (decide_eq_true_iff).symm
          have h2 : (e - s = (qWd.getD 2 []).length ∧ ∀ i, i < (qWd.getD 2 []).length → b (s + i) = (qWd.getD 2 []).getD i 0) ↔ d2 = true := by rw [hd2]; exact (decide_eq_true_iff).symm
          have h3 : (e - s = (qWd.getD 3 []).length ∧ ∀ i, i < (qWd.getD 3 []).length → b (s + i) = (qWd.getD 3 []).getD i 0) ↔ d3 = true := by rw [hd3]; exact (decide_eq_true_iff).symm
          rw [← hd0] at w0
          rw [← hd1] at w1
          rw [← hd2] at w2
          rw [← hd3] at w3
          rw [w0, w1, w2, w3]
          simp only [h0, h1, h2, h3, db_some]
          clear w0 w1 w2 w3 h0 h1 h2 h3 hd0 hd1 hd2 hd3
          cases d0 <;> cases d1 <;> cases d2 <;> cases d3 <;> rfl
        simp (disch := omega) only [T_readToken_52, qi_lt, if_pos a, dn, db_some, dk_t, qi_inb, qi_nat, hbs, T_isDigit_q _ hbl, T_isLetter_q _ hbl, b', hnd, e1]
        rfl
      · intro i hi
        have hat := qre_at c i hi
        have hbi := hb3 (s + i) hat.1
        have hbil := hb2 (s + i)
        simp (disch := omega) only [T_readWord_b0, qi_lit, qi_m1, qi_add, qi_mul, qi_and, qi_or, qi_xor, qi_not, qi_shl, qi_shr, qi_and31, qi_nat, qi_inb, qi_eq, qi_lt, qi_le, qi_sub, dn, db_some, dk_t, if_neg (show ¬ len ≤ s + i by omega), hbi, T_isLetter_q, hat.2, qb_0, reduceCtorEq, if_false]
        rfl
      · rw [show s + (e - s) = e by omega]
        by_cases hel' : len ≤ e
        · simp (disch := omega) only [T_readWord_b0, qi_lit, qi_m1, qi_add, qi_mul, qi_and, qi_or, qi_xor, qi_not, qi_shl, qi_shr, qi_and31, qi_nat, qi_inb, qi_eq, qi_lt, qi_le, qi_sub, if_pos hel']
        · rcases c.2.2.2 with ee | ee
          · omega
          · have hbe := hb3 e (by omega)
            have hbel := hb2 e
            simp (disch := omega) only [T_readWord_b0, qi_lit, qi_m1, qi_add, qi_mul, qi_and, qi_or, qi_xor, qi_not, qi_shl, qi_shr, qi_and31, qi_nat, qi_inb, qi_eq, qi_lt, qi_le, qi_sub, dn, db_some, dk_t, if_neg hel', hbe, T_isLetter_q, ee, qb_0, if_true]
    · have hbs := hb3 s a
      have hbl := hb2 s
      have hk : k ≠ 1 := by
        rw [e']; unfold qsg; split; omega; split; omega; split; omega; split <;> omega
      refine ⟨nu, ?_, fun h => absurd h hk, fun _ _ => rfl⟩
      simp (disch := omega) only [T_readToken_52, qi_lit, qi_m1, qi_add, qi_mul, qi_and, qi_or, qi_xor, qi_not, qi_shl, qi_shr, qi_and31, qi_nat, qi_inb, qi_eq, qi_lt, qi_le, qi_sub, if_pos a, dn, db_some, dk_t, hbs, T_isDigit_q _ hbl, T_isLetter_q _ hbl, b', c, T_signKind_q _ hbl, qb_0, if_true]
      rw [d, e']
  · intro i hi
    have hat := qre_at hs i hi
    have hbi := hb3 (p + i) hat.1
    have hbil := hb2 (p + i)
    have hbl : b (p + i) = 32 ∨ b (p + i) = 10 := by
      have := hat.2
      unfold qbl at this
      have : b (p + i) = 10 ∨ b (p + i) = 32 := by simpa using this
      omega
    rcases hbl with hbl | hbl
    · simp (disch := omega) only [T_readToken_b0, T_readToken_39, qi_lit, qi_m1, qi_add, qi_mul, qi_and, qi_or, qi_xor, qi_not, qi_shl, qi_shr, qi_and31, qi_nat, qi_inb, qi_eq, qi_lt, qi_le, qi_sub, dn, db_some, dk_t, if_neg (show ¬ len ≤ p + i by omega), hbi, hbl, if_true]
      rfl
    · simp (disch := omega) only [T_readToken_b0, T_readToken_39, qi_lit, qi_m1, qi_add, qi_mul, qi_and, qi_or, qi_xor, qi_not, qi_shl, qi_shr, qi_and31, qi_nat, qi_inb, qi_eq, qi_lt, qi_le, qi_sub, dn, db_some, dk_t, if_neg (show ¬ len ≤ p + i by omega), hbi, hbl]
      simp
      rfl
  · rw [show p + (s - p) = s by omega]
    by_cases hel' : len ≤ s
    · simp (disch := omega) only [T_readToken_b0, qi_lit, qi_m1, qi_add, qi_mul, qi_and, qi_or, qi_xor, qi_not, qi_shl, qi_shr, qi_and31, qi_nat, qi_inb, qi_eq, qi_lt, qi_le, qi_sub, if_pos hel']
    · rcases hs.2.2.2 with ee | ee
      · omega
      · have hbe := hb3 s (by omega)
        have hbel := hb2 s
        unfold qbl at ee
        have : b s ≠ 10 ∧ b s ≠ 32 := by simpa using ee
        simp (disch := omega) only [T_readToken_b0, qi_lit, qi_m1, qi_add, qi_mul, qi_and, qi_or, qi_xor, qi_not, qi_shl, qi_shr, qi_and31, qi_nat, qi_inb, qi_eq, qi_lt, qi_le, qi_sub, dn, db_some, dk_t, if_neg hel', hbe, if_neg this.1, if_neg this.2]
