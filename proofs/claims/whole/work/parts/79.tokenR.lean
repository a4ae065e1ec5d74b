def qtx' (b : Nat → Nat) (len : Nat) (tx : Nat → Int32) : Prop := len ≤ 500 ∧ (∀ i, b i < 256) ∧ ∀ i, i < len → tx i &&& (255 : Int32) = qi (b i)
def qks (k : Nat) (so si : Int32) (wo : Int64) : Prop :=
  (k = 0 ∧ so = qi 0) ∨ (k = 1 ∧ so = qi 3) ∨ (k = 2 ∧ so = qi 4 ∧ si = qi 59) ∨ (k = 3 ∧ so = qi 4 ∧ si = qi 45) ∨ (k = 4 ∧ so = qi 4 ∧ si = qi 40) ∨ (k = 5 ∧ so = qi 4 ∧ si = qi 41) ∨
  (k = 6 ∧ so = qi 2 ∧ wo = ql 0x72656c6174696f6e) ∨ (k = 7 ∧ so = qi 2 ∧ wo = ql 0x65646765) ∨ (k = 8 ∧ so = qi 2 ∧ wo = ql 0x6c696d6974) ∨ (k = 9 ∧ so = qi 2 ∧ wo = ql 0x6279) ∨
  (k = 10 ∧ (so = qi 1 ∨ (so = qi 2 ∧ wo ≠ ql 0x72656c6174696f6e ∧ wo ≠ ql 0x65646765 ∧ wo ≠ ql 0x6c696d6974 ∧ wo ≠ ql 0x6279)))
theorem R_see_q (b : Nat → Nat) (len : Nat) (tx : Nat → Int32) (hb : qtx' b len tx) (p : Nat) (hp : p < 2000) : R_see (qi p) (qi len) tx = some (if len ≤ p then Int32.ofInt (-1) else qi (b p)) := by
  obtain ⟨hb1, hb2, hb3⟩ := hb
  by_cases h : len ≤ p
  · simp (disch := omega) only [R_see, qi_le, if_pos h]
    rfl
  · have := hb3 p (by omega)
    simp (disch := omega) only [R_see, qi_le, if_neg h, qi_inb, dk_t, qi_nat, this]
theorem R_in_l (x : Nat) (h : x < 256) : R_in (qi x).toInt64 97 122 = qi (qlw x).toNat := by
  have : ∀ x, x < 256 → R_in (qi x).toInt64 97 122 = qi (qlw x).toNat := by decide +kernel
  exact this x h
theorem R_in_d (x : Nat) (h : x < 256) : R_in (qi x).toInt64 48 57 = qi (qdg x).toNat := by
  have : ∀ x, x < 256 → R_in (qi x).toInt64 48 57 = qi (qdg x).toNat := by decide +kernel
  exact this x h
theorem R_in_lm : R_in (Int32.ofInt (-1)).toInt64 97 122 = qi 0 := by decide +kernel
theorem R_in_dm : R_in (Int32.ofInt (-1)).toInt64 48 57 = qi 0 := by decide +kernel
theorem ql_shl8 (w c : Nat) (hc : c < 256) : (ql w <<< ((8 : Int32).toInt64 &&& 63)) ||| ql c = ql (w * 256 + c) := by
  rw [show ((8 : Int32).toInt64 &&& 63) = (8 : Int64) by decide]
  apply Int64.toBitVec_inj.mp
  have e8 : (8 : Int64).toBitVec.smod 64 = 8#64 := by decide
  rw [Int64.toBitVec_or, Int64.toBitVec_shiftLeft, e8]
  have hw : w * 256 + c = w <<< 8 ||| c := by
    rw [← Nat.shiftLeft_add_eq_or_of_lt (i := 8) hc w, Nat.shiftLeft_eq]
  apply BitVec.eq_of_toNat_eq
  rw [hw]
  simp [ql, BitVec.toNat_shiftLeft]
  rw [Nat.shiftLeft_eq, Nat.shiftLeft_eq, Nat.mod_mul_mod]

theorem R_token_q (b : Nat → Nat) (len : Nat) (tx : Nat → Int32) (hb : qtx' b len tx) (p k s v e : Nat) (h : qtk b len p k s v e) (be so si va : Int32) (wo : Int64) (N : Nat) (hN : 600 < N) :
    ∃ so' si' va' wo', R_token N (qi p) (qi len) be so si va wo tx = some (qi e, qi s, so', si', va', wo') ∧ qks k so' si' wo' ∧ (k = 1 → va' = qi v) := by
  have hle := qtk_le h
  obtain ⟨hs, h⟩ := h
  have hsl := qre_le hs
  have hb' := hb
  obtain ⟨hb1, hb2, hb3⟩ := hb
  have see : ∀ q, q < 2000 → R_see (qi q) (qi len) tx = some (if len ≤ q then Int32.ofInt (-1) else qi (b q)) := fun q hq => R_see_q b len tx hb' q hq
  have key := qlp_for (body := fun x => R_token_b0 N x (qi len) be so si va wo tx) (fun i => qi (p + i)) (s - p) (qi s) ?_ ?_ N (by omega)
  · have pre : R_token N (qi p) (qi len) be so si va wo tx = R_token_31 N (qi s) (qi len) be so si va wo tx := by
      unfold R_token R_token_0
      rw [show qi p = qi (p + 0) from rfl, key]
      rfl
    rw [pre]
    have hsee := see s (by omega)
    rcases h with ⟨a, b', c⟩ | ⟨a, b', c, d, e'⟩ | ⟨a, b', c, d⟩ | ⟨a, b', c, d, e'⟩
    · subst c
      rw [if_pos (by omega)] at hsee
      refine ⟨qi 0, qi 0, va, ql 0, ?_, .inl ⟨b', rfl⟩, by intro h; omega⟩
      unfold R_token_31
      rw [hsee, db_some, if_neg (by decide)]
      rfl
    · rw [if_neg (by omega)] at hsee
      have hbl := hb2 s
      have hel := qre_le c
      have hnl : qlw (b s) = false := by
        unfold qdg at b'
        unfold qlw
        have : 48 ≤ b s ∧ b s ≤ 57 := by simpa using b'
        simp
        omega
      have key2 := qlp_for (body := fun x : Int32 × Int32 × Int32 => R_token_b177 N x.1 (qi len) (qi s) so (qi 0) x.2.1 (ql 0) tx x.2.2) (fun i => (qi (s + i), qi (qvl b s (if i ≤ 7 then i else 7)), qi i)) (e - s) (qi e, qi v, qi (e - s)) ?_ ?_ N (by omega)
      · refine ⟨qi (if 7 < e - s then 1 else 3), qi 0, qi v, ql 0, ?_, ?_, fun _ => rfl⟩
        · have e1 : R_token_177 N (qi s) (qi len) (qi s) so (qi 0) (qi 0) (ql 0) tx (qi 0) = some (qi e, qi s, qi (if 7 < e - s then 1 else 3), qi 0, qi v, ql 0) := by
            unfold R_token_177
            rw [show (qi s, qi 0, qi 0) = (qi (s + 0), qi (qvl b s (if 0 ≤ 7 then 0 else 7)), qi 0) from rfl, key2, db_some]
            simp (disch := omega) only [R_token_a177, R_token_242, R_token_254, qi_lit, qi_m1, qi_add, qi_mul, qi_and, qi_or, qi_xor, qi_not, qi_shl, qi_shr, qi_and31, qi_nat, qi_inb, qi_eq, qi_lt, qi_le, qi_sub]
            by_cases c7 : e - s ≤ 7
            · rw [if_pos c7, if_neg (by omega)]
            · rw [if_neg c7, if_pos (by omega)]
          unfold R_token_31
          rw [hsee, db_some, R_in_l _ hbl, R_in_d _ hbl, hnl, b', if_pos (show (0 : Int32) ≤ qi (b s) from (qi_le 0 _ (by omega) (by omega)).mpr (by omega)), if_pos (show qi false.toNat = 0 from rfl), if_neg (show ¬ (qi true.toNat = 0) by decide)]
          exact e1
        · by_cases c7 : 7 < e - s
          · rw [if_pos c7] at d ⊢
            exact .inr (.inr (.inr (.inr (.inr (.inr (.inr (.inr (.inr (.inr ⟨d, .inl rfl⟩)))))))))
          · rw [if_neg c7] at d ⊢
            exact .inr (.inl ⟨d, rfl⟩)
      · intro i hi
        have hat := qre_at c i hi
        have hbil := hb2 (s + i)
        have hsi := see (s + i) (by omega)
        rw [if_neg (by omega)] at hsi
        have hdd : 48 ≤ b (s + i) ∧ b (s + i) ≤ 57 := by
          have := hat.2
          unfold qdg at this
          simpa using this
        have pre2 : ∀ vv, R_token_b177 N (qi (s + i)) (qi len) (qi s) so (qi 0) (qi vv) (ql 0) tx (qi i) = if 7 ≤ i then some (.inl (qi (s + i + 1), qi vv, qi (i + 1))) else some (.inl (qi (s + i + 1), qi (vv * 10 + (b (s + i) - 48)), qi (i + 1))) := by
          intro vv
          unfold R_token_b177
          rw [hsi, db_some, R_in_d _ hbil, hat.2, if_neg (show ¬ (qi true.toNat = 0) by decide)]
          by_cases c7 : 7 ≤ i
          · simp (disch := omega) only [R_token_223, qi_lit, qi_m1, qi_add, qi_mul, qi_and, qi_or, qi_xor, qi_not, qi_shl, qi_shr, qi_and31, qi_nat, qi_inb, qi_eq, qi_lt, qi_le, qi_sub, dn, db_some, dk_t, if_pos c7]
          · simp (disch := omega) only [R_token_223, qi_lit, qi_m1, qi_add, qi_mul, qi_and, qi_or, qi_xor, qi_not, qi_shl, qi_shr, qi_and31, qi_nat, qi_inb, qi_eq, qi_lt, qi_le, qi_sub, dn, db_some, dk_t, if_neg c7]
            rw [show 10 * vv + b (s + i) - 48 = vv * 10 + (b (s + i) - 48) by omega]
        simp only [pre2]
        by_cases c7 : 7 ≤ i
        · have e1 : (if i ≤ 7 then i else 7) = 7 := by split <;> omega
          have e2 : (if i + 1 ≤ 7 then i + 1 else 7) = 7 := by split <;> omega
          rw [e1, e2, if_pos c7]
          rfl
        · have e1 : (if i ≤ 7 then i else 7) = i := by split <;> omega
          have e2 : (if i + 1 ≤ 7 then i + 1 else 7) = i + 1 := by split <;> omega
          rw [e1, e2, qvl_s, if_neg c7]
          rfl
      · rw [e', show s + (e - s) = e by omega]
        have hse := see e (by omega)
        unfold R_token_b177
        rw [hse, db_some]
        by_cases hel' : len ≤ e
        · rw [if_pos hel', R_in_dm]
          rfl
        · rw [if_neg hel', R_in_d _ (hb2 e)]
          rcases c.2.2.2 with ee | ee
          · omega
          · rw [ee]
            rfl
    · rw [if_neg (by omega)] at hsee
      have hbl := hb2 s
      have hel := qre_le c
      have hlw : 97 ≤ b s ∧ b s ≤ 122 := by
        unfold qlw at b'
        simpa using b'
      have key2 := qlp_rel (body := fun x : Int32 × Int64 × Int32 => R_token_b82 N x.1 (qi len) (qi s) so (qi 0) va x.2.1 tx x.2.2)
        (Inv := fun i x => x.1 = qi (s + i) ∧ x.2.2 = qi i ∧ (i ≤ 8 → x.2.1 = ql (qpk b s i))) (e - s) (Q := fun y => y.1 = qi e ∧ y.2.2 = qi (e - s) ∧ (e - s ≤ 8 → y.2.1 = ql (qpk b s (e - s)))) ?_ ?_ (qi s, ql 0, qi 0) ⟨rfl, rfl, fun _ => rfl⟩ N (by omega)
      · obtain ⟨⟨y1, y2, y3⟩, ey, q1, q2, q3⟩ := key2
        simp only at q1 q2 q3
        subst q1
        subst q2
        have e1 : R_token_82 N (qi s) (qi len) (qi s) so (qi 0) va (ql 0) tx (qi 0) = some (qi e, qi s, qi 2, qi 0, va, if e - s ≤ 8 then y2 else ql 0) := by
          unfold R_token_82
          rw [ey, db_some]
          simp (disch := omega) only [R_token_a82, R_token_132, R_token_147, qi_lit, qi_m1, qi_add, qi_mul, qi_and, qi_or, qi_xor, qi_not, qi_shl, qi_shr, qi_and31, qi_nat, qi_inb, qi_eq, qi_lt, qi_le, qi_sub]
          by_cases c8 : e - s ≤ 8
          · rw [if_pos c8, if_pos c8]
          · rw [if_neg c8, if_neg c8]
            rfl
        refine ⟨qi 2, qi 0, va, if e - s ≤ 8 then y2 else ql 0, ?_, ?_, ?_⟩
        · unfold R_token_31
          rw [hsee, db_some, R_in_l _ hbl, b', if_pos (show (0 : Int32) ≤ qi (b s) from (qi_le 0 _ (by omega) (by omega)).mpr (by omega)), if_neg (show ¬ (qi true.toNat = 0) by decide)]
          exact e1
        · have hw : ∀ W, W < 9223372036854775808 → ∀ x, x < 9223372036854775808 → (ql x = ql W ↔ x = W) := fun W hW x hx => ql_eq x W hx hW
          by_cases c8 : e - s ≤ 8
          · rw [if_pos c8, q3 c8]
            have hp8 := qpk_8 b s (e - s) c8 (by omega) hb2
            unfold qwd at d
            rw [if_neg (by omega)] at d
            generalize qpk b s (e - s) = P at *
            by_cases c0 : P = 0x72656c6174696f6e
            · rw [if_pos c0] at d
              exact .inr (.inr (.inr (.inr (.inr (.inr (.inl ⟨d, rfl, by rw [c0]⟩))))))
            · rw [if_neg c0] at d
              by_cases c1 : P = 0x65646765
              · rw [if_pos c1] at d
                exact .inr (.inr (.inr (.inr (.inr (.inr (.inr (.inl ⟨d, rfl, by rw [c1]⟩)))))))
              · rw [if_neg c1] at d
                by_cases c2 : P = 0x6c696d6974
                · rw [if_pos c2] at d
                  exact .inr (.inr (.inr (.inr (.inr (.inr (.inr (.inr (.inl ⟨d, rfl, by rw [c2]⟩))))))))
                · rw [if_neg c2] at d
                  by_cases c3 : P = 0x6279
                  · rw [if_pos c3] at d
                    exact .inr (.inr (.inr (.inr (.inr (.inr (.inr (.inr (.inr (.inl ⟨d, rfl, by rw [c3]⟩)))))))))
                  · rw [if_neg c3] at d
                    refine .inr (.inr (.inr (.inr (.inr (.inr (.inr (.inr (.inr (.inr ⟨d, .inr ⟨rfl, ?_, ?_, ?_, ?_⟩⟩)))))))))
                    · exact fun h => c0 ((hw _ (by decide) _ hp8).mp h)
                    · exact fun h => c1 ((hw _ (by decide) _ hp8).mp h)
                    · exact fun h => c2 ((hw _ (by decide) _ hp8).mp h)
                    · exact fun h => c3 ((hw _ (by decide) _ hp8).mp h)
          · rw [if_neg c8]
            unfold qwd at d
            rw [if_pos (by omega)] at d
            exact .inr (.inr (.inr (.inr (.inr (.inr (.inr (.inr (.inr (.inr ⟨d, .inr ⟨rfl, by decide, by decide, by decide, by decide⟩⟩)))))))))
        · intro h1
          exfalso
          rw [d] at h1
          unfold qwd at h1
          split at h1
          · omega
          · split at h1
            · omega
            · split at h1
              · omega
              · split at h1
                · omega
                · split at h1 <;> omega
      · rintro i ⟨x1, x2, x3⟩ hi ⟨h1, h2, h3⟩
        simp only at h1 h2 h3
        subst h1
        subst h2
        have hat := qre_at c i hi
        have hbil := hb2 (s + i)
        have hsi := see (s + i) (by omega)
        rw [if_neg (by omega)] at hsi
        refine ⟨(qi (s + i + 1), (x2 <<< ((8 : Int32).toInt64 &&& 63)) ||| ql (b (s + i)), qi (i + 1)), ?_, rfl, rfl, ?_⟩
        · unfold R_token_b82
          rw [hsi, db_some, R_in_l _ hbil, hat.2, if_neg (show ¬ (qi true.toNat = 0) by decide), db_some, ql_of _ (by omega)]
          simp only [dn]
          rw [show (1 : Int32) = qi 1 from rfl, qi_add, qi_add]
        · intro h8
          show (x2 <<< ((8 : Int32).toInt64 &&& 63)) ||| ql (b (s + i)) = _
          rw [h3 (by omega), ql_shl8 _ _ hbil, qpk_s]
      · rintro ⟨x1, x2, x3⟩ ⟨h1, h2, h3⟩
        simp only at h1 h2 h3
        rw [show s + (e - s) = e by omega] at h1
        subst h1
        subst h2
        refine ⟨(qi e, x2, qi (e - s)), ?_, rfl, rfl, h3⟩
        have hse := see e (by omega)
        unfold R_token_b82
        rw [hse, db_some]
        by_cases hel' : len ≤ e
        · rw [if_pos hel', R_in_lm]
          rfl
        · rw [if_neg hel', R_in_l _ (hb2 e)]
          rcases c.2.2.2 with ee | ee
          · omega
          · rw [ee]
            rfl
    · rw [if_neg (by omega)] at hsee
      have hbl := hb2 s
      have hp : (0 : Int32) ≤ qi (b s) := (qi_le 0 _ (by omega) (by omega)).mpr (by omega)
      have pre3 : R_token_31 N (qi s) (qi len) be so si va wo tx = (if qi (b s) = (59 : Int32) then some (qi (s + 1), qi s, qi 4, qi (b s), va, ql 0) else (if qi (b s) = (45 : Int32) then some (qi (s + 1), qi s, qi 4, qi (b s), va, ql 0) else (if qi (b s) = (40 : Int32) then some (qi (s + 1), qi s, qi 4, qi (b s), va, ql 0) else (if qi (b s) = (41 : Int32) then some (qi (s + 1), qi s, qi 4, qi (b s), va, ql 0) else some (qi (s + 1), qi s, qi 1, qi (b s), va, ql 0))))) := by
        unfold R_token_31
        rw [hsee, db_some, R_in_l _ hbl, R_in_d _ hbl, b', c, if_pos hp, if_pos (show qi false.toNat = 0 from rfl), if_pos (show qi false.toNat = 0 from rfl)]
        simp only [dn, show (1 : Int32) = qi 1 from rfl, qi_add]
        rfl
      rw [pre3, d]
      have hq : ∀ n, n < 256 → ((qi (b s) = qi n) ↔ b s = n) := fun n hn => qi_eq _ _ (by omega) (by omega)
      simp only [qi_lit, hq 59 (by omega), hq 45 (by omega), hq 40 (by omega), hq 41 (by omega)]
      unfold qsg at e'
      by_cases c40 : b s = 40
      · rw [if_pos c40] at e'
        refine ⟨qi 4, qi (b s), va, ql 0, by simp [c40], ?_, by intro h; omega⟩
        exact .inr (.inr (.inr (.inr (.inl ⟨e', rfl, by rw [c40]⟩))))
      · rw [if_neg c40] at e'
        by_cases c41 : b s = 41
        · rw [if_pos c41] at e'
          refine ⟨qi 4, qi (b s), va, ql 0, by simp [c41], ?_, by intro h; omega⟩
          exact .inr (.inr (.inr (.inr (.inr (.inl ⟨e', rfl, by rw [c41]⟩)))))
        · rw [if_neg c41] at e'
          by_cases c45 : b s = 45
          · rw [if_pos c45] at e'
            refine ⟨qi 4, qi (b s), va, ql 0, by simp [c45], ?_, by intro h; omega⟩
            exact .inr (.inr (.inr (.inl ⟨e', rfl, by rw [c45]⟩)))
          · rw [if_neg c45] at e'
            by_cases c59 : b s = 59
            · rw [if_pos c59] at e'
              refine ⟨qi 4, qi (b s), va, ql 0, by simp [c59], ?_, by intro h; omega⟩
              exact .inr (.inr (.inl ⟨e', rfl, by rw [c59]⟩))
            · rw [if_neg c59] at e'
              refine ⟨qi 1, qi (b s), va, ql 0, by simp [c40, c41, c45, c59], ?_, by intro h; omega⟩
              exact .inr (.inr (.inr (.inr (.inr (.inr (.inr (.inr (.inr (.inr ⟨e', .inl rfl⟩)))))))))
  · intro i hi
    have hat := qre_at hs i hi
    have hsi := see (p + i) (by omega)
    rw [if_neg (by omega)] at hsi
    have hbil := hb2 (p + i)
    have hbl : b (p + i) = 10 ∨ b (p + i) = 32 := by
      have := hat.2
      unfold qbl at this
      simpa using this
    unfold R_token_b0
    rw [hsi]
    simp (disch := omega) only [R_token_18, db_some, qi_lit, qi_eq, dn, qi_add]
    rcases hbl with hbl | hbl <;> simp [hbl] <;> rfl
  · rw [show p + (s - p) = s by omega]
    have hse := see s (by omega)
    unfold R_token_b0
    rw [hse]
    by_cases hel' : len ≤ s
    · rw [if_pos hel', db_some, db_some]
      rfl
    · rw [if_neg hel', db_some, db_some]
      rcases hs.2.2.2 with ee | ee
      · omega
      · have hbel := hb2 s
        unfold qbl at ee
        have : b s ≠ 10 ∧ b s ≠ 32 := by simpa using ee
        simp (disch := omega) only [qi_lit, qi_eq, if_neg this.1, if_neg this.2]
