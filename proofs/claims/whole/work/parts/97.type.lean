def qB (x : Int64) (k : Nat) : Nat := (x.toBitVec.toNat >>> (56 - 8 * k)) % 256
theorem qB_lt (x : Int64) (k : Nat) : qB x k < 256 := Nat.mod_lt _ (by omega)
theorem q_and255 (v : Int32) : v &&& (255 : Int32) = qi (v.toBitVec.toNat % 256) := by
  apply Int32.toBitVec_inj.mp
  apply BitVec.eq_of_toNat_eq
  rw [Int32.toBitVec_and, BitVec.toNat_and, show (255 : Int32).toBitVec.toNat = 2 ^ 8 - 1 from rfl, Nat.and_two_pow_sub_one_eq_mod]
  show _ = (v.toBitVec.toNat % 256) % 2 ^ 32
  have := Nat.mod_lt v.toBitVec.toNat (show 256 > 0 by omega)
  omega
theorem q_sext {w v : Nat} (a : BitVec w) (hw : 8 ≤ w) (hv : 8 ≤ v) : (a.signExtend v).toNat % 256 = a.toNat % 256 := by
  apply Nat.eq_of_testBit_eq
  intro i
  rw [show 256 = 2 ^ 8 from rfl, Nat.testBit_mod_two_pow, Nat.testBit_mod_two_pow]
  by_cases hi : i < 8
  · rw [decide_eq_true hi, Bool.true_and, Bool.true_and, ← BitVec.getLsbD, ← BitVec.getLsbD, BitVec.getLsbD_signExtend, if_pos (by omega), decide_eq_true (by omega)]
    rfl
  · rw [decide_eq_false hi]; rfl
theorem q_sshift (a : BitVec 64) (c : Nat) (h : c ≤ 56) : (a.sshiftRight c).toNat % 256 = (a.toNat >>> c) % 256 := by
  apply Nat.eq_of_testBit_eq
  intro i
  rw [show 256 = 2 ^ 8 from rfl, Nat.testBit_mod_two_pow, Nat.testBit_mod_two_pow, Nat.testBit_shiftRight]
  by_cases hi : i < 8
  · rw [decide_eq_true hi, Bool.true_and, Bool.true_and, ← BitVec.getLsbD, BitVec.getLsbD_sshiftRight, if_pos (by omega), decide_eq_false (by omega)]
    rfl
  · rw [decide_eq_false hi]; rfl
theorem q_sh (x : Int64) (k : Nat) (hk : k < 8) : (x >>> (((56 : Int32) - ((8 : Int32) * qi k)).toInt64 &&& 63)).toBitVec = x.toBitVec.sshiftRight (56 - 8 * k) := by
  match k, hk with
  | 0, _ => rfl
  | 1, _ => rfl
  | 2, _ => rfl
  | 3, _ => rfl
  | 4, _ => rfl
  | 5, _ => rfl
  | 6, _ => rfl
  | 7, _ => rfl
  | n + 8, h => omega
theorem q_ush (x : Int64) (k : Nat) (hk : k < 8) : (x.toUInt64 >>> (((56 : Int32) - ((8 : Int32) * qi k)).toInt64.toUInt64 &&& Int64.toUInt64 63)).toBitVec = x.toBitVec >>> (56 - 8 * k) := by
  match k, hk with
  | 0, _ => rfl
  | 1, _ => rfl
  | 2, _ => rfl
  | 3, _ => rfl
  | 4, _ => rfl
  | 5, _ => rfl
  | 6, _ => rfl
  | 7, _ => rfl
  | n + 8, h => omega
theorem T_byteOf_q (x : Int64) (k : Nat) (hk : k < 8) : T_byteOf x (qi k) = qi (qB x k) := by
  unfold T_byteOf
  rw [q_and255, Int64.toBitVec_toInt32, q_sext _ (by omega) (by omega), UInt64.toBitVec_toInt64, q_ush x k hk, BitVec.toNat_ushiftRight]
  rfl
theorem q_byteR (x : Int64) (k : Nat) (hk : k < 8) : (((x >>> (((56 : Int32) - ((8 : Int32) * qi k)).toInt64 &&& 63)) &&& (255 : Int64)) = (0 : Int64)) ↔ qB x k = 0 := by
  have e : ((x >>> (((56 : Int32) - ((8 : Int32) * qi k)).toInt64 &&& 63)) &&& (255 : Int64)).toBitVec.toNat = qB x k := by
    rw [Int64.toBitVec_and, BitVec.toNat_and, show (255 : Int64).toBitVec.toNat = 2 ^ 8 - 1 from rfl, Nat.and_two_pow_sub_one_eq_mod, q_sh x k hk]
    exact q_sshift _ _ (by omega)
  constructor
  · intro h
    rw [h] at e
    exact e.symm
  · intro h
    apply Int64.toBitVec_inj.mp
    apply BitVec.eq_of_toNat_eq
    rw [e, h]
    rfl
theorem q_byteT (x : Int64) (k : Nat) (hk : k < 8) : (vp_nar .byte (((x >>> (((56 : Int32) - ((8 : Int32) * qi k)).toInt64 &&& 63)).toInt32).toInt8.toInt32)) &&& (255 : Int32) = qi (qB x k) := by
  show ((((x >>> (((56 : Int32) - ((8 : Int32) * qi k)).toInt64 &&& 63)).toInt32).toInt8.toInt32).toInt8.toInt32) &&& (255 : Int32) = _
  rw [q_and255, Int8.toBitVec_toInt32, q_sext _ (by omega) (by omega), Int32.toBitVec_toInt8, q_sext _ (by omega) (by omega), Int8.toBitVec_toInt32, q_sext _ (by omega) (by omega), Int32.toBitVec_toInt8, q_sext _ (by omega) (by omega), Int64.toBitVec_toInt32, q_sext _ (by omega) (by omega), q_sh x k hk, q_sshift _ _ (by omega)]
  rfl
theorem qB_many (x : Int64) : ∃ n, n ≤ 8 ∧ (∀ i, i < n → qB x i ≠ 0) ∧ (n < 8 → qB x n = 0) := by
  have : ∀ m, m ≤ 8 → (∀ i, i < m → qB x i ≠ 0) ∨ ∃ n, n < m ∧ (∀ i, i < n → qB x i ≠ 0) ∧ qB x n = 0 := by
    intro m
    induction m with
    | zero => intro _; exact Or.inl (fun i h => by omega)
    | succ m ih =>
      intro hm
      rcases ih (by omega) with h | ⟨n, h1, h2, h3⟩
      · by_cases c : qB x m = 0
        · exact Or.inr ⟨m, by omega, h, c⟩
        · refine Or.inl (fun i hi => ?_)
          by_cases e : i = m
          · subst e; exact c
          · exact h i (by omega)
      · exact Or.inr ⟨n, by omega, h2, h3⟩
  rcases this 8 (by omega) with h | ⟨n, h1, h2, h3⟩
  · exact ⟨8, by omega, h, fun h => by omega⟩
  · exact ⟨n, by omega, h2, fun _ => h3⟩
def qapp (b : Nat → Nat) (len : Nat) (x : Int64) : Nat → Nat := fun j => if j < len then b j else qB x (j - len)
theorem qapp_lt {b : Nat → Nat} (hb : ∀ i, b i < 256) (len : Nat) (x : Int64) : ∀ i, qapp b len x i < 256 := by
  intro i
  unfold qapp
  split
  · exact hb i
  · exact qB_lt _ _
theorem J_type_q (b : Nat → Nat) (len : Nat) (by' : Nat → Int32) (hb : qby' b len by') (x : Int64) (n : Nat) (h8 : n ≤ 8) (hn : ∀ i, i < n → qB x i ≠ 0) (hn' : n < 8 → qB x n = 0) (N : Nat) (hN : 300 < N) :
    ∃ by2, J_type N (qi len) by' x = some (if len + n ≤ 500 then (qi (len + n), qi (len + n), by2) else (-1, qi len, by')) ∧ (len + n ≤ 500 → qby' (qapp b len x) (len + n) by2) := by
  obtain ⟨h5, hb1, hb2⟩ := hb
  have l1 : lp (fun y => T_append_b2 N (qi len) by' x y) N (qi 0) = some (qi n) := by
    refine qlp_for (fun i => qi i) n (qi n) ?_ ?_ N (by omega)
    · intro i hi
      unfold T_append_b2
      rw [if_neg (show ¬ (8 : Int32) ≤ qi i from fun h => absurd ((qi_le 8 _ (by omega) (by omega)).mp h) (by omega)), T_byteOf_q x i (by omega), if_neg (show ¬ qi (qB x i) = 0 from fun h => hn i hi (qi_inj (by have := qB_lt x i; omega) (by omega) h)), q_dn, show (1 : Int32) = qi 1 from rfl, qi_add]
    · unfold T_append_b2
      by_cases c : n = 8
      · subst c; rfl
      · rw [if_neg (show ¬ (8 : Int32) ≤ qi n from fun h => absurd ((qi_le 8 _ (by omega) (by omega)).mp h) (by omega)), T_byteOf_q x n (by omega), if_pos (by rw [hn' (by omega)]; rfl)]
  unfold J_type T_append T_append_2
  rw [show (0 : Int32) = qi 0 from rfl, l1, db_some]
  unfold T_append_a2 T_append_22
  rw [show (500 : Int32) = qi 500 from rfl, qi_sub _ _ h5]
  by_cases c : len + n ≤ 500
  · rw [if_pos ((qi_le _ _ (by omega) (by omega)).mpr (by omega))]
    have key := qlp_rel (body := fun z : Int32 × (Nat → Int32) × Int32 => T_append_b39 N z.1 z.2.1 x (qi n) z.2.2)
      (Inv := fun i z => z.1 = qi (len + i) ∧ z.2.2 = qi i ∧ ∀ j, j < len + i → z.2.1 j = qi (qapp b len x j)) n
      (Q := fun y => y.1 = qi (len + n) ∧ ∀ j, j < len + n → y.2 j = qi (qapp b len x j))
      (by
        rintro i ⟨f, a, k⟩ hi ⟨rfl, rfl, k1⟩
        simp only at k1
        refine ⟨(qi (len + (i + 1)), upd a (len + i) (qi (qB x i)), qi (i + 1)), ?_, rfl, rfl, ?_⟩
        · simp (disch := omega) only [T_append_b39, T_byteOf_q x i (by omega), qi_lit, qi_m1, qi_add, qi_mul, qi_and, qi_or, qi_xor, qi_not, qi_shl, qi_shr, qi_and31, qi_nat, qi_inb, qi_eq, qi_lt, qi_le, qi_sub, dn, db_some, dk_t, if_neg (show ¬ n ≤ i by omega)]
          rw [Nat.add_assoc]
        · intro j hj
          show upd a (len + i) (qi (qB x i)) j = _
          by_cases e : j = len + i
          · subst e
            rw [upd_self]
            unfold qapp
            rw [if_neg (by omega), show len + i - len = i by omega]
          · rw [upd_ne _ _ e]; exact k1 j (by omega))
      (by
        rintro ⟨f, a, k⟩ ⟨rfl, rfl, k1⟩
        refine ⟨(qi (len + n), a), ?_, rfl, k1⟩
        simp (disch := omega) only [T_append_b39, qi_lit, qi_m1, qi_add, qi_mul, qi_and, qi_or, qi_xor, qi_not, qi_shl, qi_shr, qi_and31, qi_nat, qi_inb, qi_eq, qi_lt, qi_le, qi_sub, if_pos (Nat.le_refl n)])
      (qi len, by', qi 0) ⟨rfl, rfl, fun j hj => by
        show by' j = _
        unfold qapp
        rw [if_pos (by omega)]; exact hb2 j (by omega)⟩ N (by omega)
    obtain ⟨⟨f, a⟩, e1, rfl, e3⟩ := key
    refine ⟨a, ?_, fun _ => ⟨c, qapp_lt hb1 _ _, e3⟩⟩
    unfold T_append_39
    have e1' : lp (fun z : Int32 × (Nat → Int32) × Int32 => T_append_b39 N z.1 z.2.1 x (qi n) z.2.2) N (qi len, by', 0) = some (qi (len + n), a) := e1
    rw [e1', db_some, if_pos c]
    rfl
  · refine ⟨by', ?_, fun h => absurd h c⟩
    rw [if_neg (fun h => absurd ((qi_le n (500 - len) (by omega) (by omega)).mp h) (by omega)), if_neg c]
    rfl
theorem R_type_q (b : Nat → Nat) (len : Nat) (tx all : Nat → Int32) (hb : qtx' b len tx) (hl : all 316 = qi len) (ra : Int32) (x : Int64) (n : Nat) (h8 : n ≤ 8) (hn : ∀ i, i < n → qB x i ≠ 0) (hn' : n < 8 → qB x n = 0) (N : Nat) (hN : 300 < N) :
    ∃ a2 tx2, R_type N ra all tx x = some (if len + n ≤ 500 then (qi (len + n), 0, a2, tx2) else (-1, 0, all, tx)) ∧ (len + n ≤ 500 → qtx' (qapp b len x) (len + n) tx2 ∧ a2 316 = qi (len + n) ∧ (∀ j, j ≠ 316 → a2 j = all j) ∧ ∀ j, 500 ≤ j → tx2 j = tx j) := by
  obtain ⟨h5, hb1, hb2⟩ := hb
  have l1 : lp (fun y => R_type_b7 N 0 all tx x y) N (qi 0) = some (qi n) := by
    refine qlp_for (fun i => qi i) n (qi n) ?_ ?_ N (by omega)
    · intro i hi
      unfold R_type_b7
      rw [if_neg (show ¬ (8 : Int32) ≤ qi i from fun h => absurd ((qi_le 8 _ (by omega) (by omega)).mp h) (by omega)), if_neg (fun h => hn i hi ((q_byteR x i (by omega)).mp h)), q_dn, show (1 : Int32) = qi 1 from rfl, qi_add]
    · unfold R_type_b7
      by_cases c : n = 8
      · subst c; rfl
      · rw [if_neg (show ¬ (8 : Int32) ≤ qi n from fun h => absurd ((qi_le 8 _ (by omega) (by omega)).mp h) (by omega)), if_pos ((q_byteR x n (by omega)).mpr (hn' (by omega)))]
  unfold R_type R_type_7
  rw [show R_type_b7 N (0 : Int32) all tx x = R_type_b7 N 0 all tx x from rfl]
  have l2 : lp (fun y => R_type_b7 N 0 all tx x y) N (0 : Int32) = some (qi n) := l1
  rw [l2, db_some]
  unfold R_type_a7 R_type_37
  rw [show all (316 : Int32).toNatClampNeg = qi len from hl, qi_add]
  by_cases c : len + n ≤ 500
  · rw [if_pos (show qi (len + n) ≤ (500 : Int32) from (qi_le _ 500 (by omega) (by omega)).mpr (by omega))]
    have key := qlp_rel (body := fun z : (Nat → Int32) × (Nat → Int32) × Int32 => R_type_b58 N 0 z.1 z.2.1 x (qi n) z.2.2)
      (Inv := fun i z => z.2.2 = qi i ∧ z.1 316 = qi (len + i) ∧ (∀ j, j ≠ 316 → z.1 j = all j) ∧ (∀ j, j < len + i → z.2.1 j &&& (255 : Int32) = qi (qapp b len x j)) ∧ ∀ j, 500 ≤ j → z.2.1 j = tx j) n
      (Q := fun y => y.1 316 = qi (len + n) ∧ (∀ j, j ≠ 316 → y.1 j = all j) ∧ (∀ j, j < len + n → y.2 j &&& (255 : Int32) = qi (qapp b len x j)) ∧ ∀ j, 500 ≤ j → y.2 j = tx j)
      (by
        rintro i ⟨f, a, k⟩ hi ⟨rfl, k0, k1, k2, k3⟩
        simp only at k0 k1 k2 k3
        have k0' : f (316 : Int32).toNatClampNeg = qi (len + i) := k0
        refine ⟨(upd f 316 (qi (len + (i + 1))), upd a (len + i) (vp_nar .byte (((x >>> (((56 : Int32) - ((8 : Int32) * qi i)).toInt64 &&& 63)).toInt32).toInt8.toInt32)), qi (i + 1)), ?_, rfl, upd_self f 316 _, ?_, ?_, ?_⟩
        · unfold R_type_b58
          dsimp only
          rw [if_neg (show ¬ qi n ≤ qi i from fun h => absurd ((qi_le n i (by omega) (by omega)).mp h) (by omega)), dk_t (show inb (f (316 : Int32).toNatClampNeg) 2000 by rw [k0']; exact (qi_inb _ 2000 (by omega)).mpr (by omega)), k0', q_dn, q_dn, q_dn, qi_nat _ (by omega), show (1 : Int32) = qi 1 from rfl, qi_add, qi_add]
          rfl
        · intro j hj
          show upd f 316 _ j = _
          rw [upd_ne _ _ hj]; exact k1 j hj
        · intro j hj
          show upd a (len + i) _ j &&& _ = _
          by_cases e : j = len + i
          · subst e
            rw [upd_self, q_byteT x i (by omega)]
            unfold qapp
            rw [if_neg (by omega), show len + i - len = i by omega]
          · rw [upd_ne _ _ e]; exact k2 j (by omega)
        · intro j hj
          show upd a (len + i) _ j = _
          rw [upd_ne _ _ (by omega)]; exact k3 j hj)
      (by
        rintro ⟨f, a, k⟩ ⟨rfl, k⟩
        refine ⟨(f, a), ?_, k⟩
        unfold R_type_b58
        rw [if_pos (show qi n ≤ qi n from (qi_le n n (by omega) (by omega)).mpr (by omega))])
      (all, tx, qi 0) ⟨rfl, hl, fun _ _ => rfl, fun j hj => by
        show tx j &&& _ = _
        unfold qapp
        rw [if_pos (by omega)]; exact hb2 j (by omega), fun _ _ => rfl⟩ N (by omega)
    obtain ⟨⟨f, a⟩, e1, e2, e3, e4, e5⟩ := key
    refine ⟨f, a, ?_, fun _ => ⟨⟨c, qapp_lt hb1 _ _, e4⟩, e2, e3, e5⟩⟩
    unfold R_type_58
    have e1' : lp (fun z : (Nat → Int32) × (Nat → Int32) × Int32 => R_type_b58 N 0 z.1 z.2.1 x (qi n) z.2.2) N (all, tx, 0) = some (f, a) := e1
    rw [e1', db_some, if_pos c]
    unfold R_type_a58 R_type_107
    exact congrArg (fun v => some (v, (0 : Int32), f, a)) e2
  · refine ⟨all, tx, ?_, fun h => absurd h c⟩
    rw [if_neg (show ¬ qi (len + n) ≤ (500 : Int32) from fun h => absurd ((qi_le (len + n) 500 (by omega) (by omega)).mp h) (by omega)), if_neg c]
theorem qq_type (σ : Qσ) (s : SJ) (t : SR) (hJ : qRelJ σ s) (hR : qRelR σ t) (N : Nat) (hN : 200000 < N) (x1 : Int64) : ∃ σ', qOk σ' (sJ_type N s x1) (sR_type N t x1) := by
  obtain ⟨⟨hc, hj, hl, hb, hf, hp⟩, hh, hs, hpp, hb0, hb1, hi⟩ := id hJ
  obtain ⟨⟨rc, r1, r2, r3, r4⟩, rh, ri⟩ := id hR
  obtain ⟨n, n1, n2, n3⟩ := qB_many x1
  obtain ⟨by2, e1, e2⟩ := J_type_q _ _ _ hb x1 n n1 n2 n3 N (by omega)
  obtain ⟨a2, tx2, f1, f2⟩ := R_type_q _ _ _ _ r4 r1 (t.1 0) x1 n n1 n2 n3 N (by omega)
  by_cases c : σ.1.2.1.1 + n ≤ 500
  · rw [if_pos c] at e1 f1
    obtain ⟨g1, g2, g3, g4⟩ := f2 c
    refine qYesJ ((σ.1.1, (σ.1.2.1.1 + n, qapp σ.1.2.1.2 σ.1.2.1.1 x1), σ.1.2.2), σ.2) (qi (σ.1.2.1.1 + n)) ?_ ?_
    · unfold sJ_type
      rw [hl, e1, db_some]
      exact ⟨_, rfl, ⟨hc, hj, rfl, e2 c, hf, hp⟩, hh, hs, hpp, hb0, hb1, hi⟩
    · unfold sR_type
      rw [f1, db_some]
      exact ⟨_, rfl, ⟨qRc_c hc rc (fun j hj => g3 j (by omega)), g2, (g3 317 (by omega)).trans r2, (g3 318 (by omega)).trans r3, g1⟩, rh, qIRs_c ri (fun j hj => g3 j (by omega)) g4⟩
  · rw [if_neg c] at e1 f1
    refine qYesJ σ (-1) ?_ ?_
    · unfold sJ_type
      rw [hl, e1, db_some]
      exact ⟨_, rfl, ⟨hc, hj, rfl, hb, hf, hp⟩, hh, hs, hpp, hb0, hb1, hi⟩
    · unfold sR_type
      rw [f1, db_some]
      exact ⟨_, rfl, hR⟩
theorem qq_fault (σ : Qσ) (s : SJ) (t : SR) (hJ : qRelJ σ s) (hR : qRelR σ t) (N : Nat) (hN : 200000 < N) (x1 : Int32) : ∃ σ', qOk σ' (sJ_fault s x1) (sR_fault t x1) := by
  obtain ⟨⟨hc, hj, hl, hb, hf, hp⟩, hh, hs, hpp, hb0, hb1, hi⟩ := id hJ
  obtain ⟨⟨rc, r1, r2, r3, r4⟩, rh, ri⟩ := id hR
  by_cases c : x1 = 0
  · refine qYesJ σ σ.1.2.2.1 ?_ ?_
    · unfold sJ_fault J_fault
      rw [if_pos c, hf]
      exact ⟨_, rfl, hJ⟩
    · unfold sR_fault R_fault
      rw [if_pos c, show (t.2.1 0) (317 : Int32).toNatClampNeg = σ.1.2.2.1 from r2]
      exact ⟨_, rfl, hR⟩
  · refine qYesJ σ σ.1.2.2.2 ?_ ?_
    · unfold sJ_fault J_fault
      rw [if_neg c, hp]
      exact ⟨_, rfl, hJ⟩
    · unfold sR_fault R_fault
      rw [if_neg c, show (t.2.1 0) (318 : Int32).toNatClampNeg = σ.1.2.2.2 from r3]
      exact ⟨_, rfl, hR⟩
