theorem qks_num {k : Nat} {so si : Int32} {wo : Int64} (h : qks k so si wo) : (so = qi 3) ↔ k = 1 := by
  rcases h with ⟨rfl, rfl⟩ | ⟨rfl, rfl⟩ | ⟨rfl, rfl, rfl⟩ | ⟨rfl, rfl, rfl⟩ | ⟨rfl, rfl, rfl⟩ | ⟨rfl, rfl, rfl⟩ | ⟨rfl, rfl, rfl⟩ | ⟨rfl, rfl, rfl⟩ | ⟨rfl, rfl, rfl⟩ | ⟨rfl, rfl, rfl⟩ | ⟨rfl, rfl | ⟨rfl, _⟩⟩ <;> decide
theorem qks_end {k : Nat} {so si : Int32} {wo : Int64} (h : qks k so si wo) : (so = qi 0) ↔ k = 0 := by
  rcases h with ⟨rfl, rfl⟩ | ⟨rfl, rfl⟩ | ⟨rfl, rfl, rfl⟩ | ⟨rfl, rfl, rfl⟩ | ⟨rfl, rfl, rfl⟩ | ⟨rfl, rfl, rfl⟩ | ⟨rfl, rfl, rfl⟩ | ⟨rfl, rfl, rfl⟩ | ⟨rfl, rfl, rfl⟩ | ⟨rfl, rfl, rfl⟩ | ⟨rfl, rfl | ⟨rfl, _⟩⟩ <;> decide
theorem qks_sign {k : Nat} {so si : Int32} {wo : Int64} (h : qks k so si wo) : ((so = qi 4 ∧ si = qi 59) ↔ k = 2) ∧ ((so = qi 4 ∧ si = qi 45) ↔ k = 3) ∧ ((so = qi 4 ∧ si = qi 40) ↔ k = 4) ∧ ((so = qi 4 ∧ si = qi 41) ↔ k = 5) := by
  have n0 : ∀ n, n ≠ 4 → n < 100 → ¬ (qi n = qi 4) := fun n h1 h2 h => h1 ((qi_eq n 4 (by omega) (by omega)).mp h)
  rcases h with ⟨rfl, rfl⟩ | ⟨rfl, rfl⟩ | ⟨rfl, rfl, rfl⟩ | ⟨rfl, rfl, rfl⟩ | ⟨rfl, rfl, rfl⟩ | ⟨rfl, rfl, rfl⟩ | ⟨rfl, rfl, rfl⟩ | ⟨rfl, rfl, rfl⟩ | ⟨rfl, rfl, rfl⟩ | ⟨rfl, rfl, rfl⟩ | ⟨rfl, rfl | ⟨rfl, _⟩⟩
  · simp [n0 0]
  · simp [n0 3]
  · decide
  · decide
  · decide
  · decide
  · simp [n0 2]
  · simp [n0 2]
  · simp [n0 2]
  · simp [n0 2]
  · simp [n0 1]
  · simp [n0 2]
theorem qks_word {k : Nat} {so si : Int32} {wo : Int64} (h : qks k so si wo) : ((so = qi 2 ∧ wo = ql 0x72656c6174696f6e) ↔ k = 6) ∧ ((so = qi 2 ∧ wo = ql 0x65646765) ↔ k = 7) ∧ ((so = qi 2 ∧ wo = ql 0x6c696d6974) ↔ k = 8) ∧ ((so = qi 2 ∧ wo = ql 0x6279) ↔ k = 9) := by
  have n0 : ∀ n, n ≠ 2 → n < 100 → ¬ (qi n = qi 2) := fun n h1 h2 h => h1 ((qi_eq n 2 (by omega) (by omega)).mp h)
  rcases h with ⟨rfl, rfl⟩ | ⟨rfl, rfl⟩ | ⟨rfl, rfl, rfl⟩ | ⟨rfl, rfl, rfl⟩ | ⟨rfl, rfl, rfl⟩ | ⟨rfl, rfl, rfl⟩ | ⟨rfl, rfl, rfl⟩ | ⟨rfl, rfl, rfl⟩ | ⟨rfl, rfl, rfl⟩ | ⟨rfl, rfl, rfl⟩ | ⟨rfl, rfl | ⟨rfl, h1, h2, h3, h4⟩⟩
  · simp [n0 0]
  · simp [n0 3]
  · simp [n0 4]
  · simp [n0 4]
  · simp [n0 4]
  · simp [n0 4]
  · decide
  · decide
  · decide
  · decide
  · simp [n0 1]
  · simp [h1, h2, h3, h4]
def qAt (b : Nat → Nat) (len p : Nat) (re be so si va : Int32) (wo : Int64) : Prop := re = qi (qT b len p).2.2.2 ∧ be = qi (qT b len p).2.1 ∧ qks (qT b len p).1 so si wo ∧ ((qT b len p).1 = 1 → va = qi (qT b len p).2.2.1)
theorem R_tok_0 (b : Nat → Nat) (len : Nat) (tx : Nat → Int32) (hb : qtx' b len tx) (p : Nat) (hp : p ≤ len) (be so si va : Int32) (wo : Int64) (N : Nat) (hN : 600 < N) :
    ∃ so' si' va' wo', R_token N (qi p) (qi len) be so si va wo tx = some (qi (qT b len p).2.2.2, qi (qT b len p).2.1, so', si', va', wo') ∧ qAt b len p (qi (qT b len p).2.2.2) (qi (qT b len p).2.1) so' si' va' wo' := by
  obtain ⟨so', si', va', wo', e, q1, q2⟩ := R_token_q b len tx hb p _ _ _ _ (qT_q b len p hp) be so si va wo N hN
  exact ⟨so', si', va', wo', e, rfl, rfl, q1, q2⟩
theorem R_tok_n (b : Nat → Nat) (len : Nat) (tx : Nat → Int32) (hb : qtx' b len tx) (p : Nat) (hp : p ≤ len) {re be so si va : Int32} {wo : Int64} (h : qAt b len p re be so si va wo) (N : Nat) (hN : 600 < N) :
    ∃ so' si' va' wo', R_token N re (qi len) be so si va wo tx = some (qi (qT b len (qT b len p).2.2.2).2.2.2, qi (qT b len (qT b len p).2.2.2).2.1, so', si', va', wo') ∧ qAt b len (qT b len p).2.2.2 (qi (qT b len (qT b len p).2.2.2).2.2.2) (qi (qT b len (qT b len p).2.2.2).2.1) so' si' va' wo' := by
  have hle := qtk_le (qT_q b len p hp)
  rw [h.1]
  exact R_tok_0 b len tx hb _ (by omega) be so si va wo N hN
theorem R_in_q (v lo hi : Nat) (hv : v < 2147483648) (hl : lo < 2147483648) (hh : hi < 2147483648) : R_in (qi v).toInt64 (qi lo).toInt64 (qi hi).toInt64 = qi (decide (lo ≤ v ∧ v ≤ hi)).toNat := by
  simp (disch := omega) only [R_in, ql_of, ql_lt, qi_lit]
  by_cases a : v < lo
  · rw [if_pos a, decide_eq_false (by omega)]; rfl
  · rw [if_neg a]
    by_cases c : hi < v
    · rw [if_pos c, decide_eq_false (by omega)]; rfl
    · rw [if_neg c, decide_eq_true (by omega)]; rfl
/-- what the reference holds of the machine's state, before position p -/
def qTq (σ : Qs) (p : Nat) (bt ba : Int32) (td : Nat → Int32) : Prop :=
  (∃ n' m', n' ≤ 8 ∧ m' ≤ 16 ∧ td 0 = qi n' ∧ td 9 = qi m') ∧ (∀ j, 59 ≤ j → j < 316 → td j = qi 0) ∧ σ.1 ≤ 8 ∧ σ.2.1 ≤ 4 ∧ p ≤ 500 ∧
  ((σ.2.1 = 0 ∧ σ.2.2.1 = Int32.ofInt (-1) ∧ ba = qi 0 ∧ bt = Int32.ofInt (-1) ∧ qRg σ.2.2.2.2.2 td ∧ qMok σ.1 σ.2.2.2.1 σ.2.2.2.2.1 σ.2.2.2.2.2) ∨
   (σ.2.1 ≠ 0 ∧ ba = qi σ.2.1 ∧ ∃ a, a < p ∧ bt = qi a ∧ σ.2.2.1 = qi a))
theorem R_isBad_0 (bt : Int32) (c s : Int32) : R_isBad bt (qi 0) c s = some (s, c) := by
  unfold R_isBad
  rw [if_pos (show qi 0 = 0 from rfl)]
  rfl
theorem R_isBad_1 (a f c s : Nat) (hf : f ≠ 0) (hf4 : f ≤ 4) (has : a < s) (hs : s ≤ 500) : R_isBad (qi a) (qi f) (qi c) (qi s) = some (qi a, qi f) := by
  unfold R_isBad
  rw [if_neg (show ¬ (qi f = (0 : Int32)) from fun h => hf ((qi_eq f 0 (by omega) (by omega)).mp h)), if_neg (fun h => by have := (qi_lt s a (by omega) (by omega)).mp h; omega), if_neg (fun h => by have := (qi_eq s a (by omega) (by omega)).mp h; omega)]
theorem qTq_step {σ : Qs} {p : Nat} {bt ba : Int32} {td : Nat → Int32} (h : qTq σ p bt ba td) (k s v e : Nat) (hk : qaf σ.1 k ≠ 99) (hk10 : k ≤ 10) (hps : p ≤ s) (hse : s < e) (he : e ≤ 500) (td' : Nat → Int32)
    (hb : ∃ n' m', n' ≤ 8 ∧ m' ≤ 16 ∧ td' 0 = qi n' ∧ td' 9 = qi m') (hz : ∀ j, 59 ≤ j → j < 316 → td' j = qi 0) (cond : Bool) (c : Nat) (c0 : c ≠ 0) (c4 : c ≤ 4)
    (hc : σ.2.1 = 0 → (qab σ.1 σ.2.2.2.1 σ.2.2.2.2.1 σ.2.2.2.2.2 k v).1 = if cond then c else 0)
    (ht : σ.2.1 = 0 → cond = false → qRg (qab σ.1 σ.2.2.2.1 σ.2.2.2.2.1 σ.2.2.2.2.2 k v).2.2.2 td') :
    ∃ bt' ba', (if cond = true then R_isBad bt ba (qi c) (qi s) else some (bt, ba)) = some (bt', ba') ∧ qTq (qpas (qabs σ k s v) k) e bt' ba' td' := by
  obtain ⟨_, _, h3, h4, h5, h6⟩ := h
  have haf := (Q_after_q σ.1 k h3 hk10).2
  have haf8 : qaf σ.1 k ≤ 8 := by omega
  rcases h6 with ⟨f0, pl, rfl, rfl, hg, hM⟩ | ⟨f1, rfl, a, ha, rfl, hpl⟩
  · have ea : qabs σ k s v = (σ.1, (qab σ.1 σ.2.2.2.1 σ.2.2.2.2.1 σ.2.2.2.2.2 k v).1, if (qab σ.1 σ.2.2.2.1 σ.2.2.2.2.1 σ.2.2.2.2.2 k v).1 = 0 then Int32.ofInt (-1) else qi s, (qab σ.1 σ.2.2.2.1 σ.2.2.2.2.1 σ.2.2.2.2.2 k v).2.1, (qab σ.1 σ.2.2.2.1 σ.2.2.2.2.1 σ.2.2.2.2.2 k v).2.2.1, (qab σ.1 σ.2.2.2.1 σ.2.2.2.2.1 σ.2.2.2.2.2 k v).2.2.2) := by
      unfold qabs
      rw [if_neg (by simp [f0])]
    have hc' := hc f0
    have hst := fun hf => qMok_step (v := v) hM h3 hk hf
    have ht' := ht f0
    have hab4 := qab_4 σ.1 σ.2.2.2.1 σ.2.2.2.2.1 σ.2.2.2.2.2 k v
    rw [ea]
    generalize qab σ.1 σ.2.2.2.1 σ.2.2.2.2.1 σ.2.2.2.2.2 k v = X at *
    cases cond with
    | false =>
      have x0 : X.1 = 0 := hc'
      refine ⟨Int32.ofInt (-1), qi 0, rfl, hb, hz, haf8, hab4, he, .inl ⟨x0, ?_, rfl, rfl, ht' rfl, hst x0⟩⟩
      show (if X.1 = 0 then Int32.ofInt (-1) else qi s) = _
      rw [if_pos x0]
    | true =>
      have x1 : X.1 = c := hc'
      refine ⟨qi s, qi c, by rw [if_pos rfl]; exact R_isBad_0 _ _ _, hb, hz, haf8, hab4, he, .inr ⟨?_, ?_, s, hse, rfl, ?_⟩⟩
      · show X.1 ≠ 0; omega
      · show qi c = qi X.1; rw [x1]
      · show (if X.1 = 0 then Int32.ofInt (-1) else qi s) = _
        rw [if_neg (by omega)]
  · have ea : qabs σ k s v = σ := by
      unfold qabs
      rw [if_pos f1]
    rw [ea]
    refine ⟨qi a, qi σ.2.1, ?_, hb, hz, haf8, h4, he, .inr ⟨f1, rfl, a, by omega, rfl, hpl⟩⟩
    cases cond with
    | false => rfl
    | true =>
      rw [if_pos rfl]
      exact R_isBad_1 a σ.2.1 c s f1 h4 (by omega) (by omega)
theorem qR_form {b : Nat → Nat} {len : Nat} {σ : Qs} {p : Nat} (h : p ≤ len) (c : qaf σ.1 (qT b len p).1 = 99) : (qR b len σ p).1 = 1 ∧ (qR b len σ p).2.1 = qi (qT b len p).2.1 := by
  rw [qR_eq b len σ p h, if_pos c]
  exact ⟨rfl, rfl⟩
theorem qR_next {b : Nat → Nat} {len : Nat} {σ : Qs} {p : Nat} (h : p ≤ len) (c : qaf σ.1 (qT b len p).1 ≠ 99) (c0 : (qT b len p).1 ≠ 0) :
    qR b len σ p = qR b len (qpas (qabs σ (qT b len p).1 (qT b len p).2.1 (qT b len p).2.2.1) (qT b len p).1) (qT b len p).2.2.2 := by
  rw [qR_eq b len σ p h, if_neg c, if_neg c0]
theorem qpas_1 (σ : Qs) (k s v : Nat) : (qpas (qabs σ k s v) k).1 = qaf σ.1 k := by
  show qaf (qabs σ k s v).1 k = _
  unfold qabs
  split <;> rfl
theorem R_takes_q (b : Nat → Nat) (len : Nat) (tx : Nat → Int32) (hb : qtx' b len tx) (p : Nat) (hp : p ≤ len) {re be so si va : Int32} {wo : Int64} (h : qAt b len p re be so si va wo) (wr bt ba rd : Int32) (lo hi : Nat) (hlo : lo < 2147483648) (hhi : hi < 2147483648) (N : Nat) (hN : 600 < N) :
    ((qT b len p).1 ≠ 1 → R_takes N re (qi len) be so si va wo wr bt ba rd tx (qi lo) (qi hi) = some (qi 0, re, be, so, si, va, wo, qi (qT b len p).2.1, bt, ba, rd)) ∧
    ((qT b len p).1 = 1 → ∀ bt' ba', (if (!decide (lo ≤ (qT b len p).2.2.1 ∧ (qT b len p).2.2.1 ≤ hi)) = true then R_isBad bt ba (qi 2) (qi (qT b len p).2.1) else some (bt, ba)) = some (bt', ba') →
      ∃ re' be' so' si' va' wo', R_takes N re (qi len) be so si va wo wr bt ba rd tx (qi lo) (qi hi) = some (qi 1, re', be', so', si', va', wo', wr, bt', ba', qi (qT b len p).2.2.1) ∧ qAt b len (qT b len p).2.2.2 re' be' so' si' va' wo') := by
  have hk := qtk_k (qT_q b len p hp)
  have hnum := qks_num h.2.2.1
  constructor
  · intro k1
    unfold R_takes
    rw [if_neg (show ¬ (so = (3 : Int32)) from fun e => k1 (hnum.mp e)), h.2.1]
    exact dk_t (show (0 : Int32) &&& 1 = 0 by decide) _
  · intro k1 bt' ba' hbad
    obtain ⟨so', si', va', wo', et, hat⟩ := R_tok_n b len tx hb p hp h N hN
    refine ⟨_, _, so', si', va', wo', ?_, hat⟩
    have hso : so = (3 : Int32) := hnum.mpr k1
    have hva := h.2.2.2 k1
    have hin := R_in_q (qT b len p).2.2.1 lo hi (by have := hk.2 k1; omega) hlo hhi
    unfold R_takes
    rw [if_pos hso]
    have e45 : R_takes_45 N re (qi len) be so si va wo wr bt' ba' va tx = some (qi 1, qi (qT b len (qT b len p).2.2.2).2.2.2, qi (qT b len (qT b len p).2.2.2).2.1, so', si', va', wo', wr, bt', ba', qi (qT b len p).2.2.1) := by
      unfold R_takes_45
      rw [et, db_some, hva]
      rfl
    rw [hva] at e45 ⊢
    rw [hin]
    by_cases c : lo ≤ (qT b len p).2.2.1 ∧ (qT b len p).2.2.1 ≤ hi
    · rw [decide_eq_true c] at hbad ⊢
      rw [if_neg (by decide)] at hbad
      rw [if_neg (show ¬ (qi true.toNat = (0 : Int32)) by decide)]
      cases hbad
      exact e45
    · rw [decide_eq_false c] at hbad ⊢
      rw [if_pos (by decide)] at hbad
      rw [if_pos (show qi false.toNat = (0 : Int32) from rfl), h.2.1, show (2 : Int32) = qi 2 from rfl, hbad, db_some, ← h.2.1]
      exact e45
theorem R_takesSign_q (b : Nat → Nat) (len : Nat) (tx : Nat → Int32) (hb : qtx' b len tx) (p : Nat) (hp : p ≤ len) {re be so si va : Int32} {wo : Int64} (h : qAt b len p re be so si va wo) (wr : Int32) (c kc : Nat) (hc : (so = qi 4 ∧ si = qi c) ↔ (qT b len p).1 = kc) (N : Nat) (hN : 600 < N) :
    ((qT b len p).1 ≠ kc → R_takesSign N re (qi len) be so si va wo wr tx (qi c) = some (qi 0, re, be, so, si, va, wo, qi (qT b len p).2.1)) ∧
    ((qT b len p).1 = kc → ∃ re' be' so' si' va' wo', R_takesSign N re (qi len) be so si va wo wr tx (qi c) = some (qi 1, re', be', so', si', va', wo', wr) ∧ qAt b len (qT b len p).2.2.2 re' be' so' si' va' wo') := by
  constructor
  · intro k1
    have e16 : R_takesSign_16 N re (qi len) be so si va wo wr tx = some (qi 0, re, be, so, si, va, wo, qi (qT b len p).2.1) := by
      unfold R_takesSign_16
      rw [h.2.1]
      exact dk_t (show (0 : Int32) &&& 1 = 0 by decide) _
    unfold R_takesSign
    by_cases c4 : so = (4 : Int32)
    · rw [if_pos c4]
      rw [if_neg (fun e => k1 (hc.mp ⟨c4, e⟩))]
      exact e16
    · rw [if_neg c4]
      exact e16
  · intro k1
    obtain ⟨so', si', va', wo', et, hat⟩ := R_tok_n b len tx hb p hp h N hN
    refine ⟨_, _, so', si', va', wo', ?_, hat⟩
    have ⟨c1, c2⟩ := hc.mpr k1
    unfold R_takesSign
    rw [if_pos (show so = (4 : Int32) from c1), if_pos c2, et, db_some]
    rfl
