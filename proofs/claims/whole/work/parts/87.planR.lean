theorem q_dn {α β : Type} (t : α) (f : α → β) : dn t f = f t := rfl
def qnj' (ws : List Qt) : Nat := ws.foldr (fun u z => (qtn u).length + z) 0
/-- what the reference holds of the plan's machine -/
def qTp (n : Nat) (τ : Qp) (p : Nat) (bt ba pi ha jo : Int32) (pl td : Nat → Int32) : Prop :=
  qDok τ.1 p ∧ τ.2.1 ≤ 4 ∧ p ≤ 500 ∧ n ≤ 8 ∧ pi = qi τ.1.sum ∧ (∀ j, j < τ.1.sum → ∃ x, x < 256 ∧ pl j = qi x) ∧ (∃ h, h < 256 ∧ ha = qi h) ∧
  ((τ.2.1 = 0 ∧ τ.2.2.1 = Int32.ofInt (-1) ∧ ba = qi 0 ∧ bt = Int32.ofInt (-1) ∧ qPok n τ.1 τ.2.2.2.1 τ.2.2.2.2 ∧ qwsr pl τ.2.2.2.1 ∧ ha = qi τ.2.2.2.2 ∧ (∀ s, s < 256 → td (60 + s) = qi (qpfs τ.2.2.2.1 s)) ∧ jo = qi (qnj' τ.2.2.2.1)) ∨
   (τ.2.1 ≠ 0 ∧ ba = qi τ.2.1 ∧ ∃ a, a < p ∧ bt = qi a ∧ τ.2.2.1 = qi a))
def qopr (op : Nat → Int32) : List Nat → Prop
  | [] => True
  | c :: cs => (cs ≠ [] → op (cs.length - 1) = qi c) ∧ qopr op cs
theorem qopr_f {op op' : Nat → Int32} : ∀ l, qopr op l → (∀ i, i + 1 < l.length → op' i = op i) → qopr op' l := by
  intro l
  induction l with
  | nil => intro _ _; trivial
  | cons c l ih =>
    rintro ⟨h1, h2⟩ e
    refine ⟨?_, ih h2 (fun i hi => e i (by simp; omega))⟩
    intro hne
    have hl : 0 < l.length := List.length_pos_iff.mpr hne
    rw [e _ (by simp; omega)]
    exact h1 hne
theorem qPR_form {b : Nat → Nat} {len n : Nat} {τ : Qp} {p : Nat} (h : p ≤ len) (c : qcs τ.1 (qT b len p).1 = false) : (qPR b len n τ p).1 = 1 ∧ (qPR b len n τ p).2.1 = qi (qT b len p).2.1 := by
  rw [qPR_eq b len n τ p h, if_pos c]
  exact ⟨rfl, rfl⟩
theorem qPR_next {b : Nat → Nat} {len n : Nat} {τ : Qp} {p : Nat} (h : p ≤ len) (c : qcs τ.1 (qT b len p).1 = true) (c0 : (qT b len p).1 ≠ 0) :
    qPR b len n τ p = qPR b len n (qpgo (qpab n τ (qT b len p).1 (qT b len p).2.1 (qT b len p).2.2.1) (qT b len p).1) (qT b len p).2.2.2 := by
  rw [qPR_eq b len n τ p h, if_neg (by rw [c]; decide), if_neg c0]
theorem qpab_1 (n : Nat) (τ : Qp) (k s v : Nat) : (qpab n τ k s v).1 = τ.1 := by
  unfold qpab
  split <;> rfl
theorem R_puts_q (pi x : Nat) (hp : pi < 502) (pl : Nat → Int32) : R_puts (qi pi) pl (qi x) = some (qi (pi + 1), upd pl pi (qi x)) := by
  simp (disch := omega) only [R_puts, qi_lit, qi_m1, qi_add, qi_mul, qi_and, qi_or, qi_xor, qi_not, qi_shl, qi_shr, qi_and31, qi_nat, qi_inb, qi_eq, qi_lt, qi_le, qi_sub, dn, db_some, dk_t]
theorem R_takesNumber_q (b : Nat → Nat) (len : Nat) (tx : Nat → Int32) (hb : qtx' b len tx) (n : Nat) (all : Nat → Int32) (h0 : all 0 = qi n) (p : Nat) (hp : p ≤ len) {re be so si va : Int32} {wo : Int64} (h : qAt b len p re be so si va wo) (τ : Qp) (hnf : qfl τ.1 = false)
    (wr bt ba pi ha jo : Int32) (pl td : Nat → Int32) (hT : qTp n τ p bt ba pi ha jo pl td) (N : Nat) (hN : 600 < N) :
    ((qT b len p).1 ≠ 1 → R_takesNumber N re (qi len) be so si va wo wr bt ba pi ha all pl tx = some (qi 0, re, be, so, si, va, wo, qi (qT b len p).2.1, bt, ba, pi, ha, pl)) ∧
    ((qT b len p).1 = 1 → qcs τ.1 1 = true ∧ ∃ re' be' so' si' va' wo' bt' ba' pi' ha' pl', R_takesNumber N re (qi len) be so si va wo wr bt ba pi ha all pl tx = some (qi 1, re', be', so', si', va', wo', wr, bt', ba', pi', ha', pl') ∧
      qAt b len (qT b len p).2.2.2 re' be' so' si' va' wo' ∧ qTp n (qpgo (qpab n τ 1 (qT b len p).2.1 (qT b len p).2.2.1) 1) (qT b len p).2.2.2 bt' ba' pi' ha' jo pl' td) := by
  have hb1 := hb.1
  have hk := qtk_k (qT_q b len p hp)
  have hle := qtk_le (qT_q b len p hp)
  have hnum := qks_num h.2.2.1
  constructor
  · intro k1
    unfold R_takesNumber
    rw [if_neg (show ¬ (so = (3 : Int32)) from fun e => k1 (hnum.mp e)), h.2.1]
    exact dk_t (show (0 : Int32) &&& 1 = 0 by decide) _
  · intro k1
    have hse := hle.2.2.2.1 (by omega)
    have hv := hk.2 k1
    obtain ⟨d1, d2, d3, d4, rfl, d6, ⟨hh, hh8, rfl⟩, d8⟩ := hT
    have hdp := d1.2.1
    have hsum := d1.2.2.2.2.2
    have hcs : qcs τ.1 1 = true := by
      unfold qcs
      rw [if_neg (by omega), if_pos (.inl rfl), hnf]
      simp
      omega
    refine ⟨hcs, ?_⟩
    obtain ⟨so1, si1, va1, wo1, et1, at1⟩ := R_tok_n b len tx hb p hp h N hN
    have hva := h.2.2.2 k1
    have hso : so = (3 : Int32) := hnum.mpr k1
    -- the set that is put, and the fault
    have main : ∀ (bt' ba' : Int32) (x : Nat), x < 256 → R_takesNumber N re (qi len) be so si va wo wr bt ba (qi τ.1.sum) (qi hh) all pl tx = R_takesNumber_74 N re (qi len) be so si va wo wr bt' ba' (qi τ.1.sum) (qi hh) all pl tx (qi x) →
        R_takesNumber N re (qi len) be so si va wo wr bt ba (qi τ.1.sum) (qi hh) all pl tx = some (qi 1, qi (qT b len (qT b len p).2.2.2).2.2.2, qi (qT b len (qT b len p).2.2.2).2.1, so1, si1, va1, wo1, wr, bt', ba', qi (τ.1.sum + 1), qi (hh ||| x), upd pl τ.1.sum (qi x)) := by
      intro bt' ba' x hx e
      rw [e]
      unfold R_takesNumber_74
      simp only [dn]
      rw [R_puts_q _ _ (by omega), db_some, et1, db_some, qi_or]
      rfl
    have hbit : ((qi hh) >>> (va &&& 31)) &&& (1 : Int32) = qi (hh / 2 ^ (qT b len p).2.2.1 &&& 1) ∨ n ≤ (qT b len p).2.2.1 := by
      by_cases c : (qT b len p).2.2.1 < n
      · left
        rw [hva]
        simp (disch := omega) only [qi_lit, qi_m1, qi_add, qi_mul, qi_and, qi_or, qi_xor, qi_not, qi_shl, qi_shr, qi_and31, qi_nat, qi_inb, qi_eq, qi_lt, qi_le, qi_sub]
      · right; omega
    have hbi1 : (hh / 2 ^ (qT b len p).2.2.1 &&& 1) ≤ 1 := Nat.and_le_right
    have hds : τ.1 ≠ [] := d1.1
    have hsum' : (qpps τ.1 1).sum = τ.1.sum + 1 := by
      cases hd : τ.1 with
      | nil => exact absurd hd hds
      | cons c r => show ((c + 1) :: r).sum = (c :: r).sum + 1; simp; omega
    have D' := qDok_step (e := (qT b len p).2.2.2) d1 hcs (by omega)
    have pile' : ∀ x, x < 256 → ∀ j, j < (qpps τ.1 1).sum → ∃ y, y < 256 ∧ upd pl τ.1.sum (qi x) j = qi y := by
      intro x hx j hj
      rw [hsum'] at hj
      by_cases e : j = τ.1.sum
      · exact ⟨x, hx, by rw [e, upd_self]⟩
      · obtain ⟨y, hy, ey⟩ := d6 j (by omega)
        exact ⟨y, hy, by rw [upd_ne _ _ e]; exact ey⟩
    have hor : ∀ x, x < 256 → hh ||| x < 256 := fun x hx => q_or_lt (n := 8) hh8 hx
    have hpw : (qT b len p).2.2.1 < n → 2 ^ (qT b len p).2.2.1 < 256 := fun c => Nat.pow_lt_pow_right (a := 2) (n := 8) (by omega) (by omega)
    have bad : ∀ c, (c = 2 ∨ c = 3) → ((qpb n τ.2.2.2.2 τ.2.2.2.1 1 (qT b len p).2.2.1).1 = c ∨ τ.2.1 ≠ 0) → ∃ bt' ba', R_isBad bt ba (qi c) (qi (qT b len p).2.1) = some (bt', ba') ∧ qTp n (qpgo (qpab n τ 1 (qT b len p).2.1 (qT b len p).2.2.1) 1) (qT b len p).2.2.2 bt' ba' (qi (τ.1.sum + 1)) (qi (hh ||| 0)) jo (upd pl τ.1.sum (qi 0)) td := by
      intro c hc hh'
      have hd1 : (qpgo (qpab n τ 1 (qT b len p).2.1 (qT b len p).2.2.1) 1).1 = qpps τ.1 1 := by
        show qpps (qpab n τ 1 (qT b len p).2.1 (qT b len p).2.2.1).1 1 = _
        rw [qpab_1]
      rcases d8 with ⟨f0, g1, rfl, rfl, g4, g5, g6, g7, g8⟩ | ⟨f1, rfl, a, ha', rfl, hpl⟩
      · have hX : (qpb n τ.2.2.2.2 τ.2.2.2.1 1 (qT b len p).2.2.1).1 = c := by
          rcases hh' with h | h
          · exact h
          · exact absurd f0 h
        have eab : qpab n τ 1 (qT b len p).2.1 (qT b len p).2.2.1 = (τ.1, (qpb n τ.2.2.2.2 τ.2.2.2.1 1 (qT b len p).2.2.1).1, if (qpb n τ.2.2.2.2 τ.2.2.2.1 1 (qT b len p).2.2.1).1 = 0 then Int32.ofInt (-1) else qi (qT b len p).2.1, (qpb n τ.2.2.2.2 τ.2.2.2.1 1 (qT b len p).2.2.1).2.1, (qpb n τ.2.2.2.2 τ.2.2.2.1 1 (qT b len p).2.2.1).2.2) := by
          unfold qpab
          rw [if_neg (by simp [f0])]
        refine ⟨qi (qT b len p).2.1, qi c, R_isBad_0 _ _ _, by rw [hd1]; exact D', ?_, by omega, d4, by rw [hd1, hsum'], by rw [hd1]; exact pile' 0 (by omega), ⟨hh ||| 0, hor 0 (by omega), rfl⟩, .inr ⟨?_, ?_, (qT b len p).2.1, hse, rfl, ?_⟩⟩
        · show (qpab n τ 1 (qT b len p).2.1 (qT b len p).2.2.1).2.1 ≤ 4
          rw [eab, hX]; show c ≤ 4; omega
        · show (qpab n τ 1 (qT b len p).2.1 (qT b len p).2.2.1).2.1 ≠ 0
          rw [eab, hX]; show c ≠ 0; omega
        · show qi c = qi (qpab n τ 1 (qT b len p).2.1 (qT b len p).2.2.1).2.1
          rw [eab, hX]
        · show (qpab n τ 1 (qT b len p).2.1 (qT b len p).2.2.1).2.2.1 = _
          rw [eab, hX]
          show (if c = 0 then Int32.ofInt (-1) else qi (qT b len p).2.1) = _
          rw [if_neg (by omega)]
      · have eab : qpab n τ 1 (qT b len p).2.1 (qT b len p).2.2.1 = τ := by unfold qpab; rw [if_pos f1]
        refine ⟨qi a, qi τ.2.1, R_isBad_1 a τ.2.1 c _ f1 d2 (by omega) (by omega), by rw [hd1]; exact D', ?_, by omega, d4, by rw [hd1, hsum'], by rw [hd1]; exact pile' 0 (by omega), ⟨hh ||| 0, hor 0 (by omega), rfl⟩, .inr ⟨?_, ?_, a, by omega, rfl, ?_⟩⟩
        · show (qpab n τ 1 (qT b len p).2.1 (qT b len p).2.2.1).2.1 ≤ 4
          rw [eab]; exact d2
        · show (qpab n τ 1 (qT b len p).2.1 (qT b len p).2.2.1).2.1 ≠ 0
          rw [eab]; exact f1
        · show qi τ.2.1 = qi (qpab n τ 1 (qT b len p).2.1 (qT b len p).2.2.1).2.1
          rw [eab]
        · show (qpab n τ 1 (qT b len p).2.1 (qT b len p).2.2.1).2.2.1 = _
          rw [eab]; exact hpl
    by_cases c : (qT b len p).2.2.1 < n
    · have hbit' : ((qi hh) >>> (va &&& 31)) &&& (1 : Int32) = qi (hh / 2 ^ (qT b len p).2.2.1 &&& 1) := by
        rcases hbit with h | h
        · exact h
        · omega
      rcases q_dich (hh.testBit (qT b len p).2.2.1) with tb | tb
      · -- it is new
        have hz := (q_bit _ _).mpr tb
        have e74 : R_takesNumber N re (qi len) be so si va wo wr bt ba (qi τ.1.sum) (qi hh) all pl tx = R_takesNumber_74 N re (qi len) be so si va wo wr bt ba (qi τ.1.sum) (qi hh) all pl tx (qi (2 ^ (qT b len p).2.2.1)) := by
          have hshl : (1 : Int32) <<< (va &&& 31) = qi (2 ^ (qT b len p).2.2.1) := by
            rw [hva]
            simp (disch := omega) only [qi_lit, qi_m1, qi_add, qi_mul, qi_and, qi_or, qi_xor, qi_not, qi_shl, qi_shr, qi_and31, qi_nat, qi_inb, qi_eq, qi_lt, qi_le, qi_sub]
          unfold R_takesNumber
          rw [if_pos hso, show (0 : Int32).toNatClampNeg = 0 from rfl, h0, if_pos (show va < qi n by rw [hva]; exact (qi_lt _ _ (by omega) (by omega)).mpr c), hbit', hz, if_neg (show ¬ (qi 0 = (1 : Int32)) by decide), hshl, q_dn]
        refine ⟨_, _, so1, si1, va1, wo1, bt, ba, _, _, _, main bt ba _ (hpw c) e74, at1, ?_⟩
        have hd1 : (qpgo (qpab n τ 1 (qT b len p).2.1 (qT b len p).2.2.1) 1).1 = qpps τ.1 1 := by
          show qpps (qpab n τ 1 (qT b len p).2.1 (qT b len p).2.2.1).1 1 = _
          rw [qpab_1]
        rcases d8 with ⟨f0, g1, rfl, rfl, g4, g5, g6, g7, g8⟩ | ⟨f1, rfl, a, ha', rfl, hpl⟩
        · have hht : hh = τ.2.2.2.2 := by
            have := g4.2.2.2.1
            have := q_pow8 g4.1
            exact (qi_eq _ _ (by omega) (by omega)).mp g6
          have hX : qpb n τ.2.2.2.2 τ.2.2.2.1 1 (qT b len p).2.2.1 = (0, .var (qT b len p).2.2.1 :: τ.2.2.2.1, τ.2.2.2.2 ||| 2 ^ (qT b len p).2.2.1) := by
            unfold qpb
            rw [if_pos rfl, if_pos c, if_pos (by rw [← hht]; exact (q_and_pow _ _).mpr tb)]
          have eab : qpab n τ 1 (qT b len p).2.1 (qT b len p).2.2.1 = (τ.1, 0, Int32.ofInt (-1), .var (qT b len p).2.2.1 :: τ.2.2.2.1, τ.2.2.2.2 ||| 2 ^ (qT b len p).2.2.1) := by
            unfold qpab
            rw [if_neg (by simp [f0]), hX]
            rfl
          have hok := (qPok_step (v := (qT b len p).2.2.1) g4 hcs hds (by rw [hX])).1
          rw [hX] at hok
          refine ⟨by rw [hd1]; exact D', ?_, by omega, d4, by rw [hd1, hsum'], by rw [hd1]; exact pile' _ (hpw c), ⟨_, hor _ (hpw c), rfl⟩, .inl ⟨?_, ?_, rfl, rfl, ?_, ?_, ?_, ?_, ?_⟩⟩
          · show (qpab n τ 1 (qT b len p).2.1 (qT b len p).2.2.1).2.1 ≤ 4
            rw [eab]; show 0 ≤ 4; omega
          · show (qpab n τ 1 (qT b len p).2.1 (qT b len p).2.2.1).2.1 = 0
            rw [eab]
          · show (qpab n τ 1 (qT b len p).2.1 (qT b len p).2.2.1).2.2.1 = _
            rw [eab]
          · show qPok n (qpps (qpab n τ 1 (qT b len p).2.1 (qT b len p).2.2.1).1 1) (qpab n τ 1 (qT b len p).2.1 (qT b len p).2.2.1).2.2.2.1 (qpab n τ 1 (qT b len p).2.1 (qT b len p).2.2.1).2.2.2.2
            rw [eab]; exact hok
          · show qwsr _ (qpab n τ 1 (qT b len p).2.1 (qT b len p).2.2.1).2.2.2.1
            rw [eab]
            have hl := g4.2.2.2.2
            refine ⟨?_, qwsr_f _ g5 (fun i hi => upd_ne _ _ (by omega))⟩
            rw [hl, upd_self]; rfl
          · show qi (hh ||| 2 ^ (qT b len p).2.2.1) = qi (qpab n τ 1 (qT b len p).2.1 (qT b len p).2.2.1).2.2.2.2
            rw [eab, hht]
          · intro s hs
            show td (60 + s) = qi (qpfs (qpab n τ 1 (qT b len p).2.1 (qT b len p).2.2.1).2.2.2.1 s)
            rw [eab, g7 s hs]
            show _ = qi (0 + qpfs τ.2.2.2.1 s)
            rw [Nat.zero_add]
          · show jo = qi (qnj' (qpab n τ 1 (qT b len p).2.1 (qT b len p).2.2.1).2.2.2.1)
            rw [eab, g8]
            show _ = qi (0 + qnj' τ.2.2.2.1)
            rw [Nat.zero_add]
        · have eab : qpab n τ 1 (qT b len p).2.1 (qT b len p).2.2.1 = τ := by unfold qpab; rw [if_pos f1]
          refine ⟨by rw [hd1]; exact D', ?_, by omega, d4, by rw [hd1, hsum'], by rw [hd1]; exact pile' _ (hpw c), ⟨_, hor _ (hpw c), rfl⟩, .inr ⟨?_, ?_, a, by omega, rfl, ?_⟩⟩
          · show (qpab n τ 1 (qT b len p).2.1 (qT b len p).2.2.1).2.1 ≤ 4
            rw [eab]; exact d2
          · show (qpab n τ 1 (qT b len p).2.1 (qT b len p).2.2.1).2.1 ≠ 0
            rw [eab]; exact f1
          · show qi τ.2.1 = qi (qpab n τ 1 (qT b len p).2.1 (qT b len p).2.2.1).2.1
            rw [eab]
          · show (qpab n τ 1 (qT b len p).2.1 (qT b len p).2.2.1).2.2.1 = _
            rw [eab]; exact hpl
      · have hz : hh / 2 ^ (qT b len p).2.2.1 &&& 1 = 1 := by
          have : ¬ (hh / 2 ^ (qT b len p).2.2.1 &&& 1 = 0) := fun e => by rw [(q_bit _ _).mp e] at tb; cases tb
          omega
        obtain ⟨bt', ba', eb, T'⟩ := bad 3 (.inr rfl) (by
          by_cases f0 : τ.2.1 = 0
          · left
            rcases d8 with ⟨_, g1, g2, g3, g4, g5, g6, g7, g8⟩ | ⟨f1, _⟩
            · have hht : hh = τ.2.2.2.2 := by
                have := g4.2.2.2.1
                have := q_pow8 g4.1
                exact (qi_eq _ _ (by omega) (by omega)).mp g6
              unfold qpb
              rw [if_pos rfl, if_pos c, if_neg (fun e => by rw [← hht, q_and_pow] at e; rw [e] at tb; cases tb)]
            · exact absurd f0 f1
          · exact .inr f0)
        refine ⟨_, _, so1, si1, va1, wo1, bt', ba', _, _, _, main bt' ba' 0 (by omega) ?_, at1, T'⟩
        unfold R_takesNumber
        rw [if_pos hso, show (0 : Int32).toNatClampNeg = 0 from rfl, h0, if_pos (show va < qi n by rw [hva]; exact (qi_lt _ _ (by omega) (by omega)).mpr c), hbit', hz, if_pos (show qi 1 = (1 : Int32) from rfl), h.2.1, show (3 : Int32) = qi 3 from rfl, eb, db_some]
        rfl
    · obtain ⟨bt', ba', eb, T'⟩ := bad 2 (.inl rfl) (.inl (by
        unfold qpb
        rw [if_pos rfl, if_neg c]))
      refine ⟨_, _, so1, si1, va1, wo1, bt', ba', _, _, _, main bt' ba' 0 (by omega) ?_, at1, T'⟩
      unfold R_takesNumber
      rw [if_pos hso, show (0 : Int32).toNatClampNeg = 0 from rfl, h0, if_neg (show ¬ (va < qi n) by rw [hva]; exact fun e => c ((qi_lt _ _ (by omega) (by omega)).mp e)), h.2.1, show (2 : Int32) = qi 2 from rfl, eb, db_some]
      rfl
