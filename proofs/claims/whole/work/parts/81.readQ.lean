theorem G_can_q (v : Nat) (h : v < 10000000) : G_canBeRows (qi v) = qi (decide (1 ≤ v ∧ v ≤ 1000000)).toNat ∧ G_canBeBy (qi v) = qi (decide (1 ≤ v ∧ v ≤ 100000)).toNat ∧ G_canBeLimit (qi v) = qi (decide (v ≤ 5000)).toNat := by
  refine ⟨?_, ?_, ?_⟩
  · simp (disch := omega) only [G_canBeRows, qi_lit, qi_m1, qi_add, qi_mul, qi_and, qi_or, qi_xor, qi_not, qi_shl, qi_shr, qi_and31, qi_nat, qi_inb, qi_eq, qi_lt, qi_le, qi_sub]
    by_cases a : v < 1
    · rw [if_pos a, decide_eq_false (by omega)]; rfl
    · rw [if_neg a]
      by_cases c : 1000000 < v
      · rw [if_pos c, decide_eq_false (by omega)]; rfl
      · rw [if_neg c, decide_eq_true (by omega)]; rfl
  · simp (disch := omega) only [G_canBeBy, qi_lit, qi_m1, qi_add, qi_mul, qi_and, qi_or, qi_xor, qi_not, qi_shl, qi_shr, qi_and31, qi_nat, qi_inb, qi_eq, qi_lt, qi_le, qi_sub]
    by_cases a : v < 1
    · rw [if_pos a, decide_eq_false (by omega)]; rfl
    · rw [if_neg a]
      by_cases c : 100000 < v
      · rw [if_pos c, decide_eq_false (by omega)]; rfl
      · rw [if_neg c, decide_eq_true (by omega)]; rfl
  · simp (disch := omega) only [G_canBeLimit, qi_lit, qi_m1, qi_add, qi_mul, qi_and, qi_or, qi_xor, qi_not, qi_shl, qi_shr, qi_and31, qi_nat, qi_inb, qi_eq, qi_lt, qi_le, qi_sub]
    rw [if_neg (by omega)]
    by_cases c : 5000 < v
    · rw [if_pos c, decide_eq_false (by omega)]; rfl
    · rw [if_neg c, decide_eq_true (by omega)]; rfl
theorem G_hasRelation_q (n v : Nat) (hn : n ≤ 8) (h : v < 2147483648) : G_hasRelation (qi n) (qi v) = qi (decide (v < n)).toNat := by
  simp (disch := omega) only [G_hasRelation, qi_lit, qi_m1, qi_add, qi_mul, qi_and, qi_or, qi_xor, qi_not, qi_shl, qi_shr, qi_and31, qi_nat, qi_inb, qi_eq, qi_lt, qi_le, qi_sub]
  rw [if_neg (by omega)]
  by_cases c : n ≤ v
  · rw [if_pos c, decide_eq_false (by omega)]; rfl
  · rw [if_neg c, decide_eq_true (by omega)]; rfl
theorem qaf_1 (aw : Nat) (ha : aw ≤ 8) (h : qaf aw 1 ≠ 99) : aw ≠ 0 ∧ aw ≠ 2 := by
  constructor
  · rintro rfl; exact h rfl
  · rintro rfl; exact h rfl
theorem Q_absorb_q {aw l r : Nat} {g : Qg} {k v : Nat} (hM : qMok aw l r g) (ha : aw ≤ 8) (hk10 : k ≤ 10) (hk : qaf aw k ≠ 99) (nu : Int32) (hv : k = 1 → nu = qi v ∧ v < 10000000)
    {rel edg lim : Int32} {rows left right by' : Nat → Int32} (h : qJg g rel edg lim rows left right by') :
    ∃ rel' edg' lim' by2 left' right' rows', Q_absorb (qi k) nu (qi aw) (qi l) (qi r) rel edg lim by' left right rows =
      some (qi (qab aw l r g k v).1, qi (qab aw l r g k v).2.1, qi (qab aw l r g k v).2.2.1, rel', edg', lim', by2, left', right', rows') ∧ qJg (qab aw l r g k v).2.2.2 rel' edg' lim' rows' left' right' by2 := by
  have hg := hM.1
  have hn := hg.1
  have hm := hg.2.1
  have hp8 := q_pow8 hn
  have hlb := hM.2.1
  have hrb := hM.2.2.1
  have hj := h
  obtain ⟨rfl, rfl, rfl, h4, h5⟩ := h
  by_cases k6 : k = 6
  · have e : qab aw l r g k v = (if qn g < 8 then 0 else 4, l, r, g) := by unfold qab; rw [if_pos k6]
    rw [e]
    refine ⟨_, _, _, _, _, _, _, ?_, hj⟩
    simp (disch := omega) only [Q_absorb, qi_lit, qi_m1, qi_add, qi_mul, qi_and, qi_or, qi_xor, qi_not, qi_shl, qi_shr, qi_and31, qi_nat, qi_inb, qi_eq, qi_lt, qi_le, qi_sub, if_pos k6]
    by_cases c : qn g < 8
    · rw [if_pos c, if_pos c]
    · rw [if_neg c, if_neg c]
  · by_cases k7 : k = 7
    · have e : qab aw l r g k v = (if qm g < 16 then 0 else 4, 0, 0, g) := by unfold qab; rw [if_neg k6, if_pos k7]
      rw [e]
      refine ⟨_, _, _, _, _, _, _, ?_, hj⟩
      simp (disch := omega) only [Q_absorb, qi_lit, qi_m1, qi_add, qi_mul, qi_and, qi_or, qi_xor, qi_not, qi_shl, qi_shr, qi_and31, qi_nat, qi_inb, qi_eq, qi_lt, qi_le, qi_sub, if_neg k6, if_pos k7]
      by_cases c : qm g < 16
      · rw [if_pos c, if_pos c]
      · rw [if_neg c, if_neg c]
    · by_cases k1 : k = 1
      · obtain ⟨rfl, hv'⟩ := hv k1
        clear hv
        obtain ⟨g1, g2, g3⟩ := G_can_q v hv'
        subst k1
        have ⟨na0, na2⟩ := qaf_1 aw ha hk
        by_cases a1 : aw = 1
        · have hn8 := hM.2.2.2.2.1 a1
          have e : qab aw l r g 1 v = (if 1 ≤ v ∧ v ≤ 1000000 then (0, l, r, qaddR g v) else (2, l, r, g)) := by
            unfold qab; rw [if_neg k6, if_neg k7, if_pos rfl, if_pos a1, if_pos hn8]
          rw [e]
          by_cases c : 1 ≤ v ∧ v ≤ 1000000
          · rw [if_pos c]
            refine ⟨_, _, _, _, _, _, _, ?_, qJg_addR hj v⟩
            simp (disch := omega) only [Q_absorb, Q_absorbNumber, Q_absorbRows, G_addRelation, g1, decide_eq_true c, qi_lit, qi_m1, qi_add, qi_mul, qi_and, qi_or, qi_xor, qi_not, qi_shl, qi_shr, qi_and31, qi_nat, qi_inb, qi_eq, qi_lt, qi_le, qi_sub, dn, db_some, dk_t, if_neg (show ¬ (1 = 6) by omega), if_neg (show ¬ (1 = 7) by omega), if_pos a1, if_neg (show ¬ 8 ≤ qn g by omega), qb_0, reduceCtorEq, if_false, if_true]
          · rw [if_neg c]
            refine ⟨_, _, _, _, _, _, _, ?_, hj⟩
            simp (disch := omega) only [Q_absorb, Q_absorbNumber, Q_absorbRows, g1, decide_eq_false c, qi_lit, qi_m1, qi_add, qi_mul, qi_and, qi_or, qi_xor, qi_not, qi_shl, qi_shr, qi_and31, qi_nat, qi_inb, qi_eq, qi_lt, qi_le, qi_sub, dn, db_some, dk_t, if_neg (show ¬ (1 = 6) by omega), if_neg (show ¬ (1 = 7) by omega), if_pos a1, qb_0, if_true]
        · by_cases a7 : aw = 7
          · have hm16 := hM.2.2.2.2.2.2.2.2 (by omega)
            have e : qab aw l r g 1 v = (if 1 ≤ v ∧ v ≤ 100000 then (0, l, r, qaddE g l r v) else (2, l, r, g)) := by
              unfold qab; rw [if_neg k6, if_neg k7, if_pos rfl, if_neg a1, if_pos a7, if_pos hm16]
            rw [e]
            by_cases c : 1 ≤ v ∧ v ≤ 100000
            · rw [if_pos c]
              refine ⟨_, _, _, _, _, _, _, ?_, qJg_addE hj l r v⟩
              simp (disch := omega) only [Q_absorb, Q_absorbNumber, Q_absorbBy, G_addEdge, g2, decide_eq_true c, qi_lit, qi_m1, qi_add, qi_mul, qi_and, qi_or, qi_xor, qi_not, qi_shl, qi_shr, qi_and31, qi_nat, qi_inb, qi_eq, qi_lt, qi_le, qi_sub, dn, db_some, dk_t, if_neg (show ¬ (1 = 6) by omega), if_neg (show ¬ (1 = 7) by omega), if_neg a1, if_pos a7, if_neg (show ¬ 16 ≤ qm g by omega), qb_0, reduceCtorEq, if_false, if_true]
            · rw [if_neg c]
              refine ⟨_, _, _, _, _, _, _, ?_, hj⟩
              simp (disch := omega) only [Q_absorb, Q_absorbNumber, Q_absorbBy, g2, decide_eq_false c, qi_lit, qi_m1, qi_add, qi_mul, qi_and, qi_or, qi_xor, qi_not, qi_shl, qi_shr, qi_and31, qi_nat, qi_inb, qi_eq, qi_lt, qi_le, qi_sub, dn, db_some, dk_t, if_neg (show ¬ (1 = 6) by omega), if_neg (show ¬ (1 = 7) by omega), if_neg a1, if_pos a7, qb_0, if_true]
          · by_cases a8 : aw = 8
            · have e : qab aw l r g 1 v = (if v ≤ 5000 then (0, l, r, qlimG g v) else (2, l, r, g)) := by
                unfold qab; rw [if_neg k6, if_neg k7, if_pos rfl, if_neg a1, if_neg a7, if_pos a8]
              rw [e]
              by_cases c : v ≤ 5000
              · rw [if_pos c]
                refine ⟨_, _, _, _, _, _, _, ?_, qJg_lim hj v⟩
                simp (disch := omega) only [Q_absorb, Q_absorbNumber, Q_absorbLimit, g3, decide_eq_true c, qi_lit, qi_m1, qi_add, qi_mul, qi_and, qi_or, qi_xor, qi_not, qi_shl, qi_shr, qi_and31, qi_nat, qi_inb, qi_eq, qi_lt, qi_le, qi_sub, dn, db_some, dk_t, if_neg (show ¬ (1 = 6) by omega), if_neg (show ¬ (1 = 7) by omega), if_neg a1, if_neg a7, if_pos a8, qb_0, reduceCtorEq, if_false, if_true]
              · rw [if_neg c]
                refine ⟨_, _, _, _, _, _, _, ?_, hj⟩
                simp (disch := omega) only [Q_absorb, Q_absorbNumber, Q_absorbLimit, g3, decide_eq_false c, qi_lit, qi_m1, qi_add, qi_mul, qi_and, qi_or, qi_xor, qi_not, qi_shl, qi_shr, qi_and31, qi_nat, qi_inb, qi_eq, qi_lt, qi_le, qi_sub, dn, db_some, dk_t, if_neg (show ¬ (1 = 6) by omega), if_neg (show ¬ (1 = 7) by omega), if_neg a1, if_neg a7, if_pos a8, qb_0, if_true]
            · have e : qab aw l r g 1 v = (if v < qn g then (if (l ||| r) &&& 2 ^ v = 0 then (if aw = 3 ∨ aw = 4 then (0, l ||| 2 ^ v, r, g) else (0, l, r ||| 2 ^ v, g)) else (3, l, r, g)) else (2, l, r, g)) := by
                unfold qab; rw [if_neg k6, if_neg k7, if_pos rfl, if_neg a1, if_neg a7, if_neg a8]
              rw [e]
              have hr := G_hasRelation_q (qn g) v hn (by omega)
              by_cases c : v < qn g
              · rw [if_pos c]
                have hand : (l ||| r) &&& 2 ^ v < 2147483648 := Nat.lt_of_le_of_lt Nat.and_le_left (by
                  have : l ||| r < 2 ^ 8 := q_or_lt (by omega) (by omega)
                  omega)
                by_cases c2 : (l ||| r) &&& 2 ^ v = 0
                · rw [if_pos c2]
                  by_cases c3 : aw = 3 ∨ aw = 4
                  · rw [if_pos c3]
                    refine ⟨_, _, _, _, _, _, _, ?_, hj⟩
                    by_cases c4 : aw = 3
                    · simp (disch := omega) only [Q_absorb, Q_absorbNumber, Q_absorbEnd, Q_absorbEnd_49, hr, decide_eq_true c, qi_lit, qi_m1, qi_add, qi_mul, qi_and, qi_or, qi_xor, qi_not, qi_shl, qi_shr, qi_and31, qi_nat, qi_inb, qi_eq, qi_lt, qi_le, qi_sub, dn, db_some, dk_t, if_neg (show ¬ (1 = 6) by omega), if_neg (show ¬ (1 = 7) by omega), if_neg a1, if_neg a7, if_neg a8, if_pos c2, if_pos c4, qb_0, reduceCtorEq, if_false, if_true]
                    · simp (disch := omega) only [Q_absorb, Q_absorbNumber, Q_absorbEnd, Q_absorbEnd_49, hr, decide_eq_true c, qi_lit, qi_m1, qi_add, qi_mul, qi_and, qi_or, qi_xor, qi_not, qi_shl, qi_shr, qi_and31, qi_nat, qi_inb, qi_eq, qi_lt, qi_le, qi_sub, dn, db_some, dk_t, if_neg (show ¬ (1 = 6) by omega), if_neg (show ¬ (1 = 7) by omega), if_neg a1, if_neg a7, if_neg a8, if_pos c2, if_neg c4, if_pos (show aw = 4 by omega), qb_0, reduceCtorEq, if_false, if_true]
                  · rw [if_neg c3]
                    refine ⟨_, _, _, _, _, _, _, ?_, hj⟩
                    simp (disch := omega) only [Q_absorb, Q_absorbNumber, Q_absorbEnd, Q_absorbEnd_49, hr, decide_eq_true c, qi_lit, qi_m1, qi_add, qi_mul, qi_and, qi_or, qi_xor, qi_not, qi_shl, qi_shr, qi_and31, qi_nat, qi_inb, qi_eq, qi_lt, qi_le, qi_sub, dn, db_some, dk_t, if_neg (show ¬ (1 = 6) by omega), if_neg (show ¬ (1 = 7) by omega), if_neg a1, if_neg a7, if_neg a8, if_pos c2, if_neg (show ¬ aw = 3 by omega), if_neg (show ¬ aw = 4 by omega), qb_0, reduceCtorEq, if_false, if_true]
                · rw [if_neg c2]
                  refine ⟨_, _, _, _, _, _, _, ?_, hj⟩
                  simp (disch := omega) only [Q_absorb, Q_absorbNumber, Q_absorbEnd, Q_absorbEnd_49, hr, decide_eq_true c, qi_lit, qi_m1, qi_add, qi_mul, qi_and, qi_or, qi_xor, qi_not, qi_shl, qi_shr, qi_and31, qi_nat, qi_inb, qi_eq, qi_lt, qi_le, qi_sub, dn, db_some, dk_t, if_neg (show ¬ (1 = 6) by omega), if_neg (show ¬ (1 = 7) by omega), if_neg a1, if_neg a7, if_neg a8, if_neg c2, qb_0, reduceCtorEq, if_false, if_true]
              · rw [if_neg c]
                refine ⟨_, _, _, _, _, _, _, ?_, hj⟩
                simp (disch := omega) only [Q_absorb, Q_absorbNumber, Q_absorbEnd, hr, decide_eq_false c, qi_lit, qi_m1, qi_add, qi_mul, qi_and, qi_or, qi_xor, qi_not, qi_shl, qi_shr, qi_and31, qi_nat, qi_inb, qi_eq, qi_lt, qi_le, qi_sub, dn, db_some, dk_t, if_neg (show ¬ (1 = 6) by omega), if_neg (show ¬ (1 = 7) by omega), if_neg a1, if_neg a7, if_neg a8, qb_0, if_true]
      · have e : qab aw l r g k v = (0, l, r, g) := by unfold qab; rw [if_neg k6, if_neg k7, if_neg k1]
        rw [e]
        refine ⟨_, _, _, _, _, _, _, ?_, hj⟩
        simp (disch := omega) only [Q_absorb, qi_lit, qi_m1, qi_add, qi_mul, qi_and, qi_or, qi_xor, qi_not, qi_shl, qi_shr, qi_and31, qi_nat, qi_inb, qi_eq, qi_lt, qi_le, qi_sub, if_neg k6, if_neg k7, if_neg k1]
/-- a token is taken, unless there is a fault already -/
def qabs (σ : Qs) (k s v : Nat) : Qs :=
  if σ.2.1 ≠ 0 then σ else
    let x := qab σ.1 σ.2.2.2.1 σ.2.2.2.2.1 σ.2.2.2.2.2 k v
    (σ.1, x.1, if x.1 = 0 then Int32.ofInt (-1) else qi s, x.2.1, x.2.2.1, x.2.2.2)
def qpas (σ : Qs) (k : Nat) : Qs := (qaf σ.1 k, σ.2)
/-- the machine: fault, place, graph -/
noncomputable def qMq (b : Nat → Nat) (len : Nat) : Nat → Qs → Nat → Nat × Int32 × Qg
  | 0, σ, _ => (σ.2.1, σ.2.2.1, σ.2.2.2.2.2)
  | f + 1, σ, p =>
    if qaf σ.1 (qT b len p).1 = 99 then (1, qi (qT b len p).2.1, σ.2.2.2.2.2)
    else if (qT b len p).1 = 0 then ((qabs σ 0 (qT b len p).2.1 (qT b len p).2.2.1).2.1, (qabs σ 0 (qT b len p).2.1 (qT b len p).2.2.1).2.2.1, (qabs σ 0 (qT b len p).2.1 (qT b len p).2.2.1).2.2.2.2.2)
    else qMq b len f (qpas (qabs σ (qT b len p).1 (qT b len p).2.1 (qT b len p).2.2.1) (qT b len p).1) (qT b len p).2.2.2
noncomputable def qR (b : Nat → Nat) (len : Nat) (σ : Qs) (p : Nat) : Nat × Int32 × Qg := qMq b len (len + 1 - p) σ p
theorem qMq_fuel (b : Nat → Nat) (len : Nat) : ∀ f f' σ p, p ≤ len → len < f + p → len < f' + p → qMq b len f σ p = qMq b len f' σ p := by
  intro f
  induction f with
  | zero => intro f' σ p h1 h2; omega
  | succ f ih =>
    intro f' σ p h1 h2 h3
    cases f' with
    | zero => omega
    | succ f' =>
      have hle := qtk_le (qT_q b len p h1)
      unfold qMq
      by_cases c1 : qaf σ.1 (qT b len p).1 = 99
      · rw [if_pos c1, if_pos c1]
      · rw [if_neg c1, if_neg c1]
        by_cases c2 : (qT b len p).1 = 0
        · rw [if_pos c2, if_pos c2]
        · rw [if_neg c2, if_neg c2]
          have := hle.2.2.2.1 c2
          exact ih f' _ _ (by omega) (by omega) (by omega)
theorem qR_eq (b : Nat → Nat) (len : Nat) (σ : Qs) (p : Nat) (h : p ≤ len) : qR b len σ p =
    if qaf σ.1 (qT b len p).1 = 99 then (1, qi (qT b len p).2.1, σ.2.2.2.2.2)
    else if (qT b len p).1 = 0 then ((qabs σ 0 (qT b len p).2.1 (qT b len p).2.2.1).2.1, (qabs σ 0 (qT b len p).2.1 (qT b len p).2.2.1).2.2.1, (qabs σ 0 (qT b len p).2.1 (qT b len p).2.2.1).2.2.2.2.2)
    else qR b len (qpas (qabs σ (qT b len p).1 (qT b len p).2.1 (qT b len p).2.2.1) (qT b len p).1) (qT b len p).2.2.2 := by
  have hle := qtk_le (qT_q b len p h)
  unfold qR
  rw [show len + 1 - p = (len - p) + 1 by omega]
  show (if _ then _ else _) = _
  by_cases c1 : qaf σ.1 (qT b len p).1 = 99
  · rw [if_pos c1, if_pos c1]
  · rw [if_neg c1, if_neg c1]
    by_cases c2 : (qT b len p).1 = 0
    · rw [if_pos c2, if_pos c2]
    · rw [if_neg c2, if_neg c2]
      have := hle.2.2.2.1 c2
      exact qMq_fuel b len _ _ _ _ (by omega) (by omega) (by omega)
/-- the class holds what the machine holds -/
def qCq (σ : Qs) (fa pl aw le ri rel edg lim : Int32) (by' left right rows : Nat → Int32) : Prop :=
  fa = qi σ.2.1 ∧ pl = σ.2.2.1 ∧ aw = qi σ.1 ∧ σ.1 ≤ 8 ∧ σ.2.1 ≤ 4 ∧ (σ.2.1 = 0 → le = qi σ.2.2.2.1 ∧ ri = qi σ.2.2.2.2.1 ∧ qJg σ.2.2.2.2.2 rel edg lim rows left right by' ∧ qMok σ.1 σ.2.2.2.1 σ.2.2.2.2.1 σ.2.2.2.2.2)
theorem qab_4 (aw l r : Nat) (g : Qg) (k v : Nat) : (qab aw l r g k v).1 ≤ 4 := by
  unfold qab
  split
  · show (if _ then 0 else 4) ≤ 4; split <;> omega
  · split
    · show (if _ then 0 else 4) ≤ 4; split <;> omega
    · split
      · split
        · split <;> simp
        · split
          · split <;> simp
          · split
            · split <;> simp
            · split
              · split
                · split <;> simp
                · simp
              · simp
      · simp
def Q_abU_32 (f_p1_kind : Int32) (f_p1_start : Int32) (f_p1_number : Int32) (f_fault : Int32) (f_place : Int32) (f_awaited : Int32) (f_left : Int32) (f_right : Int32) (f_graph_relations : Int32) (f_graph_edges : Int32) (f_graph_limit : Int32) (g_graph_by : Nat → Int32) (g_graph_left : Nat → Int32) (g_graph_right : Nat → Int32) (g_graph_rows : Nat → Int32) (z1 : Int32) : Option (Int32 × Int32 × Int32 × Int32 × Int32 × Int32 × Int32 × (Nat → Int32) × (Nat → Int32) × (Nat → Int32) × (Nat → Int32)) := some (f_fault, z1, f_left, f_right, f_graph_relations, f_graph_edges, f_graph_limit, g_graph_by, g_graph_left, g_graph_right, g_graph_rows)
def Q_abU (f_p1_kind : Int32) (f_p1_start : Int32) (f_p1_number : Int32) (f_fault : Int32) (f_place : Int32) (f_awaited : Int32) (f_left : Int32) (f_right : Int32) (f_graph_relations : Int32) (f_graph_edges : Int32) (f_graph_limit : Int32) (g_graph_by : Nat → Int32) (g_graph_left : Nat → Int32) (g_graph_right : Nat → Int32) (g_graph_rows : Nat → Int32) : Option (Int32 × Int32 × Int32 × Int32 × Int32 × Int32 × Int32 × (Nat → Int32) × (Nat → Int32) × (Nat → Int32) × (Nat → Int32)) := if f_fault = 0 then (db (Q_absorb f_p1_kind f_p1_number f_awaited f_left f_right f_graph_relations f_graph_edges f_graph_limit g_graph_by g_graph_left g_graph_right g_graph_rows) fun t2 => if t2.1 = 0 then (Q_abU_32 f_p1_kind f_p1_start f_p1_number t2.1 f_place f_awaited t2.2.1 t2.2.2.1 t2.2.2.2.1 t2.2.2.2.2.1 t2.2.2.2.2.2.1 t2.2.2.2.2.2.2.1 t2.2.2.2.2.2.2.2.1 t2.2.2.2.2.2.2.2.2.1 t2.2.2.2.2.2.2.2.2.2 (-1 : Int32)) else (Q_abU_32 f_p1_kind f_p1_start f_p1_number t2.1 f_place f_awaited t2.2.1 t2.2.2.1 t2.2.2.2.1 t2.2.2.2.2.1 t2.2.2.2.2.2.1 t2.2.2.2.2.2.2.1 t2.2.2.2.2.2.2.2.1 t2.2.2.2.2.2.2.2.2.1 t2.2.2.2.2.2.2.2.2.2 f_p1_start)) else (some (f_fault, f_place, f_left, f_right, f_graph_relations, f_graph_edges, f_graph_limit, g_graph_by, g_graph_left, g_graph_right, g_graph_rows))
theorem Q_abU_k (N : Nat) (f_p1_length : Int32) (f_p1_kind : Int32) (f_p1_start : Int32) (f_p1_number : Int32) (f_p1_at : Int32) (f_fault : Int32) (f_place : Int32) (f_awaited : Int32) (f_left : Int32) (f_right : Int32) (g_p1_bytes : Nat → Int32) (f_graph_relations : Int32) (f_graph_edges : Int32) (f_graph_limit : Int32) (g_graph_by : Nat → Int32) (g_graph_left : Nat → Int32) (g_graph_right : Nat → Int32) (g_graph_rows : Nat → Int32) (x2 : Int32) : (if f_fault = 0 then (db (Q_absorb f_p1_kind f_p1_number f_awaited f_left f_right f_graph_relations f_graph_edges f_graph_limit g_graph_by g_graph_left g_graph_right g_graph_rows) fun t10 => if t10.1 = 0 then (Q_read_88 N f_p1_length f_p1_kind f_p1_start f_p1_number f_p1_at t10.1 f_place f_awaited t10.2.1 t10.2.2.1 g_p1_bytes t10.2.2.2.1 t10.2.2.2.2.1 t10.2.2.2.2.2.1 t10.2.2.2.2.2.2.1 t10.2.2.2.2.2.2.2.1 t10.2.2.2.2.2.2.2.2.1 t10.2.2.2.2.2.2.2.2.2 x2 (-1 : Int32)) else (Q_read_88 N f_p1_length f_p1_kind f_p1_start f_p1_number f_p1_at t10.1 f_place f_awaited t10.2.1 t10.2.2.1 g_p1_bytes t10.2.2.2.1 t10.2.2.2.2.1 t10.2.2.2.2.2.1 t10.2.2.2.2.2.2.1 t10.2.2.2.2.2.2.2.1 t10.2.2.2.2.2.2.2.2.1 t10.2.2.2.2.2.2.2.2.2 x2 f_p1_start)) else (Q_read_91 N f_p1_length f_p1_kind f_p1_start f_p1_number f_p1_at f_fault f_place f_awaited f_left f_right g_p1_bytes f_graph_relations f_graph_edges f_graph_limit g_graph_by g_graph_left g_graph_right g_graph_rows x2)) = (db (Q_abU f_p1_kind f_p1_start f_p1_number f_fault f_place f_awaited f_left f_right f_graph_relations f_graph_edges f_graph_limit g_graph_by g_graph_left g_graph_right g_graph_rows) fun t9 => Q_read_91 N f_p1_length f_p1_kind f_p1_start f_p1_number f_p1_at t9.1 t9.2.1 f_awaited t9.2.2.1 t9.2.2.2.1 g_p1_bytes t9.2.2.2.2.1 t9.2.2.2.2.2.1 t9.2.2.2.2.2.2.1 t9.2.2.2.2.2.2.2.1 t9.2.2.2.2.2.2.2.2.1 t9.2.2.2.2.2.2.2.2.2.1 t9.2.2.2.2.2.2.2.2.2.2 x2) := by
  unfold Q_abU
  by_cases c : f_fault = 0
  · rw [if_pos c, if_pos c]
    cases Q_absorb f_p1_kind f_p1_number f_awaited f_left f_right f_graph_relations f_graph_edges f_graph_limit g_graph_by g_graph_left g_graph_right g_graph_rows with
    | none => rfl
    | some t =>
      rw [db_some, db_some]
      by_cases c3 : t.1 = 0
      · rw [if_pos c3, if_pos c3]
        rfl
      · rw [if_neg c3, if_neg c3]
        rfl
  · rw [if_neg c, if_neg c, db_some]
theorem Q_abs_q (σ : Qs) (fa pl aw le ri rel edg lim : Int32) (by' left right rows : Nat → Int32) (h : qCq σ fa pl aw le ri rel edg lim by' left right rows) (k s v : Nat) (hk10 : k ≤ 10) (hk : qaf σ.1 k ≠ 99) (nu : Int32) (hv : k = 1 → nu = qi v ∧ v < 10000000) :
    ∃ fa' pl' le' ri' rel' edg' lim' by2 left' right' rows', Q_abU (qi k) (qi s) nu fa pl aw le ri rel edg lim by' left right rows = some (fa', pl', le', ri', rel', edg', lim', by2, left', right', rows') ∧
      qCq (qpas (qabs σ k s v) k) fa' pl' (qi (qaf σ.1 k)) le' ri' rel' edg' lim' by2 left' right' rows' ∧ fa' = qi (qabs σ k s v).2.1 ∧ pl' = (qabs σ k s v).2.2.1 ∧
      ((qabs σ k s v).2.1 = 0 → qJg (qabs σ k s v).2.2.2.2.2 rel' edg' lim' rows' left' right' by2 ∧ qGok (qabs σ k s v).2.2.2.2.2) := by
  obtain ⟨rfl, rfl, rfl, h4, h5, h6⟩ := h
  have haf := (Q_after_q σ.1 k h4 hk10).2
  have haf8 : qaf σ.1 k ≤ 8 := by omega
  by_cases hf : σ.2.1 = 0
  · obtain ⟨rfl, rfl, h7, h8⟩ := h6 hf
    obtain ⟨rel', edg', lim', by2, left', right', rows', e, hj⟩ := Q_absorb_q h8 h4 hk10 hk nu hv h7
    have hab4 := qab_4 σ.1 σ.2.2.2.1 σ.2.2.2.2.1 σ.2.2.2.2.2 k v
    have hst := fun hf => qMok_step (v := v) h8 h4 hk hf
    have ea : qabs σ k s v = (σ.1, (qab σ.1 σ.2.2.2.1 σ.2.2.2.2.1 σ.2.2.2.2.2 k v).1, if (qab σ.1 σ.2.2.2.1 σ.2.2.2.2.1 σ.2.2.2.2.2 k v).1 = 0 then Int32.ofInt (-1) else qi s, (qab σ.1 σ.2.2.2.1 σ.2.2.2.2.1 σ.2.2.2.2.2 k v).2.1, (qab σ.1 σ.2.2.2.1 σ.2.2.2.2.1 σ.2.2.2.2.2 k v).2.2.1, (qab σ.1 σ.2.2.2.1 σ.2.2.2.2.1 σ.2.2.2.2.2 k v).2.2.2) := by
      unfold qabs
      rw [if_neg (by simp [hf])]
    rw [ea]
    generalize qab σ.1 σ.2.2.2.1 σ.2.2.2.2.1 σ.2.2.2.2.2 k v = X at *
    refine ⟨qi X.1, if X.1 = 0 then Int32.ofInt (-1) else qi s, qi X.2.1, qi X.2.2.1, rel', edg', lim', by2, left', right', rows', ?_, ⟨rfl, rfl, rfl, haf8, hab4, fun hz => ⟨rfl, rfl, hj, hst hz⟩⟩, rfl, rfl, fun hz => ⟨hj, (hst hz).1⟩⟩
    unfold Q_abU
    rw [hf, if_pos (show qi 0 = 0 from rfl), e, db_some]
    simp only []
    by_cases c : X.1 = 0
    · rw [if_pos (by rw [c]; rfl), if_pos c]
      rfl
    · rw [if_neg (show ¬ (qi X.1 = (0 : Int32)) from fun h => c ((qi_eq X.1 0 (by omega) (by omega)).mp h)), if_neg c]
      rfl
  · have ea : qabs σ k s v = σ := by
      unfold qabs
      rw [if_pos hf]
    rw [ea]
    refine ⟨qi σ.2.1, σ.2.2.1, le, ri, rel, edg, lim, by', left, right, rows, ?_, ⟨rfl, rfl, rfl, haf8, h5, fun hz => absurd hz hf⟩, rfl, rfl, fun hz => absurd hz hf⟩
    unfold Q_abU
    rw [if_neg (show ¬ (qi σ.2.1 = (0 : Int32)) from fun h => hf ((qi_eq σ.2.1 0 (by omega) (by omega)).mp h))]
theorem Q_read_q (b : Nat → Nat) (len : Nat) (by' : Nat → Int32) (hb : qby' b len by') (kd st nu at' fa pl aw le ri rel edg lim : Int32) (gb gl gr gw : Nat → Int32) (N : Nat) (hN : 600 < N) :
    ∃ kd' st' nu' at2 fa' pl' aw' le' ri' rel' edg' lim' gb' gl' gr' gw', Q_read N (qi len) kd st nu at' fa pl aw le ri by' rel edg lim gb gl gr gw = some (kd', st', nu', at2, fa', pl', aw', le', ri', rel', edg', lim', gb', gl', gr', gw') ∧
      fa' = qi (qR b len (0, 0, Int32.ofInt (-1), 0, 0, (0, 0, 1000, fun _ => 0, fun _ => 0, fun _ => 0, fun _ => 0)) 0).1 ∧ pl' = (qR b len (0, 0, Int32.ofInt (-1), 0, 0, (0, 0, 1000, fun _ => 0, fun _ => 0, fun _ => 0, fun _ => 0)) 0).2.1 ∧
      (qR b len (0, 0, Int32.ofInt (-1), 0, 0, (0, 0, 1000, fun _ => 0, fun _ => 0, fun _ => 0, fun _ => 0)) 0).1 ≤ 4 ∧
      ((qR b len (0, 0, Int32.ofInt (-1), 0, 0, (0, 0, 1000, fun _ => 0, fun _ => 0, fun _ => 0, fun _ => 0)) 0).1 = 0 → qJg (qR b len (0, 0, Int32.ofInt (-1), 0, 0, (0, 0, 1000, fun _ => 0, fun _ => 0, fun _ => 0, fun _ => 0)) 0).2.2 rel' edg' lim' gw' gl' gr' gb' ∧ qGok (qR b len (0, 0, Int32.ofInt (-1), 0, 0, (0, 0, 1000, fun _ => 0, fun _ => 0, fun _ => 0, fun _ => 0)) 0).2.2) := by
  generalize hS : ((0, 0, Int32.ofInt (-1), 0, 0, (0, 0, 1000, fun _ => 0, fun _ => 0, fun _ => 0, fun _ => 0)) : Qs) = S0
  have key := qlp_dn (body := fun x : Int32 × Int32 × Int32 × Int32 × Int32 × Int32 × Int32 × Int32 × Int32 × Int32 × Int32 × Int32 × (Nat → Int32) × (Nat → Int32) × (Nat → Int32) × (Nat → Int32) × Int32 =>
      Q_read_b20 N (qi len) x.1 x.2.1 x.2.2.1 x.2.2.2.1 x.2.2.2.2.1 x.2.2.2.2.2.1 x.2.2.2.2.2.2.1 x.2.2.2.2.2.2.2.1 x.2.2.2.2.2.2.2.2.1 by' x.2.2.2.2.2.2.2.2.2.1 x.2.2.2.2.2.2.2.2.2.2.1 x.2.2.2.2.2.2.2.2.2.2.2.1 x.2.2.2.2.2.2.2.2.2.2.2.2.1 x.2.2.2.2.2.2.2.2.2.2.2.2.2.1 x.2.2.2.2.2.2.2.2.2.2.2.2.2.2.1 x.2.2.2.2.2.2.2.2.2.2.2.2.2.2.2.1 x.2.2.2.2.2.2.2.2.2.2.2.2.2.2.2.2)
    (Inv := fun m x => ∃ σ p i, m = len - p ∧ p ≤ len ∧ i ≤ p ∧ x.2.2.2.1 = qi p ∧ x.2.2.2.2.2.2.2.2.2.2.2.2.2.2.2.2 = qi i ∧ qR b len σ p = qR b len S0 0 ∧
      qCq σ x.2.2.2.2.1 x.2.2.2.2.2.1 x.2.2.2.2.2.2.1 x.2.2.2.2.2.2.2.1 x.2.2.2.2.2.2.2.2.1 x.2.2.2.2.2.2.2.2.2.1 x.2.2.2.2.2.2.2.2.2.2.1 x.2.2.2.2.2.2.2.2.2.2.2.1 x.2.2.2.2.2.2.2.2.2.2.2.2.1 x.2.2.2.2.2.2.2.2.2.2.2.2.2.1 x.2.2.2.2.2.2.2.2.2.2.2.2.2.2.1 x.2.2.2.2.2.2.2.2.2.2.2.2.2.2.2.1)
    (Q := fun y => ∃ kd' st' nu' at2 fa' pl' aw' le' ri' rel' edg' lim' gb' gl' gr' gw',
      ((y = .inl (kd', st', nu', at2, fa', pl', aw', le', ri', rel', edg', lim', gb', gl', gr', gw') ∧ (qR b len S0 0).1 = 1 ∧ st' = (qR b len S0 0).2.1) ∨
       (y = .inr (.inl (kd', st', nu', at2, fa', pl', aw', le', ri', rel', edg', lim', gb', gl', gr', gw')) ∧ fa' = qi (qR b len S0 0).1 ∧ pl' = (qR b len S0 0).2.1 ∧ (qR b len S0 0).1 ≤ 4 ∧ ((qR b len S0 0).1 = 0 → qJg (qR b len S0 0).2.2 rel' edg' lim' gw' gl' gr' gb' ∧ qGok (qR b len S0 0).2.2))))
    ?_ len (kd, st, nu, qi 0, qi 0, Int32.ofInt (-1), qi 0, qi 0, qi 0, qi 0, qi 0, qi 1000, gb, gl, gr, gw, qi 0) ?_ N (by have := hb.1; omega)
  · obtain ⟨y, e, kd', st', nu', at2, fa', pl', aw', le', ri', rel', edg', lim', gb', gl', gr', gw', q⟩ := key
    have pre : Q_read N (qi len) kd st nu at' fa pl aw le ri by' rel edg lim gb gl gr gw = Q_read_a20 N (qi len) by' y := by
      show Q_read_20 N (qi len) kd st nu (0 : Int32) (0 : Int32) (-1 : Int32) (0 : Int32) (0 : Int32) (0 : Int32) by' (0 : Int32) (0 : Int32) (1000 : Int32) gb gl gr gw (0 : Int32) = _
      unfold Q_read_20
      rw [show ((kd, st, nu, (0 : Int32), (0 : Int32), (-1 : Int32), (0 : Int32), (0 : Int32), (0 : Int32), (0 : Int32), (0 : Int32), (1000 : Int32), gb, gl, gr, gw, (0 : Int32))) = (kd, st, nu, qi 0, qi 0, Int32.ofInt (-1), qi 0, qi 0, qi 0, qi 0, qi 0, qi 1000, gb, gl, gr, gw, qi 0) from rfl, e]
      rfl
    rw [pre]
    rcases q with ⟨rfl, h1, h2⟩ | ⟨rfl, h1, h2, h3, h4⟩
    · refine ⟨kd', st', nu', at2, (1 : Int32), st', aw', le', ri', rel', edg', lim', gb', gl', gr', gw', rfl, by rw [h1]; rfl, h2, by omega, fun h => by omega⟩
    · exact ⟨kd', st', nu', at2, fa', pl', aw', le', ri', rel', edg', lim', gb', gl', gr', gw', rfl, h1, h2, h3, h4⟩
  · rintro m ⟨kd, st, nu, at', fa, pl, aw, le, ri, rel, edg, lim, gb, gl, gr, gw, ix⟩ ⟨σ, p, i, hm, hp, hip, h1, h2, h3, h4⟩
    simp only at h1 h2 h4
    subst h1
    subst h2
    have hb1 := hb.1
    have htk := qT_q b len p hp
    have hle := qtk_le htk
    have hk := qtk_k htk
    obtain ⟨nu', et, hnu, _⟩ := T_readToken_q b len by' hb p _ _ _ _ htk kd st nu N hN
    have hR := qR_eq b len σ p hp
    obtain ⟨rfl, rfl, rfl, c4, c5, c6⟩ := id h4
    have haf := Q_after_q σ.1 (qT b len p).1 c4 hk.1
    generalize hTT : qT b len p = TT at *
    obtain ⟨k, s, v, e⟩ := TT
    simp only at *
    by_cases c1 : qaf σ.1 k = 99
    · right
      rw [if_pos c1] at hR
      have hcs : Q_canStand (qi σ.1) (qi k) = 0 := by
        unfold Q_canStand
        rw [haf.1, if_pos c1]; rfl
      refine ⟨.inl (qi k, qi s, nu', qi e, qi σ.2.1, σ.2.2.1, qi σ.1, le, ri, rel, edg, lim, gb, gl, gr, gw), ?_, _, _, _, _, _, _, _, _, _, _, _, _, _, _, _, _, .inl ⟨rfl, by rw [← h3, hR], by rw [← h3, hR]⟩⟩
      unfold Q_read_b20
      rw [if_neg (show ¬ ((500 : Int32) < qi i) from fun h => by have := (qi_lt 500 i (by omega) (by omega)).mp h; omega), et, db_some]
      simp only []
      rw [hcs, if_pos rfl]
    · rw [if_neg c1] at hR
      have hcs : ¬ (Q_canStand (qi σ.1) (qi k) = 0) := by
        unfold Q_canStand
        rw [haf.1, if_neg c1]
        have : ¬ (qi (qaf σ.1 k) = (-1 : Int32)) := qi_ne_m1 _ (by omega)
        rw [if_neg this]; decide
      have hps : Q_pass (qi σ.1) (qi k) = some (qi (qaf σ.1 k)) := by
        unfold Q_pass
        simp only [dn]
        rw [haf.1, if_neg c1]
      obtain ⟨fa', pl', le', ri', rel', edg', lim', gb', gl', gr', gw', ea, hC, hfa, hpl, hj⟩ := Q_abs_q σ _ _ _ le ri rel edg lim gb gl gr gw h4 k s v hk.1 c1 nu' (fun h => ⟨hnu h, hk.2 h⟩)
      have pre : Q_read_b20 N (qi len) kd st nu (qi p) (qi σ.2.1) σ.2.2.1 (qi σ.1) le ri by' rel edg lim gb gl gr gw (qi i) =
          if qi k = 0 then some (.inr (.inr (.inl (qi k, qi s, nu', qi e, fa', pl', qi (qaf σ.1 k), le', ri', rel', edg', lim', gb', gl', gr', gw')))) else some (.inl (qi k, qi s, nu', qi e, fa', pl', qi (qaf σ.1 k), le', ri', rel', edg', lim', gb', gl', gr', gw', qi (i + 1))) := by
        unfold Q_read_b20
        rw [if_neg (show ¬ ((500 : Int32) < qi i) from fun h => by have := (qi_lt 500 i (by omega) (by omega)).mp h; omega), et, db_some]
        simp only []
        rw [if_neg hcs, Q_abU_k, ea, db_some]
        simp only [Q_read_91]
        rw [hps, db_some]
        simp only [dn, show (1 : Int32) = qi 1 from rfl, qi_add]
      by_cases c2 : k = 0
      · right
        rw [if_pos c2] at hR
        subst c2
        refine ⟨_, by simp only [pre]; rw [if_pos (show qi 0 = 0 from rfl)], _, _, _, _, _, _, _, _, _, _, _, _, _, _, _, _, .inr ⟨rfl, by rw [← h3, hR]; exact hfa, by rw [← h3, hR]; exact hpl, ?_, ?_⟩⟩
        · rw [← h3, hR]
          exact hC.2.2.2.2.1
        · rw [← h3, hR]
          exact hj
      · left
        rw [if_neg c2] at hR
        have := hle.2.2.2.1 c2
        refine ⟨_, len - e, by simp only [pre]; rw [if_neg (show ¬ (qi k = (0 : Int32)) from fun h => c2 ((qi_eq k 0 (by omega) (by omega)).mp h))], ⟨qpas (qabs σ k s v) k, e, i + 1, rfl, by omega, by omega, rfl, rfl, by rw [← hR]; exact h3, hC⟩, by omega⟩
  · refine ⟨S0, 0, 0, by omega, by omega, by omega, rfl, rfl, rfl, ?_⟩
    rw [← hS]
    refine ⟨rfl, rfl, rfl, by decide, by decide, fun _ => ⟨rfl, rfl, ⟨rfl, rfl, rfl, fun r h => absurd h (Nat.not_lt_zero r), fun e h => absurd h (Nat.not_lt_zero e)⟩, ?_⟩⟩
    refine ⟨⟨by decide, by decide, by decide, fun r h => absurd h (Nat.not_lt_zero r), fun e h => absurd h (Nat.not_lt_zero e)⟩, by decide, by decide, rfl, by omega, by omega, by omega, by omega, by omega⟩
