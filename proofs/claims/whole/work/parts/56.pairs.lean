def qtab {α : Type} (d : α) (F : (Nat → α) → Nat → α) : Nat → (Nat → α)
  | 0 => fun _ => d
  | k + 1 => fun j => if j = k then F (qtab d F k) k else qtab d F k j
theorem qtab_st {α : Type} (d : α) (F : (Nat → α) → Nat → α) (j : Nat) : ∀ k, j < k → qtab d F k j = F (qtab d F j) j := by
  intro k
  induction k with
  | zero => intro h; omega
  | succ k ih =>
    intro h
    show (if j = k then F (qtab d F k) k else qtab d F k j) = _
    by_cases e : j = k
    · subst e; rw [if_pos rfl]
    · rw [if_neg e]; exact ih (by omega)
theorem qtab_fix {α : Type} (d : α) (F : (Nat → α) → Nat → α) (K : Nat) (hF : ∀ T T' s, s < K → (∀ j, j < s → T j = T' j) → F T s = F T' s) (s : Nat) (hs : s < K) : qtab d F K s = F (qtab d F K) s := by
  rw [qtab_st d F s K hs]
  apply hF _ _ s hs
  intro j hj
  rw [qtab_st d F j s hj, qtab_st d F j K (by omega)]
def qcn (T : Nat → Nat) (x : Nat) : Bool := decide (0 < T x) || qone x
def qpF (g : Qg) (T : Nat → Nat) (s : Nat) : Nat := (qparts s).countP (fun p => qjn g p (s ^^^ p) && qcn T p && qcn T (s ^^^ p))
def qpc (g : Qg) : Nat → Nat := qtab 0 (qpF g) 256
def qcon (g : Qg) (x : Nat) : Bool := qcn (qpc g) x
def qpr (g : Qg) (s p : Nat) : Bool := qjn g p (s ^^^ p) && qcon g p && qcon g (s ^^^ p)
theorem qpc_eq (g : Qg) (s : Nat) (hs : s < 256) : qpc g s = (qparts s).countP (qpr g s) := by
  unfold qpc
  rw [qtab_fix 0 (qpF g) 256 _ s hs]
  · rfl
  · intro T T' s hs h
    unfold qpF
    apply List.countP_congr
    intro p hp
    have hp' := qparts_all hs hp
    unfold qcn
    rw [h p hp'.1, h (s ^^^ p) hp'.2.2.2.1]
theorem qparts_len (s : Nat) (hs : s < 256) : (qparts s).length < 128 := by
  have : ∀ s, s < 256 → (qparts s).length < 128 := by decide +kernel
  exact this s hs
theorem qpc_lt (g : Qg) (s : Nat) (hs : s < 256) : qpc g s < 128 := by
  rw [qpc_eq g s hs]
  exact Nat.lt_of_le_of_lt List.countP_le_length (qparts_len s hs)
theorem R_isPair_q {g : Qg} {all con : Nat → Int32} (hg : qGok g) (hr : qRg g all) (s p : Nat) (hs : s < 256) (hp : p < s) (hc : ∀ x, x ≠ 0 → x < s → con x = qi (qcon g x).toNat) (N : Nat) (hN : 300 < N) :
    R_isPair N all con (qi p) (qi s) = some (qi ((qsub p s && qsub (qlow s) p) && qpr g s p).toNat) := by
  have hl := qlow_lt s hs
  have hx : s &&& p ≤ s := Nat.and_le_left
  simp (disch := omega) only [R_isPair, qi_lit, qi_m1, qi_add, qi_mul, qi_and, qi_or, qi_xor, qi_not, qi_shl, qi_shr, qi_and31, qi_nat, qi_inb, qi_eq, qi_lt, qi_le, qi_sub, dn, db_some, dk_t, R_isIn_q, R_least_q, qb_0, if_neg (show ¬ p = s by omega), R_isJoined_q hg hr _ _ N (by omega)]
  rcases q_dich (qsub p s) with k1 | k1
  · simp [k1]
  · rcases q_dich (qsub (qlow s) p) with k2 | k2
    · simp [k1, k2]
    · have hm : p ∈ qparts s := by
        unfold qparts
        exact List.mem_filter.mpr ⟨List.mem_range.mpr hp, by simp [k1, k2]⟩
      have ⟨a1, a2, a3, a4, a5, a6, a7⟩ := qparts_all hs hm
      have e := q_and_xor a3
      simp only [e, k1, k2]
      simp (disch := omega) only [qi_lit, qi_m1, qi_add, qi_mul, qi_and, qi_or, qi_xor, qi_not, qi_shl, qi_shr, qi_and31, qi_nat, qi_inb, qi_eq, qi_lt, qi_le, qi_sub, dn, db_some, dk_t, hc p a2 hp, hc (s ^^^ p) a5 a4, qb_0]
      unfold qpr
      rcases q_dich (qcon g p) with k3 | k3 <;> rcases q_dich (qcon g (s ^^^ p)) with k4 | k4 <;> rcases q_dich (qjn g p (s ^^^ p)) with k5 | k5 <;> simp [k3, k4, k5]
theorem q_low0 (s : Nat) (hs : s < 256) (h0 : s ≠ 0) : qsub (qlow s) 0 = false := by
  have : qlow s ≠ 0 := fun e => h0 (qlow_0 s hs e)
  rw [qsub_f]; simp; omega
theorem qparts_count (g : Qg) (s : Nat) (hs : s < 256) : (List.range s).countP (fun p => (qsub p s && qsub (qlow s) p) && qpr g s p) = qpc g s := by
  rw [qpc_eq g s hs]
  unfold qparts
  rw [List.countP_filter]
  congr
  funext p
  exact Bool.and_comm _ _
theorem R_pairsOf_q {g : Qg} {all con : Nat → Int32} (hg : qGok g) (hr : qRg g all) (s : Nat) (hs : s < 256) (h0 : s ≠ 0) (hc : ∀ x, x ≠ 0 → x < s → con x = qi (qcon g x).toNat) (N : Nat) (hN : 300 < N) :
    R_pairsOf N all con (qi s) = some (qi (qpc g s)) := by
  let c := fun p => (qsub p s && qsub (qlow s) p) && qpr g s p
  have c0 : c 0 = false := by simp [c, q_low0 s hs h0]
  have key := qlp_for (body := fun x : Int32 × Int32 => R_pairsOf_b4 N all con (qi s) x.1 x.2) (fun i => (qi ((List.range (i + 1)).countP c), qi (i + 1))) (s - 1) (qi (qpc g s)) ?_ ?_ N (by omega)
  · simp only [Nat.zero_add, show List.range 1 = [0] from rfl] at key
    unfold R_pairsOf R_pairsOf_4 R_pairsOf_a4 R_pairsOf_32
    rw [show ((0 : Int32), (1 : Int32)) = (qi 0, qi 1) from rfl]
    have e : (if c 0 = true then 1 else 0) = 0 := by rw [c0]; rfl
    try simp only [e] at key
    rw [← show qi 0 = qi (List.countP c [0]) from by simp [c0]] at key
    rw [key, db_some]
  · intro i hi
    have := q_count_le c (i + 1)
    simp (disch := omega) only [R_pairsOf_b4, R_pairsOf_24, qi_lit, qi_m1, qi_add, qi_mul, qi_and, qi_or, qi_xor, qi_not, qi_shl, qi_shr, qi_and31, qi_nat, qi_inb, qi_eq, qi_lt, qi_le, qi_sub, dn, db_some, dk_t, if_neg (show ¬ s ≤ i + 1 by omega), R_isPair_q hg hr s (i + 1) hs (by omega) hc N hN, qb_0]
    rw [q_count_s c (i + 1)]
    show (if c (i + 1) = false then _ else _) = _
    rcases q_dich (c (i + 1)) with k | k <;> simp [k]
  · simp (disch := omega) only [R_pairsOf_b4, qi_lit, qi_m1, qi_add, qi_mul, qi_and, qi_or, qi_xor, qi_not, qi_shl, qi_shr, qi_and31, qi_nat, qi_inb, qi_eq, qi_lt, qi_le, qi_sub, if_pos (show s ≤ s - 1 + 1 by omega)]
    rw [show s - 1 + 1 = s by omega, ← qparts_count g s hs]
def qPs (g : Qg) (ps : Nat → Int32) (k : Nat) : Prop := ∀ s, s ≠ 0 → s < k → ps s = qi (qpc g s)
def qCs (g : Qg) (cs : Nat → Int32) (k : Nat) : Prop := ∀ s, s ≠ 0 → s < k → cs s = qi (qcon g s).toNat
theorem qcon_if (g : Qg) (s : Nat) {α : Type} (a b : α) {_ : Decidable (0 < qpc g s)} {_ : Decidable (qone s = false)} : (if 0 < qpc g s then a else if qone s = false then b else a) = if qcon g s = true then a else b := by
  unfold qcon qcn
  by_cases h1 : 0 < qpc g s
  · rw [if_pos h1]; simp [h1]
  · rw [if_neg h1]
    rcases q_dich (qone s) with k | k <;> simp [k, h1]
theorem S_isPair_q {g : Qg} {li ri cs : Nat → Int32} {k : Nat} (hg : qGok g) (hS : qSets g li ri) (h : qCs g cs k) (hk : k ≤ 2 ^ qn g) (s p : Nat) (hs : s ≤ k) (hs2 : s < 2 ^ qn g) (hp : p ∈ qparts s) :
    S_isPair cs li ri (qi p) (qi (s ^^^ p)) = some (qi (qpr g s p).toNat) := by
  have hp8 := q_pow8 hg.1
  have ⟨a1, a2, a3, a4, a5, a6, a7⟩ := qparts_all (by omega) hp
  simp (disch := omega) only [S_isPair, qi_lit, qi_m1, qi_add, qi_mul, qi_and, qi_or, qi_xor, qi_not, qi_shl, qi_shr, qi_and31, qi_nat, qi_inb, qi_eq, qi_lt, qi_le, qi_sub, dn, db_some, dk_t, S_areJoined_q hg hS p (s ^^^ p) (by omega) (by omega), h p a2 (by omega), h (s ^^^ p) a5 (by omega), qb_0]
  unfold qpr
  rcases q_dich (qcon g p) with k3 | k3 <;> rcases q_dich (qcon g (s ^^^ p)) with k4 | k4 <;> rcases q_dich (qjn g p (s ^^^ p)) with k5 | k5 <;> simp [k3, k4, k5]
theorem S_countPairs_q {g : Qg} {li ri cs : Nat → Int32} (hg : qGok g) (hS : qSets g li ri) (s : Nat) (h : qCs g cs s) (h0 : s ≠ 0) (hs2 : s < 2 ^ qn g) (N : Nat) (hN : 300 < N) :
    S_countPairs N cs li ri (qi s) = some (qi (qpc g s)) := by
  have hp8 := q_pow8 hg.1
  have hs : s < 256 := by omega
  have hsp := qspl_lt s hs
  have key := qlp_for (body := fun x : Int32 × Int32 × Int32 => S_countPairs_b16 N cs li ri (qi s) x.1 (qi (qspl s)) x.2.1 x.2.2)
    (fun i => (qi (((List.range i).map (qnth s)).countP (qpr g s)), qi (qnth s i), qi i)) (qspl s) (qi (qpc g s)) ?_ ?_ N (by omega)
  · simp (disch := omega) only [S_countPairs, S_countPairs_16, S_countPairs_a16, S_countPairs_57, qi_lit, qi_m1, qi_add, qi_mul, qi_and, qi_or, qi_xor, qi_not, qi_shl, qi_shr, qi_and31, qi_nat, qi_inb, qi_eq, qi_lt, qi_le, qi_sub, dn, db_some, dk_t, J_splitsOf_q, J_least_q]
    simp only [List.range_zero, List.map_nil, List.countP_nil] at key
    rw [show qlow s = qnth s 0 from rfl, key]
    rfl
  · intro i hi
    have hm := qnth_mem s hs h0 i hi
    have ⟨a1, a2, a3, a4, a5, a6, a7⟩ := qparts_all hs hm
    have hle : ((List.range i).map (qnth s)).countP (qpr g s) ≤ i := by
      have := List.countP_le_length (p := qpr g s) (l := (List.range i).map (qnth s))
      simpa using this
    simp (disch := omega) only [S_countPairs_b16, S_countPairs_41, qi_lit, qi_m1, qi_add, qi_mul, qi_and, qi_or, qi_xor, qi_not, qi_shl, qi_shr, qi_and31, qi_nat, qi_inb, qi_eq, qi_lt, qi_le, qi_sub, dn, db_some, dk_t, if_neg (show ¬ qspl s ≤ i by omega), S_isPair_q hg hS h (by omega) s _ (Nat.le_refl _) hs2 hm, qb_0, J_nextPart_q s hs i hi]
    rw [List.range_succ, List.map_append, List.countP_append]
    rcases q_dich (qpr g s (qnth s i)) with k | k <;> simp [k]
  · simp (disch := omega) only [S_countPairs_b16, qi_lit, qi_m1, qi_add, qi_mul, qi_and, qi_or, qi_xor, qi_not, qi_shl, qi_shr, qi_and31, qi_nat, qi_inb, qi_eq, qi_lt, qi_le, qi_sub]
    rw [qpc_eq g s hs]
    rcases qparts_nth s hs with e | e
    · exact absurd e h0
    · simp [e]
def qpa (g : Qg) (k : Nat) : Nat := ((List.range k).map (qpc g)).sum
def qca (g : Qg) (k : Nat) : Nat := (List.range k).countP (fun s => decide (s ≠ 0) && qcon g s)
theorem qpa_s (g : Qg) (k : Nat) : qpa g (k + 1) = qpa g k + qpc g k := by
  unfold qpa
  rw [List.range_succ, List.map_append, List.sum_append]
  simp
theorem qpc_0 (g : Qg) : qpc g 0 = 0 := by
  rw [qpc_eq g 0 (by omega)]; rfl
theorem qpa_le (g : Qg) (k : Nat) (hk : k ≤ 256) : qpa g k ≤ 128 * k := by
  induction k with
  | zero => simp [qpa]
  | succ k ih =>
    rw [qpa_s]
    have := ih (by omega)
    have := qpc_lt g k (by omega)
    omega
theorem S_findPairs_72_q (N : Nat) (pd P e : Int32) (cs li ps ri : Nat → Int32) (c s : Nat) (hs : s < 256) (b : Bool) :
    S_findPairs_72 N pd (qi c) P e cs li ps ri (qi s) (qi s) (qi b.toNat) = some (Sum.inl (qi (c + b.toNat), P, upd cs s (qi b.toNat), ps, qi (s + 1))) := by
  have e1 : upd cs s (qi b.toNat) s = qi b.toNat := by rw [upd_q, if_pos rfl]
  simp (disch := omega) only [S_findPairs_72, S_findPairs_92, qi_lit, qi_m1, qi_add, qi_mul, qi_and, qi_or, qi_xor, qi_not, qi_shl, qi_shr, qi_and31, qi_nat, qi_inb, qi_eq, qi_lt, qi_le, qi_sub, dn, db_some, dk_t, vp_nar_bool, e1, qb_0]
  cases b <;> simp
theorem S_findPairs_q {g : Qg} {li ri cs ps : Nat → Int32} (hg : qGok g) (hS : qSets g li ri) (pd c1 c2 : Int32) (N : Nat) (hN : 300 < N) :
    ∃ cs' ps', S_findPairs N pd c1 c2 (qi (2 ^ qn g)) cs li ps ri = some (1, qi (qca g (2 ^ qn g)), qi (qpa g (2 ^ qn g)), cs', ps') ∧ qPs g ps' (2 ^ qn g) ∧ qCs g cs' (2 ^ qn g) := by
  have hp8 := q_pow8 hg.1
  have hp0 := Nat.two_pow_pos (qn g)
  have key := qlp_rel (body := fun x : Int32 × Int32 × (Nat → Int32) × (Nat → Int32) × Int32 => S_findPairs_b12 N pd x.1 x.2.1 (qi (2 ^ qn g)) x.2.2.1 li x.2.2.2.1 ri x.2.2.2.2)
    (Inv := fun i x => x.2.2.2.2 = qi (i + 1) ∧ x.1 = qi (qca g (i + 1)) ∧ x.2.1 = qi (qpa g (i + 1)) ∧ qPs g x.2.2.2.1 (i + 1) ∧ qCs g x.2.2.1 (i + 1)) (2 ^ qn g - 1)
    (Q := fun y => y.1 = qi (qca g (2 ^ qn g)) ∧ y.2.1 = qi (qpa g (2 ^ qn g)) ∧ qPs g y.2.2.2 (2 ^ qn g) ∧ qCs g y.2.2.1 (2 ^ qn g))
    (by
      rintro i ⟨c, p, cs, ps, ix⟩ hi ⟨rfl, rfl, rfl, h, hc⟩
      simp only at h hc
      have hx := qpa_le g (i + 1) (by omega)
      have hq := qpc_lt g (i + 1) (by omega)
      have h' : qPs g (upd ps (i + 1) (qi (qpc g (i + 1)))) (i + 1 + 1) := by
        intro s s0 hs
        rw [upd_q]
        by_cases e : s = i + 1
        · rw [if_pos e, e]
        · rw [if_neg e]; exact h s s0 (by omega)
      have hc' : qCs g (upd cs (i + 1) (qi (qcon g (i + 1)).toNat)) (i + 1 + 1) := by
        intro s s0 hs
        rw [upd_q]
        by_cases e : s = i + 1
        · rw [if_pos e, e]
        · rw [if_neg e]; exact hc s s0 (by omega)
      refine ⟨(qi (qca g (i + 1 + 1)), qi (qpa g (i + 1 + 1)), upd cs (i + 1) (qi (qcon g (i + 1)).toNat), upd ps (i + 1) (qi (qpc g (i + 1))), qi (i + 1 + 1)), ?_, rfl, rfl, rfl, h', hc'⟩
      have e1 : upd ps (i + 1) (qi (qpc g (i + 1))) (i + 1) = qi (qpc g (i + 1)) := by rw [upd_q, if_pos rfl]
      have e2 : qca g (i + 1 + 1) = qca g (i + 1) + (qcon g (i + 1)).toNat := by
        unfold qca
        rw [q_count_s _ (i + 1)]
        simp
      have f1 := S_findPairs_72_q N pd (qi (qpa g (i + 1) + qpc g (i + 1))) (qi (2 ^ qn g)) cs li (upd ps (i + 1) (qi (qpc g (i + 1)))) ri (qca g (i + 1)) (i + 1) (by omega) true
      have f0 := S_findPairs_72_q N pd (qi (qpa g (i + 1) + qpc g (i + 1))) (qi (2 ^ qn g)) cs li (upd ps (i + 1) (qi (qpc g (i + 1)))) ri (qca g (i + 1)) (i + 1) (by omega) false
      rw [Bool.toNat_true] at f1
      rw [Bool.toNat_false] at f0
      simp (disch := omega) only [S_findPairs_b12, S_findPairs_67, qi_lit, qi_m1, qi_add, qi_mul, qi_and, qi_or, qi_xor, qi_not, qi_shl, qi_shr, qi_and31, qi_nat, qi_inb, qi_eq, qi_lt, qi_le, qi_sub, dn, db_some, dk_t, if_neg (show ¬ 2 ^ qn g ≤ i + 1 by omega), S_countPairs_q hg hS (i + 1) hc (by omega) (by omega) N hN, e1, J_isOne_q, qb_0]
      rw [qcon_if, f1, f0, e2, qpa_s g (i + 1)]
      rcases q_dich (qcon g (i + 1)) with k | k <;> simp [k])
    (by
      rintro ⟨c, p, cs, ps, ix⟩ ⟨h1, h2, h3, h4, h5⟩
      rw [show 2 ^ qn g - 1 + 1 = 2 ^ qn g by omega] at h1 h2 h3 h4 h5
      simp only at h1
      refine ⟨(c, p, cs, ps), ?_, h2, h3, h4, h5⟩
      rw [h1]
      simp (disch := omega) only [S_findPairs_b12, qi_lit, qi_m1, qi_add, qi_mul, qi_and, qi_or, qi_xor, qi_not, qi_shl, qi_shr, qi_and31, qi_nat, qi_inb, qi_eq, qi_lt, qi_le, qi_sub]
      simp)
    (qi 0, qi 0, cs, ps, qi 1) ⟨rfl, by simp [qca], by simp [qpa, qpc_0], by intro s h1 h2; omega, by intro s h1 h2; omega⟩ N (by omega)
  obtain ⟨⟨c, p, cs', ps'⟩, e, q1, q2, q3, q4⟩ := key
  simp only at q1 q2 q3 q4
  refine ⟨cs', ps', ?_, q3, q4⟩
  unfold S_findPairs S_findPairs_12
  rw [show ((0 : Int32), (0 : Int32), cs, ps, (1 : Int32)) = (qi 0, qi 0, cs, ps, qi 1) from rfl, e, db_some, q1, q2]
  rfl
