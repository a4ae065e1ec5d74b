def qmin (a : Nat) : Nat := if qcap < a then qcap else a
def qwgh (g : Qg) (T : Nat → Nat × Nat × Nat) (s : Nat) (a : Nat × Nat × Nat) (p : Nat) : Nat × Nat × Nat :=
  let cr := (T p).2.1 + (T (s ^^^ p)).2.1 + (!qjn g p (s ^^^ p)).toNat
  let co := qmin ((T p).1 + (T (s ^^^ p)).1 + qsz g s)
  if a.2.2 = 0 ∨ cr < a.2.1 ∨ (cr = a.2.1 ∧ co < a.1) then (co, cr, p) else a
def qbc (lin : Bool) (s p : Nat) : Bool := !lin || qone p || qone (s ^^^ p)
def qbst (g : Qg) (lin : Bool) (T : Nat → Nat × Nat × Nat) (s : Nat) (a : Nat × Nat × Nat) (p : Nat) : Nat × Nat × Nat := if qbc lin s p then qwgh g T s a p else a
def qbF (g : Qg) (lin : Bool) (T : Nat → Nat × Nat × Nat) (s : Nat) : Nat × Nat × Nat := (qparts s).foldl (qbst g lin T s) (0, 0, 0)
def qbest (g : Qg) (lin : Bool) : Nat → Nat × Nat × Nat := qtab (0, 0, 0) (qbF g lin) 256
theorem q_foldl_congr {α : Type} (f f' : α → Nat → α) : ∀ (l : List Nat) (a : α), (∀ x p, p ∈ l → f x p = f' x p) → l.foldl f a = l.foldl f' a := by
  intro l
  induction l with
  | nil => intro a h; rfl
  | cons p l ih =>
    intro a h
    rw [List.foldl_cons, List.foldl_cons, h a p (by simp)]
    exact ih _ (fun x q hq => h x q (by simp [hq]))
theorem qbest_eq (g : Qg) (lin : Bool) (s : Nat) (hs : s < 256) : qbest g lin s = (qparts s).foldl (qbst g lin (qbest g lin) s) (0, 0, 0) := by
  unfold qbest
  rw [qtab_fix (0, 0, 0) (qbF g lin) 256 _ s hs]
  · rfl
  · intro T T' s hs h
    unfold qbF
    apply q_foldl_congr
    intro x p hp
    have hp' := qparts_all hs hp
    unfold qbst qwgh
    rw [h p hp'.1, h (s ^^^ p) hp'.2.2.2.1]
theorem q_foldl_inv {α : Type} (P : α → Prop) (f : α → Nat → α) : ∀ (l : List Nat) (a : α), P a → (∀ x p, p ∈ l → P x → P (f x p)) → P (l.foldl f a) := by
  intro l
  induction l with
  | nil => intro a h _; exact h
  | cons p l ih =>
    intro a h h2
    rw [List.foldl_cons]
    exact ih _ (h2 a p (by simp) h) (fun x q hq => h2 x q (by simp [hq]))
def qbb (s : Nat) (a : Nat × Nat × Nat) : Prop := a.1 ≤ qcap ∧ (a.2.1 = 0 ∨ a.2.1 < s) ∧ (a.2.2 = 0 ∨ a.2.2 ∈ qparts s)
theorem qwgh_b (g : Qg) (T : Nat → Nat × Nat × Nat) (s : Nat) (hs : s < 256) (hT : ∀ x, x ≠ 0 → x < s → qbb x (T x)) (a : Nat × Nat × Nat) (p : Nat) (hp : p ∈ qparts s) (h : qbb s a) : qbb s (qwgh g T s a p) := by
  have ⟨a1, a2, a3, a4, a5, a6, a7⟩ := qparts_all hs hp
  have e := q_xor_add s p hs a6 a3
  have t1 := (hT p a2 a1).2.1
  have t2 := (hT (s ^^^ p) a5 a4).2.1
  unfold qwgh
  simp only []
  split
  · refine ⟨?_, ?_, .inr hp⟩
    · show qmin _ ≤ _
      unfold qmin; split <;> omega
    · right
      show _ + _ + _ < s
      have : (!qjn g p (s ^^^ p)).toNat ≤ 1 := by cases qjn g p (s ^^^ p) <;> decide
      omega
  · exact h
theorem qbest_b (g : Qg) (lin : Bool) : ∀ s, s < 256 → qbb s (qbest g lin s) := by
  intro s
  induction s using Nat.strongRecOn with
  | _ s ih =>
    intro hs
    rw [qbest_eq g lin s hs]
    refine q_foldl_inv (qbb s) _ _ _ ⟨by decide, .inl rfl, .inl rfl⟩ ?_
    intro x p hp h
    unfold qbst
    split
    · exact qwgh_b g _ s hs (fun x _ hx => ih x hx (by omega)) x p hp h
    · exact h
theorem upd_upd (f : Nat → Int32) (k : Nat) (x y : Int32) : upd (upd f k x) k y = upd f k y := by
  funext j; rw [upd_q, upd_q, upd_q]; split <;> rfl
theorem updL_updL (f : Nat → Int64) (k : Nat) (x y : Int64) : vp_updL (vp_updL f k x) k y = vp_updL f k y := by
  funext j; rw [updL_q, updL_q, updL_q]; split <;> rfl
theorem upd_ne (f : Nat → Int32) {k j : Nat} (x : Int32) (h : j ≠ k) : upd f k x j = f j := if_neg h
theorem upd_self (f : Nat → Int32) (k : Nat) (x : Int32) : upd f k x k = x := if_pos rfl
theorem updL_ne (f : Nat → Int64) {k j : Nat} (x : Int64) (h : j ≠ k) : vp_updL f k x j = f j := if_neg h
theorem updL_self (f : Nat → Int64) (k : Nat) (x : Int64) : vp_updL f k x k = x := if_pos rfl
def qBt (T : Nat → Nat × Nat × Nat) (off : Nat) (c : Nat → Int64) (x p : Nat → Int32) (k : Nat) : Prop := ∀ s, s ≠ 0 → s < k → c (off + s) = ql (T s).1 ∧ x (off + s) = qi (T s).2.1 ∧ p (off + s) = qi (T s).2.2
theorem J_isBetter_q (a b c d : Nat) (ha : a < 2147483648) (hc : c < 2147483648) (hb : b ≤ qcap) (hd : d ≤ qcap) : J_isBetter (qi a) (ql b) (qi c) (ql d) = qi (decide (a < c ∨ (a = c ∧ b < d))).toNat := by
  have hq : qcap = 1000000000000000 := rfl
  simp (disch := omega) only [J_isBetter, qi_lit, qi_m1, qi_add, qi_mul, qi_and, qi_or, qi_xor, qi_not, qi_shl, qi_shr, qi_and31, qi_nat, qi_inb, qi_eq, qi_lt, qi_le, qi_sub, ql_lit, ql_add, ql_mul, ql_div, ql_eq, ql_lt, ql_le, ql_of]
  by_cases h1 : a < c
  · simp [h1]
  · by_cases h2 : a = c
    · subst h2
      by_cases h3 : b < d <;> simp [h3]
    · simp [h1, h2]
theorem qmin_J (a : Nat) (h : a < 9223372036854775808) : (if ql a < ql 1000000000000000 then ql a else ql 1000000000000000) = ql (qmin a) := by
  unfold qmin qcap
  by_cases h1 : ql a < ql 1000000000000000
  · rw [if_pos h1]
    rw [ql_lt _ _ (by omega) (by omega)] at h1
    rw [if_neg (by omega)]
  · rw [if_neg h1]
    rw [ql_lt _ _ (by omega) (by omega)] at h1
    by_cases h2 : 1000000000000000 < a
    · rw [if_pos h2]
    · rw [if_neg h2, show a = 1000000000000000 by omega]
theorem B_weigh_q {g : Qg} {li ri : Nat → Int32} {sz : Nat → Int64} (hg : qGok g) (hS : qSets g li ri) (T : Nat → Nat × Nat × Nat) (s : Nat) (hs : s < 2 ^ qn g) (hsz : sz s = ql (qsz g s)) (hT : ∀ x, x ≠ 0 → x < s → qbb x (T x))
    (c : Nat → Int64) (x p : Nat → Int32) (h : qBt T 0 c x p s) (a : Nat × Nat × Nat) (ha : qbb s a) (f : Nat) (hf : f ∈ qparts s) :
    B_weigh li ri sz (vp_updL c s (ql a.1)) (upd x s (qi a.2.1)) (upd p s (qi a.2.2)) (qi s) (qi f) = some (vp_updL c s (ql (qwgh g T s a f).1), upd x s (qi (qwgh g T s a f).2.1), upd p s (qi (qwgh g T s a f).2.2)) := by
  have hp8 := q_pow8 hg.1
  have hq : qcap = 1000000000000000 := rfl
  have ⟨a1, a2, a3, a4, a5, a6, a7⟩ := qparts_all (by omega) hf
  have hf1 := h f a2 a1
  have hf2 := h (s ^^^ f) a5 a4
  simp only [Nat.zero_add] at hf1 hf2
  have t1 := hT f a2 a1
  have t2 := hT (s ^^^ f) a5 a4
  have hszb := (qz_b hg s (qn g) (Nat.le_refl _)).2
  have hszb' : qsz g s ≤ qcap := hszb
  have hpl : a.2.2 < 256 := by
    rcases ha.2.2 with e | e
    · omega
    · have := (qparts_all (show s < 256 by omega) e).2.2.2.2.2.1
      exact this
  have ha21 := ha.2.1
  have ha1 := ha.1
  have t11 := t1.1
  have t12 := t1.2.1
  have t21 := t2.1
  have t22 := t2.2.1
  simp (disch := omega) only [B_weigh, B_weigh_34, B_weigh_97, qi_lit, qi_m1, qi_add, qi_mul, qi_and, qi_or, qi_xor, qi_not, qi_shl, qi_shr, qi_and31, qi_nat, qi_inb, qi_eq, qi_lt, qi_le, qi_sub, dn, db_some, dk_t, S_areJoined_q hg hS f (s ^^^ f) (by omega) (by omega), qb_0, updL_ne, upd_ne, upd_self, updL_self, hf1.1, hf1.2.1, hf2.1, hf2.2.1, hsz, ql_add, ql_lit, qmin_J, updL_updL, upd_upd]
  have hmn : qmin ((T f).1 + (T (s ^^^ f)).1 + qsz g s) ≤ qcap := by unfold qmin; split <;> omega
  have hjt : ∀ b : Bool, b.toNat ≤ 1 := by intro b; cases b <;> decide
  have fin : ∀ j : Nat, j ≤ 1 →
    (if a.2.2 = 0 then some (vp_updL c s (ql (qmin ((T f).1 + (T (s ^^^ f)).1 + qsz g s))), upd x s (qi ((T f).2.1 + (T (s ^^^ f)).2.1 + j)), upd p s (qi f))
     else if J_isBetter (qi ((T f).2.1 + (T (s ^^^ f)).2.1 + j)) (ql (qmin ((T f).1 + (T (s ^^^ f)).1 + qsz g s))) (qi a.2.1) (ql a.1) = qi 0 then some (vp_updL c s (ql a.1), upd x s (qi a.2.1), upd p s (qi a.2.2))
     else some (vp_updL c s (ql (qmin ((T f).1 + (T (s ^^^ f)).1 + qsz g s))), upd x s (qi ((T f).2.1 + (T (s ^^^ f)).2.1 + j)), upd p s (qi f))) =
    (let cr := (T f).2.1 + (T (s ^^^ f)).2.1 + j
     let co := qmin ((T f).1 + (T (s ^^^ f)).1 + qsz g s)
     let w := if a.2.2 = 0 ∨ cr < a.2.1 ∨ (cr = a.2.1 ∧ co < a.1) then (co, cr, f) else a
     some (vp_updL c s (ql w.1), upd x s (qi w.2.1), upd p s (qi w.2.2))) := by
    intro j hj
    rw [J_isBetter_q _ _ _ _ (by omega) (by omega) hmn ha1]
    simp only [qb_0]
    by_cases h1 : a.2.2 = 0
    · simp [h1]
    · by_cases h2 : ((T f).2.1 + (T (s ^^^ f)).2.1 + j < a.2.1 ∨ ((T f).2.1 + (T (s ^^^ f)).2.1 + j = a.2.1 ∧ qmin ((T f).1 + (T (s ^^^ f)).1 + qsz g s) < a.1))
      · simp only [h1, h2]; simp
      · simp only [h1, h2]; simp
  unfold qwgh
  rcases q_dich (qjn g f (s ^^^ f)) with k | k
  · simp only [k, if_true]
    exact fin 1 (by omega)
  · simp only [k, if_neg (show ¬ (true = false) by decide)]
    exact fin 0 (by omega)
theorem B_findOf_q {g : Qg} {li ri : Nat → Int32} {sz : Nat → Int64} (hg : qGok g) (hS : qSets g li ri) (lin : Bool) (s : Nat) (h0 : s ≠ 0) (hs : s < 2 ^ qn g) (hsz : sz s = ql (qsz g s))
    (c : Nat → Int64) (x p : Nat → Int32) (h : qBt (qbest g lin) 0 c x p s) (N : Nat) (hN : 300 < N) :
    B_findOf N li ri sz c x p (qi s) (qi lin.toNat) = some (vp_updL c s (ql (qbest g lin s).1), upd x s (qi (qbest g lin s).2.1), upd p s (qi (qbest g lin s).2.2)) := by
  have hp8 := q_pow8 hg.1
  have hs' : s < 256 := by omega
  have hsp := qspl_lt s hs'
  have hT : ∀ x, x ≠ 0 → x < s → qbb x (qbest g lin x) := fun x _ hx => qbest_b g lin x (by omega)
  let A := fun i => ((List.range i).map (qnth s)).foldl (qbst g lin (qbest g lin) s) (0, 0, 0)
  have hA : ∀ i, i ≤ qspl s → qbb s (A i) := by
    intro i hi
    refine q_foldl_inv (qbb s) _ _ _ ⟨by decide, .inl rfl, .inl rfl⟩ ?_
    intro y f hf hy
    obtain ⟨j, hj, rfl⟩ := List.mem_map.mp hf
    unfold qbst
    split
    · exact qwgh_b g _ s hs' hT y _ (qnth_mem s hs' h0 j (by have := List.mem_range.mp hj; omega)) hy
    · exact hy
  have hAs : ∀ i, A (i + 1) = qbst g lin (qbest g lin) s (A i) (qnth s i) := by
    intro i
    simp only [A]
    rw [List.range_succ, List.map_append, List.foldl_append]
    rfl
  have hAn : A (qspl s) = qbest g lin s := by
    rw [qbest_eq g lin s hs']
    rcases qparts_nth s hs' with e | e
    · exact absurd e h0
    · rw [e]
  have key := qlp_for (body := fun y : (Nat → Int64) × (Nat → Int32) × (Nat → Int32) × Int32 × Int32 => B_findOf_b36 N li ri sz y.1 y.2.1 y.2.2.1 (qi s) (qi lin.toNat) (qi (qspl s)) y.2.2.2.1 y.2.2.2.2)
    (fun i => (vp_updL c s (ql (A i).1), upd x s (qi (A i).2.1), upd p s (qi (A i).2.2), qi (qnth s i), qi i)) (qspl s)
    (vp_updL c s (ql (qbest g lin s).1), upd x s (qi (qbest g lin s).2.1), upd p s (qi (qbest g lin s).2.2)) ?_ ?_ N (by omega)
  · simp (disch := omega) only [B_findOf, B_findOf_36, B_findOf_a36, B_findOf_87, qi_lit, qi_m1, qi_add, qi_mul, qi_and, qi_or, qi_xor, qi_not, qi_shl, qi_shr, qi_and31, qi_nat, qi_inb, qi_eq, qi_lt, qi_le, qi_sub, dn, db_some, dk_t, J_splitsOf_q, J_least_q, ql_lit]
    rw [show qlow s = qnth s 0 from rfl]
    rw [show (vp_updL c s (ql 0), upd x s (qi 0), upd p s (qi 0), qi (qnth s 0), qi 0) = (vp_updL c s (ql (A 0).1), upd x s (qi (A 0).2.1), upd p s (qi (A 0).2.2), qi (qnth s 0), qi 0) from rfl, key]
    rfl
  · intro i hi
    have hm := qnth_mem s hs' h0 i hi
    have ⟨a1, a2, a3, a4, a5, a6, a7⟩ := qparts_all hs' hm
    have hw := B_weigh_q hg hS (qbest g lin) s hs hsz hT c x p h (A i) (hA i (by omega)) (qnth s i) hm
    rw [hAs i]
    simp (disch := omega) only [B_findOf_b36, B_findOf_65, B_findOf_73, qi_lit, qi_m1, qi_add, qi_mul, qi_and, qi_or, qi_xor, qi_not, qi_shl, qi_shr, qi_and31, qi_nat, qi_inb, qi_eq, qi_lt, qi_le, qi_sub, dn, db_some, dk_t, if_neg (show ¬ qspl s ≤ i by omega), hw, J_isOne_q, qb_0, J_nextPart_q s hs' i hi]
    unfold qbst qbc
    cases lin with
    | false => simp
    | true =>
      rcases q_dich (qone (qnth s i)) with k1 | k1 <;> rcases q_dich (qone (s ^^^ qnth s i)) with k2 | k2 <;> simp [k1, k2]
  · simp (disch := omega) only [B_findOf_b36, qi_lit, qi_m1, qi_add, qi_mul, qi_and, qi_or, qi_xor, qi_not, qi_shl, qi_shr, qi_and31, qi_nat, qi_inb, qi_eq, qi_lt, qi_le, qi_sub]
    simp [hAn]
theorem qBt_s {T : Nat → Nat × Nat × Nat} {off : Nat} {c : Nat → Int64} {x p : Nat → Int32} {k : Nat} (h : qBt T off c x p k) : qBt T off (vp_updL c (off + k) (ql (T k).1)) (upd x (off + k) (qi (T k).2.1)) (upd p (off + k) (qi (T k).2.2)) (k + 1) := by
  intro s h0 hs
  by_cases e : s = k
  · subst e; rw [updL_self, upd_self, upd_self]; exact ⟨rfl, rfl, rfl⟩
  · rw [updL_ne _ _ (by omega), upd_ne _ _ (by omega), upd_ne _ _ (by omega)]
    exact h s h0 (by omega)
theorem B_find_q {g : Qg} {li ri cp : Nat → Int32} {sz : Nat → Int64} (hg : qGok g) (hS : qSets g li ri) (lin : Bool) (hsz : qSz g cp sz (2 ^ qn g))
    (kn : Int32) (c : Nat → Int64) (x p : Nat → Int32) (N : Nat) (hN : 300 < N) :
    ∃ c' x' p', B_find N (qi (2 ^ qn g)) kn li ri sz c x p (qi lin.toNat) = some (1, c', x', p') ∧ qBt (qbest g lin) 0 c' x' p' (2 ^ qn g) := by
  have hp8 := q_pow8 hg.1
  have hp0 := Nat.two_pow_pos (qn g)
  have key := qlp_rel (body := fun y : (Nat → Int64) × (Nat → Int32) × (Nat → Int32) × Int32 => B_find_b2 N (qi (2 ^ qn g)) kn li ri sz y.1 y.2.1 y.2.2.1 (qi lin.toNat) y.2.2.2)
    (Inv := fun i y => y.2.2.2 = qi (i + 1) ∧ qBt (qbest g lin) 0 y.1 y.2.1 y.2.2.1 (i + 1)) (2 ^ qn g - 1)
    (Q := fun y => qBt (qbest g lin) 0 y.1 y.2.1 y.2.2 (2 ^ qn g))
    (by
      rintro i ⟨c, x, p, ix⟩ hi ⟨rfl, h⟩
      simp only at h
      have := qBt_s h
      simp only [Nat.zero_add] at this
      refine ⟨(vp_updL c (i + 1) (ql (qbest g lin (i + 1)).1), upd x (i + 1) (qi (qbest g lin (i + 1)).2.1), upd p (i + 1) (qi (qbest g lin (i + 1)).2.2), qi (i + 1 + 1)), ?_, rfl, this⟩
      simp (disch := omega) only [B_find_b2, qi_lit, qi_m1, qi_add, qi_mul, qi_and, qi_or, qi_xor, qi_not, qi_shl, qi_shr, qi_and31, qi_nat, qi_inb, qi_eq, qi_lt, qi_le, qi_sub, dn, db_some, dk_t, if_neg (show ¬ 2 ^ qn g ≤ i + 1 by omega), B_findOf_q hg hS lin (i + 1) (by omega) (by omega) (hsz (i + 1) (by omega)).2 c x p h N hN])
    (by
      rintro ⟨c, x, p, ix⟩ ⟨h1, h2⟩
      rw [show 2 ^ qn g - 1 + 1 = 2 ^ qn g by omega] at h1 h2
      simp only at h1
      refine ⟨(c, x, p), ?_, h2⟩
      rw [h1]
      simp (disch := omega) only [B_find_b2, qi_lit, qi_m1, qi_add, qi_mul, qi_and, qi_or, qi_xor, qi_not, qi_shl, qi_shr, qi_and31, qi_nat, qi_inb, qi_eq, qi_lt, qi_le, qi_sub]
      simp)
    (c, x, p, qi 1) ⟨rfl, by intro s h1 h2; omega⟩ N (by omega)
  obtain ⟨⟨c', x', p'⟩, e, q⟩ := key
  refine ⟨c', x', p', ?_, q⟩
  unfold B_find B_find_2
  rw [show (1 : Int32) = qi 1 from rfl, e]
  rfl
