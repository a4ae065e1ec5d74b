def qxw (g : Qg) (s p : Nat) : Nat := (!qjn g p (s ^^^ p)).toNat
def qcw (g : Qg) (w : Nat) (s _p : Nat) : Nat := if qsub s w then qsz g s else 0
def qcr (g : Qg) (t : Qt) : Nat := qtw (qxw g) t
def qco (g : Qg) (w : Nat) (t : Qt) : Nat := qmin (qtw (qcw g w) t)
def qps (f : Nat → Nat → Nat) (l : List (Nat × Nat)) (i : Nat) : Nat := ((l.take i).map (fun x => f x.1 x.2)).sum
theorem qps_s (f : Nat → Nat → Nat) (l : List (Nat × Nat)) (i : Nat) (h : i < l.length) : qps f l (i + 1) = qps f l i + f l[i].1 l[i].2 := by
  unfold qps
  rw [← List.take_append_getElem h, List.map_append, List.sum_append]
  simp
theorem qps_n (f : Nat → Nat → Nat) (t : Qt) : qps f (qtn t) (qtn t).length = qtw f t := by
  unfold qps qtw
  rw [List.take_length]
theorem qps_le (f : Nat → Nat → Nat) (l : List (Nat × Nat)) (c : Nat) (hf : ∀ s p, f s p ≤ c) : ∀ i, i ≤ l.length → qps f l i ≤ c * i := by
  intro i
  induction i with
  | zero => intro _; simp [qps]
  | succ i ih =>
    intro h
    rw [qps_s f l i (by omega)]
    have := ih (by omega)
    have := hf l[i].1 l[i].2
    rw [Nat.mul_succ]
    omega
theorem qxw_le (g : Qg) (s p : Nat) : qxw g s p ≤ 1 := by unfold qxw; cases qjn g p (s ^^^ p) <;> decide
theorem qcw_le {g : Qg} (hg : qGok g) (w s p : Nat) : qcw g w s p ≤ qcap := by
  unfold qcw
  split
  · exact (qz_b hg s (qn g) (Nat.le_refl _)).2
  · omega
theorem S_crossesOf_q {g : Qg} {li ri : Nat → Int32} (hg : qGok g) (hS : qSets g li ri) (t : Qt) (h : qtok t) (ht : qts t < 2 ^ qn g) (st pt : Nat → Int32) (hq : qat (qtn t) 0 st pt) (N : Nat) (hN : 300 < N) :
    S_crossesOf N (qi (qtn t).length) pt st li ri = some (qi (qcr g t)) := by
  have hl := qtn_le t h
  have hp8 := q_pow8 hg.1
  have key := qlp_for (body := fun x : Int32 × Int32 => S_crossesOf_b4 N (qi (qtn t).length) pt st li ri x.1 x.2) (fun i => (qi (qps (qxw g) (qtn t) i), qi i)) (qtn t).length (qi (qcr g t)) ?_ ?_ N (by omega)
  · unfold S_crossesOf S_crossesOf_4
    rw [show ((0 : Int32), (0 : Int32)) = (qi (qps (qxw g) (qtn t) 0), qi 0) from rfl, key]
    rfl
  · intro i hi
    have hx : (qtn t)[i]? = some (qtn t)[i] := List.getElem?_eq_getElem hi
    have hst := hq i _ hx
    rw [Nat.zero_add] at hst
    have hsub := qtn_sub t h _ (List.mem_of_getElem? hx)
    have hle := q_sub_le hsub.1
    have ⟨a1, a2, a3, a4, a5, a6, a7⟩ := qparts_all hsub.2.2.1 hsub.2.2.2.1
    simp (disch := omega) only [S_crossesOf_b4, S_crossesOf_27, S_isCross, qi_lit, qi_m1, qi_add, qi_mul, qi_and, qi_or, qi_xor, qi_not, qi_shl, qi_shr, qi_and31, qi_nat, qi_inb, qi_eq, qi_lt, qi_le, qi_sub, dn, db_some, dk_t, if_neg (show ¬ (qtn t).length ≤ i by omega), hst.1, hst.2, S_areJoined_q hg hS _ _ (show (qtn t)[i].2 < 2 ^ qn g by omega) (show (qtn t)[i].1 ^^^ (qtn t)[i].2 < 2 ^ qn g by omega), qb_0]
    rw [qps_s _ _ _ hi]
    unfold qxw
    rcases q_dich (qjn g (qtn t)[i].2 ((qtn t)[i].1 ^^^ (qtn t)[i].2)) with k | k
    · simp only [k, if_true, dn, db_some, dk_t, show ∀ n, qi 1 = qi 0 ↔ False from fun _ => by decide]; simp
      simp [show ¬ (qi 1 = qi 0) by decide]
    · simp only [k]; simp [db_some]
  · simp (disch := omega) only [S_crossesOf_b4, qi_lit, qi_m1, qi_add, qi_mul, qi_and, qi_or, qi_xor, qi_not, qi_shl, qi_shr, qi_and31, qi_nat, qi_inb, qi_eq, qi_lt, qi_le, qi_sub]
    simp [qcr, qps_n]
theorem S_costOf_q {g : Qg} {cp : Nat → Int32} {sz : Nat → Int64} (hg : qGok g) (hz : qSz g cp sz (2 ^ qn g)) (t : Qt) (h : qtok t) (ht : qts t < 2 ^ qn g) (st pt : Nat → Int32) (hq : qat (qtn t) 0 st pt) (w : Nat) (N : Nat) (hN : 300 < N) :
    S_costOf N (qi (qtn t).length) st sz (qi w) = some (ql (qco g w t)) := by
  have hl := qtn_le t h
  have hp8 := q_pow8 hg.1
  have hc : qcap = 1000000000000000 := rfl
  have hle : ∀ i, i ≤ (qtn t).length → qps (qcw g w) (qtn t) i ≤ 7000000000000000 := by
    intro i hi
    have := qps_le (qcw g w) (qtn t) qcap (fun s p => qcw_le hg w s p) i hi
    rw [hc] at this
    omega
  have key := qlp_for (body := fun x : Int64 × Int32 => S_costOf_b5 N (qi (qtn t).length) st sz (qi w) x.1 x.2) (fun i => (ql (qps (qcw g w) (qtn t) i), qi i)) (qtn t).length (ql (qtw (qcw g w) t)) ?_ ?_ N (by omega)
  · unfold S_costOf S_costOf_5
    rw [show ((0 : Int64), (0 : Int32)) = (ql (qps (qcw g w) (qtn t) 0), qi 0) from rfl, key, db_some]
    have := hle (qtn t).length (Nat.le_refl _)
    rw [qps_n] at this
    exact congrArg some (qmin_J _ (by omega))
  · intro i hi
    have hx : (qtn t)[i]? = some (qtn t)[i] := List.getElem?_eq_getElem hi
    have hst := hq i _ hx
    rw [Nat.zero_add] at hst
    have hsub := qtn_sub t h _ (List.mem_of_getElem? hx)
    have hle' := q_sub_le hsub.1
    have hsz := (hz _ (show (qtn t)[i].1 < 2 ^ qn g by omega)).2
    have hxl : (qtn t)[i].1 ^^^ ((qtn t)[i].1 &&& w) < 2147483648 := by
      have : (qtn t)[i].1 ^^^ ((qtn t)[i].1 &&& w) < 2 ^ 8 := Nat.xor_lt_two_pow hsub.2.2.1 (Nat.lt_of_le_of_lt Nat.and_le_left hsub.2.2.1)
      omega
    simp (disch := omega) only [S_costOf_b5, qi_lit, qi_m1, qi_add, qi_mul, qi_and, qi_or, qi_xor, qi_not, qi_shl, qi_shr, qi_and31, qi_nat, qi_inb, qi_eq, qi_lt, qi_le, qi_sub, dn, db_some, dk_t, if_neg (show ¬ (qtn t).length ≤ i by omega), hst.1, hsz, ql_add, q_xor0]
    rw [qps_s _ _ _ hi]
    unfold qcw qsub
    by_cases e : (qtn t)[i].1 &&& w = (qtn t)[i].1
    · rw [if_pos e.symm, e]; simp
    · rw [if_neg (fun e' => e e'.symm)]; simp [e]
  · simp (disch := omega) only [S_costOf_b5, qi_lit, qi_m1, qi_add, qi_mul, qi_and, qi_or, qi_xor, qi_not, qi_shl, qi_shr, qi_and31, qi_nat, qi_inb, qi_eq, qi_lt, qi_le, qi_sub]
    simp [qps_n]
def qRp (t : Qt) (p : Nat → Int32) : Prop := ∀ s, s < 256 → p s = qi (qpf t s)
theorem qpf_lt (t : Qt) (h : qtok t) (s : Nat) : qpf t s < 256 := by
  by_cases k : qpf t s = 0
  · omega
  · have := qpf_sub t h s k
    have := (qparts_all this.2.2.1 this.2.2.2).2.2.2.2.2.1
    exact this
theorem qpf_0 (t : Qt) (h : qtok t) : qpf t 0 = 0 := by
  by_cases k : qpf t 0 = 0
  · exact k
  · exact absurd rfl (qpf_sub t h 0 k).2.1
theorem R_crossesOfParts_q {g : Qg} {all p : Nat → Int32} (hg : qGok g) (hr : qRg g all) (t : Qt) (h : qtok t) (hp : qRp t p) (N : Nat) (hN : 300 < N) :
    R_crossesOfParts N all p = some (qi (qcr g t)) := by
  have key := qlp_for (body := fun x : Int32 × Int32 => R_crossesOfParts_b4 N all p x.1 x.2) (fun i => (qi (qsm (qwt (qxw g) t) (i + 1)), qi (i + 1))) 255 (qi (qcr g t)) ?_ ?_ N (by omega)
  · unfold R_crossesOfParts R_crossesOfParts_4
    rw [show ((0 : Int32), (1 : Int32)) = (qi (qsm (qwt (qxw g) t) (0 + 1)), qi (0 + 1)) from by
      rw [qsm_s, show qwt (qxw g) t 0 = 0 from by unfold qwt; rw [qpf_0 t h]; rfl]; rfl, key]
    rfl
  · intro i hi
    have hpi := hp (i + 1) (by omega)
    have hlt := qpf_lt t h (i + 1)
    rw [qsm_s (qwt (qxw g) t) (i + 1)]
    by_cases k : qpf t (i + 1) = 0
    · have hw : qwt (qxw g) t (i + 1) = 0 := by unfold qwt; rw [if_pos k]
      simp (disch := omega) only [R_crossesOfParts_b4, R_crossesOfParts_48, R_crossesOfParts_49, qi_lit, qi_m1, qi_add, qi_mul, qi_and, qi_or, qi_xor, qi_not, qi_shl, qi_shr, qi_and31, qi_nat, qi_inb, qi_eq, qi_lt, qi_le, qi_sub, dn, db_some, dk_t, if_neg (show ¬ 256 ≤ i + 1 by omega), hpi, if_pos (show qpf t (i + 1) ≤ 0 by omega), hw]
    · have hs := qpf_sub t h _ k
      have ⟨a1, a2, a3, a4, a5, a6, a7⟩ := qparts_all hs.2.2.1 hs.2.2.2
      have hx := q_and_xor a3
      have hw : qwt (qxw g) t (i + 1) = (!qjn g (qpf t (i + 1)) ((i + 1) ^^^ qpf t (i + 1))).toNat := by unfold qwt; rw [if_neg k]; rfl
      simp (disch := omega) only [R_crossesOfParts_b4, R_crossesOfParts_48, R_crossesOfParts_49, qi_lit, qi_m1, qi_add, qi_mul, qi_and, qi_or, qi_xor, qi_not, qi_shl, qi_shr, qi_and31, qi_nat, qi_inb, qi_eq, qi_lt, qi_le, qi_sub, dn, db_some, dk_t, if_neg (show ¬ 256 ≤ i + 1 by omega), hpi, if_neg (show ¬ qpf t (i + 1) ≤ 0 by omega), hx, R_isJoined_q hg hr _ _ N (by omega), qb_0, hw]
      rcases q_dich (qjn g (qpf t (i + 1)) ((i + 1) ^^^ qpf t (i + 1))) with k | k <;> simp [k]
  · simp (disch := omega) only [R_crossesOfParts_b4, qi_lit, qi_m1, qi_add, qi_mul, qi_and, qi_or, qi_xor, qi_not, qi_shl, qi_shr, qi_and31, qi_nat, qi_inb, qi_eq, qi_lt, qi_le, qi_sub, if_pos (show 256 ≤ 255 + 1 by omega)]
    rw [show (255 + 1 : Nat) = 256 from rfl, qtw_sum _ t h]
    simp [qcr]
theorem R_costOfParts_q {g : Qg} {p : Nat → Int32} {sz : Nat → Int64} (hg : qGok g) (t : Qt) (h : qtok t) (ht : qts t < 2 ^ qn g) (hz : ∀ s, s ≠ 0 → s < 2 ^ qn g → sz s = ql (qsz g s)) (hp : qRp t p) (w : Nat) (N : Nat) (hN : 300 < N) :
    R_costOfParts N p sz (qi w) = some (ql (qco g w t)) := by
  have hc : qcap = 1000000000000000 := rfl
  have key := qlp_for (body := fun x : Int64 × Int32 => R_costOfParts_b5 N p sz (qi w) x.1 x.2) (fun i => (ql (qmin (qsm (qwt (qcw g w) t) (i + 1))), qi (i + 1))) 255 (ql (qco g w t)) ?_ ?_ N (by omega)
  · unfold R_costOfParts R_costOfParts_5
    rw [show ((0 : Int64), (1 : Int32)) = (ql (qmin (qsm (qwt (qcw g w) t) (0 + 1))), qi (0 + 1)) from by
      rw [qsm_s, show qwt (qcw g w) t 0 = 0 from by unfold qwt; rw [qpf_0 t h]; rfl]; rfl, key]
    rfl
  · intro i hi
    have hpi := hp (i + 1) (by omega)
    have hlt := qpf_lt t h (i + 1)
    rw [qsm_s (qwt (qcw g w) t) (i + 1)]
    by_cases k : qpf t (i + 1) = 0
    · have hw : qwt (qcw g w) t (i + 1) = 0 := by unfold qwt; rw [if_pos k]
      simp (disch := omega) only [R_costOfParts_b5, R_costOfParts_46, R_costOfParts_47, qi_lit, qi_m1, qi_add, qi_mul, qi_and, qi_or, qi_xor, qi_not, qi_shl, qi_shr, qi_and31, qi_nat, qi_inb, qi_eq, qi_lt, qi_le, qi_sub, dn, db_some, dk_t, if_neg (show ¬ 256 ≤ i + 1 by omega), hpi, if_pos (show qpf t (i + 1) ≤ 0 by omega), hw, Nat.add_zero]
    · have hs := qpf_sub t h _ k
      have hle := q_sub_le hs.1
      have hszi := hz (i + 1) (by omega) (by omega)
      have hszb : qsz g (i + 1) ≤ qcap := (qz_b hg (i + 1) (qn g) (Nat.le_refl _)).2
      have hmn := qmin_le (qsm (qwt (qcw g w) t) (i + 1))
      have hw : qwt (qcw g w) t (i + 1) = if qsub (i + 1) w then qsz g (i + 1) else 0 := by unfold qwt; rw [if_neg k]; rfl
      simp (disch := omega) only [R_costOfParts_b5, R_costOfParts_46, R_costOfParts_47, qi_lit, qi_m1, qi_add, qi_mul, qi_and, qi_or, qi_xor, qi_not, qi_shl, qi_shr, qi_and31, qi_nat, qi_inb, qi_eq, qi_lt, qi_le, qi_sub, dn, db_some, dk_t, if_neg (show ¬ 256 ≤ i + 1 by omega), hpi, if_neg (show ¬ qpf t (i + 1) ≤ 0 by omega), R_isIn_q, qb_0, hszi, R_sum_q, qmin_min, hw]
      rcases q_dich (qsub (i + 1) w) with k | k <;> simp [k]
  · simp (disch := omega) only [R_costOfParts_b5, qi_lit, qi_m1, qi_add, qi_mul, qi_and, qi_or, qi_xor, qi_not, qi_shl, qi_shr, qi_and31, qi_nat, qi_inb, qi_eq, qi_lt, qi_le, qi_sub, if_pos (show 256 ≤ 255 + 1 by omega)]
    rw [show (255 + 1 : Nat) = 256 from rfl, qtw_sum _ t h]
    rfl
theorem R_joinMany_q {p : Nat → Int32} (t : Qt) (h : qtok t) (hp : qRp t p) (N : Nat) (hN : 300 < N) :
    R_joinMany N p = some (qi (qtn t).length) := by
  have e1 : qtw (fun _ _ => 1) t = (qtn t).length := by
    unfold qtw
    rw [List.map_const', List.sum_replicate_nat]; simp
  have key := qlp_for (body := fun x : Int32 × Int32 => R_joinMany_b4 N p x.1 x.2) (fun i => (qi (qsm (qwt (fun _ _ => 1) t) i), qi i)) 256 (qi (qtn t).length) ?_ ?_ N (by omega)
  · unfold R_joinMany R_joinMany_4
    rw [show ((0 : Int32), (0 : Int32)) = (qi (qsm (qwt (fun _ _ => 1) t) 0), qi 0) from rfl, key]
    rfl
  · intro i hi
    have hpi := hp i (by omega)
    have hlt := qpf_lt t h i
    rw [qsm_s (qwt (fun _ _ => 1) t) i]
    by_cases k : qpf t i = 0
    · have hw : qwt (fun _ _ => 1) t i = 0 := by unfold qwt; rw [if_pos k]
      simp (disch := omega) only [R_joinMany_b4, R_joinMany_26, qi_lit, qi_m1, qi_add, qi_mul, qi_and, qi_or, qi_xor, qi_not, qi_shl, qi_shr, qi_and31, qi_nat, qi_inb, qi_eq, qi_lt, qi_le, qi_sub, dn, db_some, dk_t, if_neg (show ¬ 256 ≤ i by omega), hpi, if_pos (show qpf t i ≤ 0 by omega), hw]
    · have hw : qwt (fun _ _ => 1) t i = 1 := by unfold qwt; rw [if_neg k]
      simp (disch := omega) only [R_joinMany_b4, R_joinMany_26, qi_lit, qi_m1, qi_add, qi_mul, qi_and, qi_or, qi_xor, qi_not, qi_shl, qi_shr, qi_and31, qi_nat, qi_inb, qi_eq, qi_lt, qi_le, qi_sub, dn, db_some, dk_t, if_neg (show ¬ 256 ≤ i by omega), hpi, if_neg (show ¬ qpf t i ≤ 0 by omega), hw]
  · simp (disch := omega) only [R_joinMany_b4, qi_lit, qi_m1, qi_add, qi_mul, qi_and, qi_or, qi_xor, qi_not, qi_shl, qi_shr, qi_and31, qi_nat, qi_inb, qi_eq, qi_lt, qi_le, qi_sub, if_pos (show 256 ≤ 256 by omega)]
    rw [qtw_sum _ t h, e1]
theorem R_takesPlan_q (all p : Nat → Int32) (N : Nat) (hN : 300 < N) : ∃ p', R_takesPlan N all p = some p' ∧ ∀ s, s < 256 → p' s = all (60 + s) := by
  have key := qlp_rel (body := fun x : (Nat → Int32) × Int32 => R_takesPlan_b2 N all x.1 x.2) (Inv := fun i x => x.2 = qi i ∧ ∀ s, s < i → x.1 s = all (60 + s)) 256 (Q := fun y => ∀ s, s < 256 → y s = all (60 + s))
    (by
      rintro i ⟨f, x⟩ hi ⟨rfl, h⟩
      refine ⟨(upd f i (all (60 + i)), qi (i + 1)), ?_, rfl, ?_⟩
      · simp (disch := omega) only [R_takesPlan_b2, qi_lit, qi_m1, qi_add, qi_mul, qi_and, qi_or, qi_xor, qi_not, qi_shl, qi_shr, qi_and31, qi_nat, qi_inb, qi_eq, qi_lt, qi_le, qi_sub, dn, db_some, dk_t, if_neg (show ¬ 256 ≤ i by omega)]
      · intro s hs
        by_cases e : s = i
        · subst e; exact upd_self _ _ _
        · rw [show (upd f i (all (60 + i)), qi (i + 1)).1 = upd f i (all (60 + i)) from rfl, upd_ne _ _ e]; exact h s (by omega))
    (by
      rintro ⟨f, x⟩ ⟨rfl, h⟩
      exact ⟨f, by simp (disch := omega) only [R_takesPlan_b2, qi_lit, qi_m1, qi_add, qi_mul, qi_and, qi_or, qi_xor, qi_not, qi_shl, qi_shr, qi_and31, qi_nat, qi_inb, qi_eq, qi_lt, qi_le, qi_sub]; simp, h⟩)
    (p, qi 0) ⟨rfl, by intro s h; omega⟩ N (by omega)
  obtain ⟨y, e, q⟩ := key
  refine ⟨y, ?_, q⟩
  unfold R_takesPlan R_takesPlan_2
  rw [show (0 : Int32) = qi 0 from rfl, e]
  rfl
theorem R_noParts_q (p : Nat → Int32) (N : Nat) (hN : 300 < N) : ∃ p', R_noParts N p = some p' ∧ ∀ s, s < 256 → p' s = qi 0 := by
  have key := qlp_rel (body := fun x : (Nat → Int32) × Int32 => R_noParts_b2 N x.1 x.2) (Inv := fun i x => x.2 = qi i ∧ ∀ s, s < i → x.1 s = qi 0) 256 (Q := fun y => ∀ s, s < 256 → y s = qi 0)
    (by
      rintro i ⟨f, x⟩ hi ⟨rfl, h⟩
      refine ⟨(upd f i (qi 0), qi (i + 1)), ?_, rfl, ?_⟩
      · simp (disch := omega) only [R_noParts_b2, qi_lit, qi_m1, qi_add, qi_mul, qi_and, qi_or, qi_xor, qi_not, qi_shl, qi_shr, qi_and31, qi_nat, qi_inb, qi_eq, qi_lt, qi_le, qi_sub, dn, db_some, dk_t, if_neg (show ¬ 256 ≤ i by omega)]
      · intro s hs
        by_cases e : s = i
        · subst e; exact upd_self _ _ _
        · rw [show (upd f i (qi 0), qi (i + 1)).1 = upd f i (qi 0) from rfl, upd_ne _ _ e]; exact h s (by omega))
    (by
      rintro ⟨f, x⟩ ⟨rfl, h⟩
      exact ⟨f, by simp (disch := omega) only [R_noParts_b2, qi_lit, qi_m1, qi_add, qi_mul, qi_and, qi_or, qi_xor, qi_not, qi_shl, qi_shr, qi_and31, qi_nat, qi_inb, qi_eq, qi_lt, qi_le, qi_sub]; simp, h⟩)
    (p, qi 0) ⟨rfl, by intro s h; omega⟩ N (by omega)
  obtain ⟨y, e, q⟩ := key
  refine ⟨y, ?_, q⟩
  unfold R_noParts R_noParts_2
  rw [show (0 : Int32) = qi 0 from rfl, e]
  rfl
theorem R_isPlanNow_q (all p : Nat → Int32) (w : Int32) (N : Nat) (hN : 300 < N) : ∃ a', R_isPlanNow N all p w = some a' ∧ a' 59 = w ∧ (∀ s, s < 256 → a' (60 + s) = p s) ∧ ∀ j, j < 59 ∨ 316 ≤ j → a' j = all j := by
  have key := qlp_rel (body := fun x : (Nat → Int32) × Int32 => R_isPlanNow_b10 N x.1 p x.2) (Inv := fun i x => x.2 = qi i ∧ x.1 59 = w ∧ (∀ s, s < i → x.1 (60 + s) = p s) ∧ ∀ j, j < 59 ∨ 316 ≤ j → x.1 j = all j) 256
    (Q := fun y => y 59 = w ∧ (∀ s, s < 256 → y (60 + s) = p s) ∧ ∀ j, j < 59 ∨ 316 ≤ j → y j = all j)
    (by
      rintro i ⟨f, x⟩ hi ⟨rfl, h1, h2, h3⟩
      simp only at h1 h2 h3
      refine ⟨(upd f (60 + i) (p i), qi (i + 1)), ?_, rfl, ?_, ?_, ?_⟩
      · simp (disch := omega) only [R_isPlanNow_b10, qi_lit, qi_m1, qi_add, qi_mul, qi_and, qi_or, qi_xor, qi_not, qi_shl, qi_shr, qi_and31, qi_nat, qi_inb, qi_eq, qi_lt, qi_le, qi_sub, dn, db_some, dk_t, if_neg (show ¬ 256 ≤ i by omega)]
      · exact (upd_ne _ _ (by omega)).trans h1
      · intro s hs
        show upd f (60 + i) (p i) (60 + s) = _
        by_cases e : s = i
        · subst e; exact upd_self _ _ _
        · rw [upd_ne _ _ (by omega)]; exact h2 s (by omega)
      · intro j hj
        exact (upd_ne _ _ (by omega)).trans (h3 j hj))
    (by
      rintro ⟨f, x⟩ ⟨rfl, h⟩
      exact ⟨f, by simp (disch := omega) only [R_isPlanNow_b10, qi_lit, qi_m1, qi_add, qi_mul, qi_and, qi_or, qi_xor, qi_not, qi_shl, qi_shr, qi_and31, qi_nat, qi_inb, qi_eq, qi_lt, qi_le, qi_sub]; simp, h⟩)
    (upd all 59 w, qi 0) ⟨rfl, show upd all 59 w 59 = w from upd_self _ _ _, by intro s h; omega, fun j hj => show upd all 59 w j = all j from upd_ne _ _ (by omega)⟩ N (by omega)
  obtain ⟨y, e, q⟩ := key
  refine ⟨y, ?_, q⟩
  simp (disch := omega) only [R_isPlanNow, R_isPlanNow_10, qi_lit, qi_m1, qi_add, qi_mul, qi_and, qi_or, qi_xor, qi_not, qi_shl, qi_shr, qi_and31, qi_nat, qi_inb, qi_eq, qi_lt, qi_le, qi_sub, dn, db_some, dk_t]
  rw [e]
  rfl
