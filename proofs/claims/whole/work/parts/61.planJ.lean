def qat (l : List (Nat × Nat)) (off : Nat) (st pt : Nat → Int32) : Prop := ∀ i x, l[i]? = some x → st (off + i) = qi x.1 ∧ pt (off + i) = qi x.2
theorem qat_c {l1 l2 : List (Nat × Nat)} {off : Nat} {st pt : Nat → Int32} (h1 : qat l1 off st pt) (h2 : qat l2 (off + l1.length) st pt) : qat (l1 ++ l2) off st pt := by
  intro i x h
  by_cases hi : i < l1.length
  · rw [List.getElem?_append_left hi] at h
    exact h1 i x h
  · rw [List.getElem?_append_right (by omega)] at h
    have := h2 (i - l1.length) x h
    rwa [show off + l1.length + (i - l1.length) = off + i by omega] at this
theorem qat_f {l : List (Nat × Nat)} {off : Nat} {st pt st' pt' : Nat → Int32} (h : qat l off st pt) (e : ∀ i, i < off + l.length → st' i = st i ∧ pt' i = pt i) : qat l off st' pt' := by
  intro i x hx
  have hi := (List.getElem?_eq_some_iff.mp hx).1
  have := e (off + i) (by omega)
  rw [this.1, this.2]
  exact h i x hx
theorem P_place_q : ∀ t, qtok t → ∀ (K d j : Nat) (sp pt st : Nat → Int32), (∀ x, x ∈ qtn t → sp x.1 = qi x.2) → (qtn t).length < K → d + (qtn t).length ≤ 7 → j + (qtn t).length ≤ 7 →
    ∃ pt' st', P_place K sp (qi j) pt st (qi (qts t)) (qi d) = some (qi (j + (qtn t).length), pt', st') ∧ (∀ i, i < j → st' i = st i ∧ pt' i = pt i) ∧ qat (qtn t) j st' pt' := by
  intro t
  induction t with
  | var r =>
    intro h K d j sp pt st hsp hK hd hj
    have hb := qts_lt _ h
    have hl := qtn_len _ h
    refine ⟨pt, st, ?_, fun i _ => ⟨rfl, rfl⟩, fun i x hx => by cases hx⟩
    cases K with
    | zero => omega
    | succ K =>
      have hd' : d ≤ 7 := by omega
      have hpop : qpop (qts (.var r)) = 1 := hl.symm
      simp (disch := omega) only [P_place, qi_lit, qi_m1, qi_add, qi_mul, qi_and, qi_or, qi_xor, qi_not, qi_shl, qi_shr, qi_and31, qi_nat, qi_inb, qi_eq, qi_lt, qi_le, qi_sub, I_bitCount_q _ hb.1, hpop, Nat.reduceLeDiff, if_false]
      split
      · rfl
      · split
        · rfl
        · split <;> rfl
  | op a b iha ihb =>
    intro h K d j sp pt st hsp hK hd hj
    have ho := qtok_op h
    have hl := qtn_len _ h
    have hlen : (qtn (.op a b)).length = (qtn a).length + (qtn b).length + 1 := by
      show ((_, _) :: (qtn a ++ qtn b)).length = _
      simp
    have hlt : qts a ||| qts b < 256 := ho.2.2.1
    have hpop : qpop (qts a ||| qts b) = (qtn (.op a b)).length + 1 := hl.symm
    have hroot : sp (qts a ||| qts b) = qi (qts a) := hsp (qts a ||| qts b, qts a) (List.mem_cons_self ..)
    have hal := (qts_lt a h.1).1
    cases K with
    | zero => omega
    | succ K =>
      obtain ⟨p1, s1, e1, f1, q1⟩ := iha h.1 K (d + 1) (j + 1) sp (upd pt j (qi (qts a))) (upd st j (qi (qts a ||| qts b)))
        (fun x hx => hsp x (List.mem_cons_of_mem _ (List.mem_append_left _ hx))) (by omega) (by omega) (by omega)
      obtain ⟨p2, s2, e2, f2, q2⟩ := ihb h.2.1 K (d + 1) (j + 1 + (qtn a).length) sp p1 s1
        (fun x hx => hsp x (List.mem_cons_of_mem _ (List.mem_append_right _ hx))) (by omega) (by omega) (by omega)
      refine ⟨p2, s2, ?_, ?_, ?_⟩
      · show P_place (K + 1) sp (qi j) pt st (qi (qts a ||| qts b)) (qi d) = _
        simp (disch := omega) only [P_place, qi_lit, qi_m1, qi_add, qi_mul, qi_and, qi_or, qi_xor, qi_not, qi_shl, qi_shr, qi_and31, qi_nat, qi_inb, qi_eq, qi_lt, qi_le, qi_sub, dn, db_some, dk_t, I_bitCount_q _ hlt, if_neg (show ¬ 7 ≤ d by omega), if_neg (show ¬ 7 ≤ j by omega), if_neg (show ¬ 256 ≤ qts a ||| qts b by omega), if_pos (show 2 ≤ qpop (qts a ||| qts b) by omega), hroot, e1, ho.2.1, e2]
        rw [show j + 1 + (qtn a).length + (qtn b).length = j + (qtn (.op a b)).length by omega]
      · intro i hi
        have g1 := f1 i (by omega)
        have g2 := f2 i (by omega)
        rw [g2.1, g2.2, g1.1, g1.2, upd_ne _ _ (by omega), upd_ne _ _ (by omega)]
        exact ⟨rfl, rfl⟩
      · have q1' : qat (qtn a) (j + 1) s2 p2 := qat_f q1 (fun i hi => f2 i hi)
        have q0 : qat [(qts a ||| qts b, qts a)] j s2 p2 := by
          intro i x hx
          have hi : i = 0 := by
            have := (List.getElem?_eq_some_iff.mp hx).1
            simpa using this
          subst hi
          have hx : x = (qts a ||| qts b, qts a) := by simpa using hx.symm
          subst hx
          have g1 := f1 j (by omega)
          have g2 := f2 j (by omega)
          rw [Nat.add_zero, g2.1, g2.2, g1.1, g1.2, upd_self, upd_self]
          exact ⟨rfl, rfl⟩
        have := qat_c q0 (qat_c (show qat (qtn a) (j + 1) s2 p2 from q1') q2)
        exact this
theorem P_take_q (t : Qt) (h : qtok t) (sp pt st : Nat → Int32) (ro jo : Int32) (hsp : ∀ x, x ∈ qtn t → sp x.1 = qi x.2) :
    ∃ pt' st', P_take sp ro jo pt st (qi (qts t)) = some (qi (qts t), qi (qtn t).length, pt', st') ∧ qat (qtn t) 0 st' pt' := by
  have hl := qtn_le t h
  obtain ⟨p1, s1, e1, f1, q1⟩ := P_place_q t h 9 0 0 sp pt st hsp (by omega) (by omega) (by omega)
  rw [Nat.zero_add] at e1
  refine ⟨p1, s1, ?_, q1⟩
  unfold P_take
  rw [show (0 : Int32) = qi 0 from rfl, e1]
  rfl
theorem qpf_mem : ∀ t, qtok t → ∀ x, x ∈ qtn t → qpf t x.1 = x.2 := by
  intro t
  induction t with
  | var r => intro _ x hx; cases hx
  | op a b iha ihb =>
    intro h x hx
    rcases List.mem_cons.mp hx with rfl | hx
    · exact qpf_root
    · rcases List.mem_append.mp hx with hx | hx
      · have := qtn_sub a h.1 x hx
        rw [qpf_l h this.1 this.2.1]
        exact iha h.1 x hx
      · have := qtn_sub b h.2.1 x hx
        rw [qpf_r h this.1 this.2.1]
        exact ihb h.2.1 x hx
theorem qpf_mem' : ∀ t, qtok t → ∀ s, qpf t s ≠ 0 → (s, qpf t s) ∈ qtn t := by
  intro t
  induction t with
  | var r => intro _ s hs; exact absurd rfl hs
  | op a b iha ihb =>
    intro h s hs
    by_cases e : s = qts a ||| qts b
    · subst e
      rw [show qpf (.op a b) (qts a ||| qts b) = qts a from qpf_root]
      exact List.mem_cons_self ..
    · have hh : qpf (.op a b) s = qpf a s + qpf b s := if_neg e
      by_cases ka : qpf a s = 0
      · have kb : qpf b s ≠ 0 := by omega
        rw [hh, ka, Nat.zero_add]
        exact List.mem_cons_of_mem _ (List.mem_append_right _ (ihb h.2.1 s kb))
      · have A := qpf_sub a h.1 s ka
        rw [qpf_l h A.1 A.2.1]
        exact List.mem_cons_of_mem _ (List.mem_append_left _ (iha h.1 s ka))
theorem P_partOf_q (t : Qt) (h : qtok t) (st pt : Nat → Int32) (hq : qat (qtn t) 0 st pt) (s : Nat) (hs : s < 256) (N : Nat) (hN : 300 < N) :
    P_partOf N (qi (qtn t).length) pt st (qi s) = some (qi (qpf t s)) := by
  have hl := qtn_le t h
  have key := qlp_inv (body := fun x => P_partOf_b2 N (qi (qtn t).length) pt st (qi s) x) (Inv := fun x => ∃ i, i ≤ (qtn t).length ∧ x = qi i ∧ ∀ (j : Nat) (y : Nat × Nat), j < i → (qtn t)[j]? = some y → y.1 ≠ s)
    (mu := fun x => (qtn t).length - x.toNatClampNeg) (Q := fun y => (∃ (i : Nat) (x : Nat × Nat), y = .inl (qi i) ∧ (qtn t)[i]? = some x ∧ x.1 = s) ∨ (y = .inr () ∧ ∀ (j : Nat) (z : Nat × Nat), (qtn t)[j]? = some z → z.1 ≠ s)) ?_ (qi 0) ⟨0, by omega, rfl, by intro j y hj; omega⟩ N (by rw [qi_nat _ (by omega)]; omega)
  · obtain ⟨y, e, q⟩ := key
    unfold P_partOf P_partOf_2
    rw [show (0 : Int32) = qi 0 from rfl, e, db_some]
    rcases q with ⟨i, x, rfl, hx, rfl⟩ | ⟨rfl, q⟩
    · have hi := (List.getElem?_eq_some_iff.mp hx).1
      have := (hq i x hx).2
      rw [Nat.zero_add] at this
      simp (disch := omega) only [P_partOf_a2, P_partOf_20, qi_lit, qi_m1, qi_add, qi_mul, qi_and, qi_or, qi_xor, qi_not, qi_shl, qi_shr, qi_and31, qi_nat, qi_inb, qi_eq, qi_lt, qi_le, qi_sub, dn, db_some, dk_t, this]
      rw [qpf_mem t h x (List.mem_of_getElem? hx)]
    · have : qpf t s = 0 := by
        by_cases k : qpf t s = 0
        · exact k
        · obtain ⟨j, hj⟩ := List.getElem?_of_mem (qpf_mem' t h s k)
          exact absurd rfl (q j _ hj)
      rw [this]
      rfl
  · rintro x ⟨i, hi, rfl, hlt⟩
    by_cases he : (qtn t).length ≤ i
    · right
      refine ⟨.inr (), by simp (disch := omega) only [P_partOf_b2, qi_lit, qi_m1, qi_add, qi_mul, qi_and, qi_or, qi_xor, qi_not, qi_shl, qi_shr, qi_and31, qi_nat, qi_inb, qi_eq, qi_lt, qi_le, qi_sub, if_pos he], .inr ⟨rfl, ?_⟩⟩
      intro j y hy
      have := (List.getElem?_eq_some_iff.mp hy).1
      exact hlt j y (by omega) hy
    · have hx : (qtn t)[i]? = some (qtn t)[i] := List.getElem?_eq_getElem (by omega)
      have hst := (hq i _ hx).1
      rw [Nat.zero_add] at hst
      have hsub := qtn_sub t h _ (List.mem_of_getElem? hx)
      by_cases e : (qtn t)[i].1 = s
      · right
        refine ⟨.inl (qi i), ?_, .inl ⟨i, _, rfl, hx, e⟩⟩
        simp (disch := omega) only [P_partOf_b2, qi_lit, qi_m1, qi_add, qi_mul, qi_and, qi_or, qi_xor, qi_not, qi_shl, qi_shr, qi_and31, qi_nat, qi_inb, qi_eq, qi_lt, qi_le, qi_sub, dn, db_some, dk_t, if_neg he, hst, if_pos e]
      · left
        refine ⟨qi (i + 1), ?_, ⟨i + 1, by omega, rfl, ?_⟩, ?_⟩
        · simp (disch := omega) only [P_partOf_b2, qi_lit, qi_m1, qi_add, qi_mul, qi_and, qi_or, qi_xor, qi_not, qi_shl, qi_shr, qi_and31, qi_nat, qi_inb, qi_eq, qi_lt, qi_le, qi_sub, dn, db_some, dk_t, if_neg he, hst, if_neg e]
        · intro j y hj hy
          by_cases ej : j = i
          · subst ej
            rw [hx] at hy
            rw [← Option.some.inj hy]
            exact e
          · exact hlt j y (by omega) hy
        · rw [qi_nat _ (by omega), qi_nat _ (by omega)]; omega
def qtl : Qt → List Nat
  | .var r => [48 + r]
  | .op a b => [40] ++ qtl a ++ [32] ++ qtl b ++ [41]
theorem qtl_len : ∀ t, (qtl t).length = 4 * (qtn t).length + 1 := by
  intro t
  induction t with
  | var r => rfl
  | op a b iha ihb =>
    show ([40] ++ qtl a ++ [32] ++ qtl b ++ [41]).length = 4 * ((_, _) :: (qtn a ++ qtn b)).length + 1
    simp [iha, ihb]
    omega
def qout (l : List Nat) (k : Nat) (w : Nat → Int32) : Prop := ∀ i c, l[i]? = some c → w (k + i) = qi c
theorem qout_c {l1 l2 : List Nat} {k : Nat} {w : Nat → Int32} (h1 : qout l1 k w) (h2 : qout l2 (k + l1.length) w) : qout (l1 ++ l2) k w := by
  intro i x h
  by_cases hi : i < l1.length
  · rw [List.getElem?_append_left hi] at h
    exact h1 i x h
  · rw [List.getElem?_append_right (by omega)] at h
    have := h2 (i - l1.length) x h
    rwa [show k + l1.length + (i - l1.length) = k + i by omega] at this
theorem qout_f {l : List Nat} {k : Nat} {w w' : Nat → Int32} (h : qout l k w) (e : ∀ i, i < k + l.length → w' i = w i) : qout l k w' := by
  intro i c hc
  have hi := (List.getElem?_eq_some_iff.mp hc).1
  rw [e (k + i) (by omega)]
  exact h i c hc
theorem qout_1 (c k : Nat) (w : Nat → Int32) (h : w k = qi c) : qout [c] k w := by
  intro i x hx
  have hi : i = 0 := by
    have := (List.getElem?_eq_some_iff.mp hx).1
    simpa using this
  subst hi
  have hx : x = c := by simpa using hx.symm
  subst hx
  exact h
theorem P_put_q (w : Nat → Int32) (c k : Nat) (hk : k < 29) : P_put w (qi c) (qi k) = some (qi (k + 1), upd w k (qi c)) := by
  simp (disch := omega) only [P_put, qi_lit, qi_m1, qi_add, qi_mul, qi_and, qi_or, qi_xor, qi_not, qi_shl, qi_shr, qi_and31, qi_nat, qi_inb, qi_eq, qi_lt, qi_le, qi_sub, dn, db_some, dk_t, if_neg (show ¬ k < 0 by omega), if_pos hk]
theorem P_tellSet_q (t : Qt) (h : qtok t) (st pt : Nat → Int32) (hq : qat (qtn t) 0 st pt) (N : Nat) (hN : 300 < N) :
    ∀ u, qtok u → (∀ s, s &&& qts u = s → s ≠ 0 → qpf t s = qpf u s) → ∀ (K d k : Nat) (w : Nat → Int32), (qtn u).length < K → d + (qtn u).length ≤ 7 → k + (qtl u).length ≤ 29 →
    ∃ w', P_tellSet K N w (qi (qtn t).length) pt st (qi (qts u)) (qi k) (qi d) = some (qi (k + (qtl u).length), w') ∧ (∀ i, i < k → w' i = w i) ∧ qout (qtl u) k w' := by
  intro u
  induction u with
  | var r =>
    intro hu hag K d k w hK hd hk
    have hb := qts_lt _ hu
    have hk : k + 1 ≤ 29 := hk
    have hr : r < 8 := hu
    have hrel : J_relationOf (qi (2 ^ r)) = qi r := by
      have : ∀ r, r < 8 → J_relationOf (qi (2 ^ r)) = qi r := by decide +kernel
      exact this r hr
    refine ⟨upd w k (qi (48 + r)), ?_, fun i hi => upd_ne _ _ (by omega), qout_1 _ _ _ (upd_self _ _ _)⟩
    cases K with
    | zero => omega
    | succ K =>
      have e := P_partOf_q t h st pt hq (qts (.var r)) hb.1 N hN
      rw [hag _ (Nat.and_self _) hb.2] at e
      simp only [P_tellSet, e, db_some, show qpf (.var r) (qts (.var r)) = 0 from rfl]
      simp (disch := omega) only [P_tellSet_19, qi_lit, qi_m1, qi_add, qi_mul, qi_and, qi_or, qi_xor, qi_not, qi_shl, qi_shr, qi_and31, qi_nat, qi_inb, qi_eq, qi_lt, qi_le, qi_sub, dn, db_some, dk_t, show qts (.var r) = 2 ^ r from rfl, hrel, P_put_q]
      rfl
  | op a b iha ihb =>
    intro hu hag K d k w hK hd hk
    have ho := qtok_op hu
    have hlen : (qtn (.op a b)).length = (qtn a).length + (qtn b).length + 1 := by
      show ((_, _) :: (qtn a ++ qtn b)).length = _
      simp
    have hlenl : (qtl (.op a b)).length = (qtl a).length + (qtl b).length + 3 := by
      show ([40] ++ qtl a ++ [32] ++ qtl b ++ [41]).length = _
      simp; omega
    have ha0 := qts_lt a hu.1
    cases K with
    | zero => omega
    | succ K =>
      obtain ⟨w1, e1, f1, q1⟩ := iha hu.1 (fun s hs h0 => by rw [hag s (q_sub_trans hs (q_or_sub_l _ _)) h0, qpf_l hu hs h0]) K (d + 1) (k + 1) (upd w k (qi 40)) (by omega) (by omega) (by omega)
      obtain ⟨w2, e2, f2, q2⟩ := ihb hu.2.1 (fun s hs h0 => by rw [hag s (q_sub_trans hs (q_or_sub_r _ _)) h0, qpf_r hu hs h0]) K (d + 1) (k + 1 + (qtl a).length + 1) (upd w1 (k + 1 + (qtl a).length) (qi 32)) (by omega) (by omega) (by omega)
      refine ⟨upd w2 (k + 1 + (qtl a).length + 1 + (qtl b).length) (qi 41), ?_, ?_, ?_⟩
      · have e := P_partOf_q t h st pt hq (qts a ||| qts b) ho.2.2.1 N hN
        rw [hag (qts a ||| qts b) (Nat.and_self _) ho.2.2.2.1, show qpf (.op a b) (qts a ||| qts b) = qts a from qpf_root] at e
        show P_tellSet (K + 1) N w (qi (qtn t).length) pt st (qi (qts a ||| qts b)) (qi k) (qi d) = _
        simp (disch := omega) only [P_tellSet, e, qi_lit, qi_m1, qi_add, qi_mul, qi_and, qi_or, qi_xor, qi_not, qi_shl, qi_shr, qi_and31, qi_nat, qi_inb, qi_eq, qi_lt, qi_le, qi_sub, dn, db_some, dk_t, if_neg ha0.2, if_pos (show d < 7 by omega), P_put_q, e1, ho.2.1, e2]
        rw [show k + 1 + (qtl a).length + 1 + (qtl b).length + 1 = k + (qtl (.op a b)).length by omega]
      · intro i hi
        rw [upd_ne _ _ (by omega), f2 i (by omega), upd_ne _ _ (by omega), f1 i (by omega), upd_ne _ _ (by omega)]
      · have l1 : qout [40] k (upd w2 (k + 1 + (qtl a).length + 1 + (qtl b).length) (qi 41)) := by
          apply qout_1
          rw [upd_ne _ _ (by omega), f2 k (by omega), upd_ne _ _ (by omega), f1 k (by omega), upd_self]
        have l2 : qout (qtl a) (k + 1) (upd w2 (k + 1 + (qtl a).length + 1 + (qtl b).length) (qi 41)) := by
          refine qout_f q1 (fun i hi => ?_)
          rw [upd_ne _ _ (by omega), f2 i (by omega), upd_ne _ _ (by omega)]
        have l3 : qout [32] (k + 1 + (qtl a).length) (upd w2 (k + 1 + (qtl a).length + 1 + (qtl b).length) (qi 41)) := by
          apply qout_1
          rw [upd_ne _ _ (by omega), f2 _ (by omega), upd_self]
        have l4 : qout (qtl b) (k + 1 + (qtl a).length + 1) (upd w2 (k + 1 + (qtl a).length + 1 + (qtl b).length) (qi 41)) := by
          refine qout_f q2 (fun i hi => ?_)
          rw [upd_ne _ _ (by omega)]
        have l5 : qout [41] (k + 1 + (qtl a).length + 1 + (qtl b).length) (upd w2 (k + 1 + (qtl a).length + 1 + (qtl b).length) (qi 41)) := by
          apply qout_1
          rw [upd_self]
        have := qout_c l1 (qout_c l2 (qout_c l3 (qout_c l4 l5)))
        show qout ([40] ++ qtl a ++ [32] ++ qtl b ++ [41]) k _
        simpa using this
theorem P_tell_q (t : Qt) (h : qtok t) (st pt : Nat → Int32) (hq : qat (qtn t) 0 st pt) (w : Nat → Int32) (N : Nat) (hN : 300 < N) :
    ∃ w', P_tell N w (qi (qts t)) (qi (qtn t).length) pt st = some (qi (qtl t).length, w') ∧ qout (qtl t) 0 w' := by
  have hl := qtn_le t h
  have hll := qtl_len t
  obtain ⟨w', e, f, q⟩ := P_tellSet_q t h st pt hq N hN t h (fun s _ _ => rfl) 9 0 0 w (by omega) (by omega) (by omega)
  refine ⟨w', ?_, q⟩
  unfold P_tell
  rw [show (0 : Int32) = qi 0 from rfl, e]
  simp [db_some]
