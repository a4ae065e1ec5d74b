theorem qlp_dn {α β : Type} {body : α → Option (α ⊕ β)} (Inv : Nat → α → Prop) (Q : β → Prop)
    (hs : ∀ m x, Inv m x → (∃ x' m', body x = some (.inl x') ∧ Inv m' x' ∧ m' < m) ∨ (∃ y, body x = some (.inr y) ∧ Q y))
    (m : Nat) (x : α) (h0 : Inv m x) (N : Nat) (hN : m < N) : ∃ y, lp body N x = some y ∧ Q y := by
  induction N generalizing x m with
  | zero => omega
  | succ N ih =>
    rcases hs m x h0 with ⟨x', m', e, h', hm⟩ | ⟨y, e, q⟩
    · have ⟨y, e2, q⟩ := ih m' x' h' (by omega)
      exact ⟨y, by rw [lp, e]; exact e2, q⟩
    · exact ⟨y, by rw [lp, e], q⟩
def qag (t u : Qt) : Prop := qtok u ∧ ∀ s, s &&& qts u = s → s ≠ 0 → qpf t s = qpf u s
theorem qag_l {t a b : Qt} (h : qag t (.op a b)) : qag t a := ⟨h.1.1, fun s hs h0 => by rw [h.2 s (q_sub_trans hs (q_or_sub_l _ _)) h0, qpf_l h.1 hs h0]⟩
theorem qag_r {t a b : Qt} (h : qag t (.op a b)) : qag t b := ⟨h.1.2.1, fun s hs h0 => by rw [h.2 s (q_sub_trans hs (q_or_sub_r _ _)) h0, qpf_r h.1 hs h0]⟩
def qstk (t : Qt) (op : Nat → Int32) : List Qt → Prop
  | [] => True
  | u :: us => op us.length = qi (qts u) ∧ qag t u ∧ qstk t op us
theorem qstk_f {t : Qt} {op op' : Nat → Int32} : ∀ us, qstk t op us → (∀ i, i < us.length → op' i = op i) → qstk t op' us := by
  intro us
  induction us with
  | nil => intro _ _; trivial
  | cons u us ih =>
    rintro ⟨h1, h2, h3⟩ e
    exact ⟨by rw [e _ (by simp)]; exact h1, h2, ih h3 (fun i hi => e i (by simp; omega))⟩
def qnd (nd : Nat → Int32) (l : List Nat) : Prop := ∀ (i : Nat) (s : Nat), l[i]? = some s → nd i = qi s
theorem qnd_s {nd : Nat → Int32} {l : List Nat} (h : qnd nd l) (s : Nat) : qnd (upd nd l.length (qi s)) (l ++ [s]) := by
  intro i x hx
  by_cases hi : i < l.length
  · rw [List.getElem?_append_left hi] at hx
    rw [upd_ne _ _ (by omega)]; exact h i x hx
  · have := (List.getElem?_eq_some_iff.mp hx).1
    simp at this
    have e : i = l.length := by omega
    subst e
    have : x = s := by simpa using hx.symm
    subst this
    exact upd_self _ _ _
def qns (u : Qt) : List Nat := (qtn u).map Prod.fst
def qsz2 (us : List Qt) : Nat := (us.map (fun u => 2 * (qtn u).length + 1)).sum
theorem qsz2_len (us : List Qt) : us.length ≤ qsz2 us := by
  induction us with
  | nil => exact Nat.zero_le _
  | cons u us ih =>
    unfold qsz2 at ih ⊢
    simp
    omega
theorem R_laysNodes_q (t : Qt) (h : qtok t) (p : Nat → Int32) (hp : qRp t p) (o n : Int32) (nd op : Nat → Int32) (N : Nat) (hN : 300 < N) :
    ∃ nd' op', R_laysNodes N o n nd op p (qi (qts t)) = some (qi 0, qi (qtn t).length, nd', op') ∧ qnd nd' (qns t) := by
  have hl := qtn_le t h
  have key := qlp_dn (body := fun x : Int32 × Int32 × (Nat → Int32) × (Nat → Int32) => R_laysNodes_b17 N x.1 x.2.1 x.2.2.1 x.2.2.2 p)
    (Inv := fun m x => ∃ us out, x.1 = qi us.length ∧ x.2.1 = qi out.length ∧ qstk t x.2.2.2 us ∧ qnd x.2.2.1 out ∧ out ++ us.flatMap qns = qns t ∧ qsz2 us = m ∧ m ≤ 15)
    (Q := fun y => y.1 = qi 0 ∧ y.2.1 = qi (qtn t).length ∧ qnd y.2.2.1 (qns t)) ?_ (2 * (qtn t).length + 1) (qi 1, qi 0, nd, upd op 0 (qi (qts t))) ?_ N (by omega)
  · obtain ⟨⟨a, b, c, d⟩, e, rfl, rfl, q⟩ := key
    refine ⟨c, d, ?_, q⟩
    simp (disch := omega) only [R_laysNodes, R_laysNodes_17, qi_lit, qi_m1, qi_add, qi_mul, qi_and, qi_or, qi_xor, qi_not, qi_shl, qi_shr, qi_and31, qi_nat, qi_inb, qi_eq, qi_lt, qi_le, qi_sub, dn, db_some, dk_t]
    rw [e]
    rfl
  · rintro m ⟨a, b, c, d⟩ ⟨us, out, rfl, rfl, h1, h2, h3, h4, h5⟩
    simp only at h1 h2
    have hus := qsz2_len us
    have houtl : out.length + (us.flatMap qns).length = (qtn t).length := by
      have := congrArg List.length h3
      simpa [qns] using this
    cases us with
    | nil =>
      right
      refine ⟨(qi 0, qi out.length, c, d), ?_, rfl, ?_, ?_⟩
      · simp (disch := omega) only [R_laysNodes_b17, qi_lit, qi_m1, qi_add, qi_mul, qi_and, qi_or, qi_xor, qi_not, qi_shl, qi_shr, qi_and31, qi_nat, qi_inb, qi_eq, qi_lt, qi_le, qi_sub, List.length_nil]
        simp
      · simp at houtl; rw [← houtl]
      · simp at h3; rw [← h3]; exact h2
    | cons u us =>
      left
      obtain ⟨k1, k2, k3⟩ := h1
      have hul := qts_lt u k2.1
      have hpu : p (qts u) = qi (qpf u (qts u)) := by rw [hp _ hul.1, k2.2 _ (Nat.and_self _) hul.2]
      simp only [List.length_cons] at hus
      cases u with
      | var r =>
        refine ⟨(qi us.length, qi out.length, c, d), qsz2 us, ?_, ⟨us, out, rfl, rfl, k3, h2, ?_, rfl, ?_⟩, ?_⟩
        · have hpf : qpf (.var r) (qts (.var r)) = 0 := rfl
          rw [hpf] at hpu
          simp (disch := omega) only [R_laysNodes_b17, qi_lit, qi_m1, qi_add, qi_mul, qi_and, qi_or, qi_xor, qi_not, qi_shl, qi_shr, qi_and31, qi_nat, qi_inb, qi_eq, qi_lt, qi_le, qi_sub, dn, db_some, dk_t, List.length_cons, if_neg (show ¬ us.length + 1 ≤ 0 by omega), Nat.add_sub_cancel, k1, hpu]
          simp
        · rw [← h3]; simp [qns, qtn]
        · rw [← h4] at h5; unfold qsz2 at h5 ⊢; simp at h5; omega
        · rw [← h4]; unfold qsz2; simp
      | op a b =>
        have ho := qtok_op k2.1
        have ha0 := qts_lt a k2.1.1
        have hlen : (qtn (.op a b)).length = (qtn a).length + (qtn b).length + 1 := by
          show ((_, _) :: (qtn a ++ qtn b)).length = _
          simp
        have hout8 : out.length < 8 := by
          have : 1 ≤ ((Lean.Data.AC.Expr.op a b :: us).flatMap qns).length := by simp [qns, qtn]
          omega
        rw [show qpf (.op a b) (qts (.op a b)) = qts a from qpf_root] at hpu
        have hpu' : p (qts a ||| qts b) = qi (qts a) := hpu
        have k1' : d us.length = qi (qts a ||| qts b) := k1
        refine ⟨(qi (us.length + 2), qi (out.length + 1), upd c out.length (qi (qts a ||| qts b)), upd (upd d us.length (qi (qts b))) (us.length + 1) (qi (qts a))), qsz2 (a :: b :: us), ?_, ⟨a :: b :: us, out ++ [qts a ||| qts b], rfl, by simp, ?_, qnd_s h2 _, ?_, rfl, ?_⟩, ?_⟩
        · have hx : (qts a ||| qts b) ^^^ ((qts a ||| qts b) &&& qts a) = qts b := by rw [q_and_xor (q_or_sub_l _ _), ho.2.1]
          have hlt := ho.2.2.1
          simp (disch := omega) only [R_laysNodes_b17, qi_lit, qi_m1, qi_add, qi_mul, qi_and, qi_or, qi_xor, qi_not, qi_shl, qi_shr, qi_and31, qi_nat, qi_inb, qi_eq, qi_lt, qi_le, qi_sub, dn, db_some, dk_t, List.length_cons, if_neg (show ¬ us.length + 1 ≤ 0 by omega), Nat.add_sub_cancel, k1', hpu', if_neg (show ¬ qts a ≤ 0 by omega), hx]
        · refine ⟨?_, qag_l k2, ?_, qag_r k2, ?_⟩
          · show upd _ _ _ (us.length + 1) = _
            exact upd_self _ _ _
          · show upd _ _ _ us.length = _
            rw [upd_ne _ _ (by omega), upd_self]
          · refine qstk_f us k3 (fun i hi => ?_)
            show upd _ _ _ i = _
            rw [upd_ne _ _ (by omega), upd_ne _ _ (by omega)]
        · rw [← h3]; simp [qns, qtn]
        · rw [← h4] at h5; unfold qsz2 at h5 ⊢; simp [hlen] at h5 ⊢; omega
        · rw [← h4]; unfold qsz2; simp [hlen]; omega
  · exact ⟨[t], [], rfl, rfl, ⟨by show upd op 0 (qi (qts t)) 0 = _; exact upd_self _ _ _, ⟨h, fun _ _ _ => rfl⟩, trivial⟩, fun i s hs => by simp at hs, by simp, by simp [qsz2], by omega⟩
def qit : Qt ⊕ Nat → Int32
  | .inl u => qi (qts u)
  | .inr c => -(qi c)
def qtx : Qt ⊕ Nat → List Nat
  | .inl u => qtl u
  | .inr c => [c]
def qiok (t : Qt) : Qt ⊕ Nat → Prop
  | .inl u => qag t u
  | .inr c => c = 41 ∨ c = 32
def qstm (t : Qt) (op : Nat → Int32) : List (Qt ⊕ Nat) → Prop
  | [] => True
  | u :: us => op us.length = qit u ∧ qiok t u ∧ qstm t op us
theorem qstm_f {t : Qt} {op op' : Nat → Int32} : ∀ us, qstm t op us → (∀ i, i < us.length → op' i = op i) → qstm t op' us := by
  intro us
  induction us with
  | nil => intro _ _; trivial
  | cons u us ih =>
    rintro ⟨h1, h2, h3⟩ e
    exact ⟨by rw [e _ (by simp)]; exact h1, h2, ih h3 (fun i hi => e i (by simp; omega))⟩
theorem qtl_pos (u : Qt) : 1 ≤ (qtl u).length := by rw [qtl_len]; omega
theorem qtx_len (us : List (Qt ⊕ Nat)) : us.length ≤ (us.flatMap qtx).length := by
  induction us with
  | nil => exact Nat.zero_le _
  | cons u us ih =>
    simp only [List.flatMap_cons, List.length_append, List.length_cons]
    have : 1 ≤ (qtx u).length := by
      cases u with
      | inl u => exact qtl_pos u
      | inr c => exact Nat.le_refl 1
    omega
theorem R_says_q (n c : Nat) (out : Nat → Int32) (hn : n < 80) (hc : c < 128) : R_says (qi n) out (qi c) = some (qi (n + 1), upd out n (qi c)) := by
  have e : vp_nar .byte (qi c).toInt8.toInt32 = qi c := by
    have : ∀ c, c < 128 → (qi c).toInt8.toInt32.toInt8.toInt32 = qi c := by decide +kernel
    exact this c hc
  simp (disch := omega) only [R_says, qi_lit, qi_m1, qi_add, qi_mul, qi_and, qi_or, qi_xor, qi_not, qi_shl, qi_shr, qi_and31, qi_nat, qi_inb, qi_eq, qi_lt, qi_le, qi_sub, dn, db_some, dk_t, e]
theorem R_numberOf_q (r : Nat) (hr : r < 8) (N : Nat) (hN : 300 < N) : R_numberOf N (qi (2 ^ r)) = some (qi r) := by
  have hp : 2 ^ r ≤ 128 := Nat.pow_le_pow_right (n := 2) (by omega) (show r ≤ 7 by omega)
  have key := qlp_for (body := fun x => R_numberOf_b2 N (qi (2 ^ r)) x) (fun i => qi i) r (qi r) ?_ ?_ N (by omega)
  · unfold R_numberOf R_numberOf_2
    rw [show (0 : Int32) = qi 0 from rfl, key]
    rfl
  · intro i hi
    have hf : ∀ r, r < 8 → ∀ i, i < r → ¬ (2 ^ r / 2 ^ i ≤ 1) := by decide
    have hd := Nat.div_le_self (2 ^ r) (2 ^ i)
    simp (disch := omega) only [R_numberOf_b2, qi_lit, qi_m1, qi_add, qi_mul, qi_and, qi_or, qi_xor, qi_not, qi_shl, qi_shr, qi_and31, qi_nat, qi_inb, qi_eq, qi_lt, qi_le, qi_sub, dn, db_some, dk_t, if_neg (hf r hr i hi)]
  · have : 2 ^ r / 2 ^ r = 1 := Nat.div_self (Nat.two_pow_pos r)
    simp (disch := omega) only [R_numberOf_b2, qi_lit, qi_m1, qi_add, qi_mul, qi_and, qi_or, qi_xor, qi_not, qi_shl, qi_shr, qi_and31, qi_nat, qi_inb, qi_eq, qi_lt, qi_le, qi_sub, this]
    simp
theorem qtl_lt : ∀ t, qtok t → ∀ c, c ∈ qtl t → c < 128 := by
  intro t
  induction t with
  | var r => intro h c hc; have h : r < 8 := h; simp [qtl] at hc; omega
  | op a b iha ihb =>
    intro h c hc
    simp [qtl] at hc
    rcases hc with rfl | hc | rfl | hc | rfl
    · omega
    · exact iha h.1 c hc
    · omega
    · exact ihb h.2.1 c hc
    · omega
theorem R_tells_q (t : Qt) (h : qtok t) (p : Nat → Int32) (hp : qRp t p) (o n : Int32) (op ou : Nat → Int32) (N : Nat) (hN : 300 < N) :
    ∃ op' ou', R_tells N o n op ou p (qi (qts t)) = some (qi 0, qi (qtl t).length, op', ou') ∧ qnd ou' (qtl t) := by
  have hl := qtn_le t h
  have hll := qtl_len t
  have key := qlp_dn (body := fun x : Int32 × Int32 × (Nat → Int32) × (Nat → Int32) => R_tells_b17 N x.1 x.2.1 x.2.2.1 x.2.2.2 p)
    (Inv := fun m x => ∃ us out, x.1 = qi us.length ∧ x.2.1 = qi out.length ∧ qstm t x.2.2.1 us ∧ qnd x.2.2.2 out ∧ out ++ us.flatMap qtx = qtl t ∧ (us.flatMap qtx).length = m)
    (Q := fun y => y.1 = qi 0 ∧ y.2.1 = qi (qtl t).length ∧ qnd y.2.2.2 (qtl t)) ?_ (qtl t).length (qi 1, qi 0, upd op 0 (qi (qts t)), ou) ?_ N (by omega)
  · obtain ⟨⟨a, b, c, d⟩, e, rfl, rfl, q⟩ := key
    refine ⟨c, d, ?_, q⟩
    simp (disch := omega) only [R_tells, R_tells_17, qi_lit, qi_m1, qi_add, qi_mul, qi_and, qi_or, qi_xor, qi_not, qi_shl, qi_shr, qi_and31, qi_nat, qi_inb, qi_eq, qi_lt, qi_le, qi_sub, dn, db_some, dk_t]
    rw [e]
    rfl
  · rintro m ⟨a, b, d, c⟩ ⟨us, out, rfl, rfl, h1, h2, h3, h4⟩
    simp only at h1 h2
    have hus := qtx_len us
    have houtl : out.length + (us.flatMap qtx).length = (qtl t).length := by
      have := congrArg List.length h3
      simpa using this
    cases us with
    | nil =>
      right
      refine ⟨(qi 0, qi out.length, d, c), ?_, rfl, ?_, ?_⟩
      · simp (disch := omega) only [R_tells_b17, qi_lit, qi_m1, qi_add, qi_mul, qi_and, qi_or, qi_xor, qi_not, qi_shl, qi_shr, qi_and31, qi_nat, qi_inb, qi_eq, qi_lt, qi_le, qi_sub, List.length_nil]
        simp
      · simp at houtl; rw [← houtl]
      · simp at h3; rw [← h3]; exact h2
    | cons u us =>
      left
      obtain ⟨k1, k2, k3⟩ := h1
      simp only [List.length_cons] at hus
      cases u with
      | inr ch =>
        have hch : ch < 128 := by rcases k2 with rfl | rfl <;> omega
        have hneg : ¬ (qi 0 ≤ -(qi ch)) := by rcases k2 with rfl | rfl <;> decide
        have k1' : d us.length = -(qi ch) := k1
        refine ⟨(qi us.length, qi (out.length + 1), d, upd c out.length (qi ch)), (us.flatMap qtx).length, ?_, ⟨us, out ++ [ch], rfl, by simp, k3, qnd_s h2 _, ?_, rfl⟩, ?_⟩
        · have hoL : out.length < 80 := by omega
          have hnn : -(-(qi ch)) = qi ch := Int32.neg_neg
          simp (disch := omega) only [R_tells_b17, qi_lit, qi_le, qi_sub, qi_inb, qi_nat, dn, db_some, dk_t, List.length_cons, if_neg (show ¬ us.length + 1 ≤ 0 by omega), Nat.add_sub_cancel, k1', if_neg hneg, hnn, R_says_q]
        · rw [← h3]; simp [qtx]
        · rw [← h4]; simp [qtx]
      | inl u =>
        have k2 : qag t u := k2
        have hul := qts_lt u k2.1
        have hpu : p (qts u) = qi (qpf u (qts u)) := by rw [hp _ hul.1, k2.2 _ (Nat.and_self _) hul.2]
        cases u with
        | var r =>
          have hr : r < 8 := k2.1
          have hpu' : p (2 ^ r) = qi 0 := hpu
          have k1' : d us.length = qi (2 ^ r) := k1
          have hlt : 2 ^ r < 256 := hul.1
          refine ⟨(qi us.length, qi (out.length + 1), d, upd c out.length (qi (48 + r))), (us.flatMap qtx).length, ?_, ⟨us, out ++ [48 + r], rfl, by simp, k3, qnd_s h2 _, ?_, rfl⟩, ?_⟩
          · simp (disch := omega) only [R_tells_b17, qi_lit, qi_m1, qi_add, qi_mul, qi_and, qi_or, qi_xor, qi_not, qi_shl, qi_shr, qi_and31, qi_nat, qi_inb, qi_eq, qi_lt, qi_le, qi_sub, dn, db_some, dk_t, List.length_cons, if_neg (show ¬ us.length + 1 ≤ 0 by omega), Nat.add_sub_cancel, k1', hpu', R_numberOf_q r hr N hN, R_says_q]
            simp
          · rw [← h3]; simp [qtx, qtl]
          · rw [← h4]; simp [qtx, qtl]
        | op a b =>
          have ho := qtok_op k2.1
          have ha0 := qts_lt a k2.1.1
          rw [show qpf (.op a b) (qts (.op a b)) = qts a from qpf_root] at hpu
          have hpu' : p (qts a ||| qts b) = qi (qts a) := hpu
          have k1' : d us.length = qi (qts a ||| qts b) := k1
          refine ⟨(qi (us.length + 4), qi (out.length + 1), upd (upd (upd (upd d us.length (-41)) (us.length + 1) (qi (qts b))) (us.length + 2) (-32)) (us.length + 3) (qi (qts a)), upd c out.length (qi 40)),
            ((Sum.inl a :: Sum.inr 32 :: Sum.inl b :: Sum.inr 41 :: us).flatMap qtx).length, ?_, ⟨Sum.inl a :: Sum.inr 32 :: Sum.inl b :: Sum.inr 41 :: us, out ++ [40], rfl, by simp, ?_, qnd_s h2 _, ?_, rfl⟩, ?_⟩
          · have hx : (qts a ||| qts b) ^^^ ((qts a ||| qts b) &&& qts a) = qts b := by rw [q_and_xor (q_or_sub_l _ _), ho.2.1]
            have hlt := ho.2.2.1
            simp (disch := omega) only [R_tells_b17, qi_lit, qi_m1, qi_add, qi_mul, qi_and, qi_or, qi_xor, qi_not, qi_shl, qi_shr, qi_and31, qi_nat, qi_inb, qi_eq, qi_lt, qi_le, qi_sub, dn, db_some, dk_t, List.length_cons, if_neg (show ¬ us.length + 1 ≤ 0 by omega), Nat.add_sub_cancel, k1', hpu', if_pos (show 0 ≤ qts a ||| qts b by omega), if_neg ha0.2, hx, R_says_q]
          · refine ⟨?_, qag_l k2, ?_, .inr rfl, ?_, qag_r k2, ?_, .inl rfl, ?_⟩
            · show upd _ _ _ (us.length + 3) = _
              exact upd_self _ _ _
            · show upd _ _ _ (us.length + 2) = _
              rw [upd_ne _ _ (by omega), upd_self]; rfl
            · show upd _ _ _ (us.length + 1) = _
              rw [upd_ne _ _ (by omega), upd_ne _ _ (by omega), upd_self]; rfl
            · show upd _ _ _ us.length = _
              rw [upd_ne _ _ (by omega), upd_ne _ _ (by omega), upd_ne _ _ (by omega), upd_self]; rfl
            · refine qstm_f us k3 (fun i hi => ?_)
              show upd _ _ _ i = _
              rw [upd_ne _ _ (by omega), upd_ne _ _ (by omega), upd_ne _ _ (by omega), upd_ne _ _ (by omega)]
          · rw [← h3]; simp [qtx, qtl]
          · rw [← h4]; simp [qtx, qtl]
  · exact ⟨[.inl t], [], rfl, rfl, ⟨by show upd op 0 (qi (qts t)) 0 = _; exact upd_self _ _ _, ⟨h, fun _ _ _ => rfl⟩, trivial⟩, fun i s hs => by simp at hs, by simp [qtx], by simp [qtx]⟩
