abbrev Qc : Type := Qg × Option Qt
def qcok (c : Qc) : Prop := qGok c.1 ∧ ∀ t, c.2 = some t → qtok t ∧ qts t < 2 ^ qn c.1
def qJpl : Option Qt → Int32 → Int32 → (Nat → Int32) → (Nat → Int32) → Prop
  | none, ro, _, _, _ => ro = qi 0
  | some t, ro, jo, st, pt => ro = qi (qts t) ∧ jo = qi (qtn t).length ∧ qat (qtn t) 0 st pt
def qJc (c : Qc) (rel edg lim : Int32) (rows left right by' : Nat → Int32) (ro jo : Int32) (st pt : Nat → Int32) : Prop := qJg c.1 rel edg lim rows left right by' ∧ qJpl c.2 ro jo st pt
def qpfo : Option Qt → Nat → Nat
  | none, _ => 0
  | some t, s => qpf t s
def qtso : Option Qt → Nat
  | none => 0
  | some t => qts t
def qRc (c : Qc) (a : Nat → Int32) : Prop := qRg c.1 a ∧ a 59 = qi (qtso c.2) ∧ ∀ s, s < 256 → a (60 + s) = qi (qpfo c.2 s)
theorem qRg_c {g : Qg} (hg : qGok g) {a a' : Nat → Int32} (h : qRg g a) (e : ∀ j, j < 59 → a' j = a j) : qRg g a' := by
  have h1 := hg.1
  have h2 := hg.2.1
  obtain ⟨r1, r2, r3, r4, r5⟩ := h
  refine ⟨by rw [e 0 (by omega)]; exact r1, by rw [e 9 (by omega)]; exact r2, by rw [e 58 (by omega)]; exact r3, ?_, ?_⟩
  · intro r hr
    rw [e _ (by omega)]; exact r4 r hr
  · intro x hx
    rw [e _ (by omega), e _ (by omega), e _ (by omega)]; exact r5 x hx
theorem qRc_c {c : Qc} (hc : qcok c) {a a' : Nat → Int32} (h : qRc c a) (e : ∀ j, j < 316 → a' j = a j) : qRc c a' := by
  obtain ⟨h1, h2, h3⟩ := h
  refine ⟨qRg_c hc.1 h1 (fun j hj => e j (by omega)), by rw [e 59 (by omega)]; exact h2, ?_⟩
  intro s hs
  rw [e _ (by omega)]; exact h3 s hs
theorem G_copy_q {g : Qg} (hg : qGok g) {rel edg lim : Int32} {rows left right by' : Nat → Int32} (h : qJg g rel edg lim rows left right by') (r2 e2 l2 : Int32) (b2 le2 ri2 ro2 : Nat → Int32) :
    ∃ b3 le3 ri3 ro3, G_copy rel edg lim r2 e2 l2 by' left right rows b2 le2 ri2 ro2 = some (rel, edg, lim, b3, le3, ri3, ro3) ∧ qJg g rel edg lim ro3 le3 ri3 b3 := by
  have h1 := hg.1
  have h2 := hg.2.1
  refine ⟨va_cpy by' b2 0 0 16, va_cpy left le2 0 0 16, va_cpy right ri2 0 0 16, va_cpy rows ro2 0 0 8, rfl, ?_⟩
  obtain ⟨r1, r2, r3, r4, r5⟩ := h
  refine ⟨r1, r2, r3, ?_, ?_⟩
  · intro r hr
    unfold va_cpy
    rw [if_pos (by omega)]
    simpa using r4 r hr
  · intro x hx
    unfold va_cpy
    rw [if_pos (by omega), if_pos (by omega), if_pos (by omega)]
    simpa using r5 x hx
theorem qJpl_7 {c : Qc} (hc : qcok c) {ro jo : Int32} {st pt st' pt' : Nat → Int32} (h : qJpl c.2 ro jo st pt) (e : ∀ i, i < 7 → pt' i = pt i ∧ st' i = st i) : qJpl c.2 ro jo st' pt' := by
  obtain ⟨g, o⟩ := c
  cases o with
  | none => exact h
  | some t => exact ⟨h.1, h.2.1, qat_7 (hc.2 t rfl).1 h.2.2 e⟩
/-- what is kept, of the reference: the oldest first -/
def qRh (H : List Qc) (un : Int32) (ud : Nat → Int32) : Prop := H.length ≤ 8 ∧ un = qi H.length ∧ ∀ (i : Nat) (c : Qc), H[i]? = some c → qcok c ∧ qRc c (fun j => ud (316 * i + j))
def qrem (H : List Qc) (c : Qc) : List Qc := if H.length = 8 then H.tail ++ [c] else H ++ [c]
theorem qrem_len (H : List Qc) (c : Qc) (h : H.length ≤ 8) : (qrem H c).length = (if H.length = 8 then 8 else H.length + 1) := by
  unfold qrem
  split
  · simp; omega
  · simp
theorem R_keeps_q (H : List Qc) (un : Int32) (ud all : Nat → Int32) (h : qRh H un ud) (c : Qc) (hc : qcok c) (hr : qRc c all) (N : Nat) (hN : 3000 < N) :
    ∃ ud', R_keeps N un all ud = some (qi (qrem H c).length, ud') ∧ qRh (qrem H c) (qi (qrem H c).length) ud' := by
  obtain ⟨h1, rfl, h3⟩ := h
  -- the second loop: at place u
  have loop2 : ∀ (u : Nat) (ud : Nat → Int32), u ≤ 7 → ∃ ud', R_keeps_50 N (qi u) all ud = some (qi (u + 1), ud') ∧ (∀ j, j < 316 → ud' (316 * u + j) = all j) ∧ ∀ j, j < 316 * u → ud' j = ud j := by
    intro u ud hu
    have key := qlp_rel (body := fun x : (Nat → Int32) × Int32 => R_keeps_b52 N (qi u) all x.1 x.2)
      (Inv := fun i x => x.2 = qi i ∧ (∀ j, j < i → x.1 (316 * u + j) = all j) ∧ ∀ j, j < 316 * u → x.1 j = ud j) 316
      (Q := fun y => (∀ j, j < 316 → y (316 * u + j) = all j) ∧ ∀ j, j < 316 * u → y j = ud j)
      (by
        rintro i ⟨f, x⟩ hi ⟨rfl, k1, k2⟩
        refine ⟨(upd f (316 * u + i) (all i), qi (i + 1)), ?_, rfl, ?_, ?_⟩
        · simp (disch := omega) only [R_keeps_b52, qi_lit, qi_m1, qi_add, qi_mul, qi_and, qi_or, qi_xor, qi_not, qi_shl, qi_shr, qi_and31, qi_nat, qi_inb, qi_eq, qi_lt, qi_le, qi_sub, dn, db_some, dk_t, if_neg (show ¬ 316 ≤ i by omega)]
        · intro j hj
          show upd f (316 * u + i) (all i) (316 * u + j) = _
          by_cases e : j = i
          · subst e; exact upd_self _ _ _
          · rw [upd_ne _ _ (by omega)]; exact k1 j (by omega)
        · intro j hj
          show upd f (316 * u + i) (all i) j = _
          rw [upd_ne _ _ (by omega)]; exact k2 j hj)
      (by
        rintro ⟨f, x⟩ ⟨rfl, k⟩
        exact ⟨f, by simp (disch := omega) only [R_keeps_b52, qi_lit, qi_m1, qi_add, qi_mul, qi_and, qi_or, qi_xor, qi_not, qi_shl, qi_shr, qi_and31, qi_nat, qi_inb, qi_eq, qi_lt, qi_le, qi_sub]; simp, k⟩)
      (ud, qi 0) ⟨rfl, by intro j h; omega, fun j _ => rfl⟩ N (by omega)
    obtain ⟨y, e, q1, q2⟩ := key
    refine ⟨y, ?_, q1, q2⟩
    unfold R_keeps_50 R_keeps_52
    rw [show (0 : Int32) = qi 0 from rfl, e, db_some]
    unfold R_keeps_a52 R_keeps_86
    simp only [dn, show (1 : Int32) = qi 1 from rfl, qi_add]
  by_cases c8 : H.length = 8
  · have key := qlp_rel (body := fun x : (Nat → Int32) × Int32 => R_keeps_b11 N (qi 8) all x.1 x.2)
      (Inv := fun i x => x.2 = qi i ∧ (∀ j, j < i → x.1 j = ud (j + 316)) ∧ ∀ j, i ≤ j → x.1 j = ud j) 2212
      (Q := fun y => ∀ j, j < 2212 → y j = ud (j + 316))
      (by
        rintro i ⟨f, x⟩ hi ⟨rfl, k1, k2⟩
        simp only at k1 k2
        refine ⟨(upd f i (ud (i + 316)), qi (i + 1)), ?_, rfl, ?_, ?_⟩
        · have := k2 (i + 316) (by omega)
          simp (disch := omega) only [R_keeps_b11, qi_lit, qi_m1, qi_add, qi_mul, qi_and, qi_or, qi_xor, qi_not, qi_shl, qi_shr, qi_and31, qi_nat, qi_inb, qi_eq, qi_lt, qi_le, qi_sub, dn, db_some, dk_t, if_neg (show ¬ 2212 ≤ i by omega), this]
        · intro j hj
          show upd f i (ud (i + 316)) j = _
          by_cases e : j = i
          · subst e; exact upd_self _ _ _
          · rw [upd_ne _ _ e]; exact k1 j (by omega)
        · intro j hj
          show upd f i (ud (i + 316)) j = _
          rw [upd_ne _ _ (by omega)]; exact k2 j (by omega))
      (by
        rintro ⟨f, x⟩ ⟨rfl, k, _⟩
        exact ⟨f, by simp (disch := omega) only [R_keeps_b11, qi_lit, qi_m1, qi_add, qi_mul, qi_and, qi_or, qi_xor, qi_not, qi_shl, qi_shr, qi_and31, qi_nat, qi_inb, qi_eq, qi_lt, qi_le, qi_sub]; simp, k⟩)
      (ud, qi 0) ⟨rfl, by intro j h; omega, fun j _ => rfl⟩ N (by omega)
    obtain ⟨ud1, e1, q1⟩ := key
    obtain ⟨ud2, e2, q2, q3⟩ := loop2 7 ud1 (by omega)
    have hl := qrem_len H c h1
    rw [if_pos c8] at hl
    have hH : qrem H c = H.tail ++ [c] := by unfold qrem; rw [if_pos c8]
    refine ⟨ud2, ?_, by omega, rfl, ?_⟩
    · unfold R_keeps
      rw [c8, if_pos (show qi 8 = (8 : Int32) from rfl)]
      unfold R_keeps_11
      rw [show (0 : Int32) = qi 0 from rfl, e1, db_some]
      unfold R_keeps_a11 R_keeps_40
      rw [hl]
      simp only [dn]
      exact e2
    · intro i x hx
      rw [hH] at hx
      by_cases hi : i < H.tail.length
      · rw [List.getElem?_append_left hi] at hx
        have hx' : H[i + 1]? = some x := by
          cases H with
          | nil => simp at c8
          | cons y H => exact hx
        have := h3 (i + 1) x hx'
        simp at hi
        refine ⟨this.1, qRc_c this.1 this.2 ?_⟩
        intro j hj
        show ud2 (316 * i + j) = ud (316 * (i + 1) + j)
        rw [q3 _ (by omega), q1 _ (by omega)]
        congr 1; omega
      · have := (List.getElem?_eq_some_iff.mp hx).1
        simp at this hi
        have ei : i = 7 := by omega
        subst ei
        rw [List.getElem?_append_right (by simp; omega)] at hx
        have : x = c := by
          have h7 : 7 - H.tail.length = 0 := by simp; omega
          rw [h7] at hx
          simpa using hx.symm
        subst this
        exact ⟨hc, qRc_c hc hr (fun j hj => q2 j hj)⟩
  · obtain ⟨ud2, e2, q2, q3⟩ := loop2 H.length ud (by omega)
    have hl := qrem_len H c h1
    rw [if_neg c8] at hl
    have hH : qrem H c = H ++ [c] := by unfold qrem; rw [if_neg c8]
    refine ⟨ud2, ?_, by omega, rfl, ?_⟩
    · unfold R_keeps
      rw [if_neg (show ¬ (qi H.length = (8 : Int32)) from fun e => c8 ((qi_eq _ 8 (by omega) (by omega)).mp e)), hl]
      exact e2
    · intro i x hx
      rw [hH] at hx
      by_cases hi : i < H.length
      · rw [List.getElem?_append_left hi] at hx
        have := h3 i x hx
        refine ⟨this.1, qRc_c this.1 this.2 ?_⟩
        intro j hj
        show ud2 (316 * i + j) = ud (316 * i + j)
        exact q3 _ (by omega)
      · have := (List.getElem?_eq_some_iff.mp hx).1
        simp at this
        have ei : i = H.length := by omega
        subst ei
        have : x = c := by simpa using hx.symm
        subst this
        exact ⟨hc, qRc_c hc hr (fun j hj => q2 j hj)⟩
theorem R_noPlan_q {g : Qg} (hg : qGok g) (all : Nat → Int32) (h : qRg g all) (N : Nat) (hN : 3000 < N) : ∃ a', R_noPlan N all = some a' ∧ qRc (g, none) a' ∧ (∀ j, j < 59 → a' j = all j) ∧ ∀ j, 316 ≤ j → a' j = all j := by
  have key := qlp_rel (body := fun x : (Nat → Int32) × Int32 => R_noPlan_b3 N x.1 x.2)
    (Inv := fun i x => x.2 = qi (59 + i) ∧ (∀ j, j < i → x.1 (59 + j) = qi 0) ∧ (∀ j, j < 59 → x.1 j = all j) ∧ ∀ j, 316 ≤ j → x.1 j = all j) 257
    (Q := fun y => (∀ j, j < 257 → y (59 + j) = qi 0) ∧ (∀ j, j < 59 → y j = all j) ∧ ∀ j, 316 ≤ j → y j = all j)
    (by
      rintro i ⟨f, x⟩ hi ⟨rfl, k1, k2, k3⟩
      refine ⟨(upd f (59 + i) (qi 0), qi (59 + (i + 1))), ?_, rfl, ?_, ?_, ?_⟩
      · simp (disch := omega) only [R_noPlan_b3, qi_lit, qi_m1, qi_add, qi_mul, qi_and, qi_or, qi_xor, qi_not, qi_shl, qi_shr, qi_and31, qi_nat, qi_inb, qi_eq, qi_lt, qi_le, qi_sub, dn, db_some, dk_t, if_neg (show ¬ 316 ≤ 59 + i by omega)]
        rw [Nat.add_assoc]
      · intro j hj
        show upd f (59 + i) (qi 0) (59 + j) = _
        by_cases e : j = i
        · subst e; exact upd_self _ _ _
        · rw [upd_ne _ _ (by omega)]; exact k1 j (by omega)
      · intro j hj
        show upd f (59 + i) (qi 0) j = _
        rw [upd_ne _ _ (by omega)]; exact k2 j hj
      · intro j hj
        show upd f (59 + i) (qi 0) j = _
        rw [upd_ne _ _ (by omega)]; exact k3 j hj)
    (by
      rintro ⟨f, x⟩ ⟨rfl, k⟩
      exact ⟨f, by simp (disch := omega) only [R_noPlan_b3, qi_lit, qi_m1, qi_add, qi_mul, qi_and, qi_or, qi_xor, qi_not, qi_shl, qi_shr, qi_and31, qi_nat, qi_inb, qi_eq, qi_lt, qi_le, qi_sub, if_pos (show 316 ≤ 59 + 257 by omega)], k⟩)
    (all, qi 59) ⟨rfl, by intro j h; omega, fun j _ => rfl, fun j _ => rfl⟩ N (by omega)
  obtain ⟨y, e, q1, q2, q3⟩ := key
  refine ⟨y, ?_, ⟨qRg_c hg h q2, q1 0 (by omega), ?_⟩, q2, q3⟩
  · unfold R_noPlan R_noPlan_3
    rw [show (59 : Int32) = qi 59 from rfl, e]
    rfl
  · intro s hs
    have := q1 (1 + s) (by omega)
    rw [show 59 + (1 + s) = 60 + s by omega] at this
    exact this
theorem R_undo_q (H : List Qc) (c : Qc) (un ra : Int32) (ud all : Nat → Int32) (h : qRh (H ++ [c]) un ud) (N : Nat) (hN : 3000 < N) :
    ∃ a', R_undo N ra un all ud = some (qi H.length, qi 0, qi H.length, a') ∧ qRc c a' ∧ qcok c ∧ (∀ j, 316 ≤ j → a' j = all j) ∧ qRh H (qi H.length) ud := by
  obtain ⟨h1, rfl, h3⟩ := h
  simp at h1
  have hc := h3 H.length c (by simp)
  have key := qlp_rel (body := fun x : (Nat → Int32) × Int32 => R_undo_b26 N (qi 0) (qi H.length) x.1 ud x.2)
    (Inv := fun i x => x.2 = qi i ∧ (∀ j, j < i → x.1 j = ud (316 * H.length + j)) ∧ ∀ j, 316 ≤ j → x.1 j = all j) 316
    (Q := fun y => (∀ j, j < 316 → y j = ud (316 * H.length + j)) ∧ ∀ j, 316 ≤ j → y j = all j)
    (by
      rintro i ⟨f, x⟩ hi ⟨rfl, k1, k2⟩
      refine ⟨(upd f i (ud (316 * H.length + i)), qi (i + 1)), ?_, rfl, ?_, ?_⟩
      · simp (disch := omega) only [R_undo_b26, qi_lit, qi_m1, qi_add, qi_mul, qi_and, qi_or, qi_xor, qi_not, qi_shl, qi_shr, qi_and31, qi_nat, qi_inb, qi_eq, qi_lt, qi_le, qi_sub, dn, db_some, dk_t, if_neg (show ¬ 316 ≤ i by omega)]
      · intro j hj
        show upd f i (ud (316 * H.length + i)) j = _
        by_cases e : j = i
        · subst e; exact upd_self _ _ _
        · rw [upd_ne _ _ e]; exact k1 j (by omega)
      · intro j hj
        show upd f i (ud (316 * H.length + i)) j = _
        rw [upd_ne _ _ (by omega)]; exact k2 j hj)
    (by
      rintro ⟨f, x⟩ ⟨rfl, k⟩
      exact ⟨f, by simp (disch := omega) only [R_undo_b26, qi_lit, qi_m1, qi_add, qi_mul, qi_and, qi_or, qi_xor, qi_not, qi_shl, qi_shr, qi_and31, qi_nat, qi_inb, qi_eq, qi_lt, qi_le, qi_sub]; simp, k⟩)
    (all, qi 0) ⟨rfl, by intro j h; omega, fun j _ => rfl⟩ N (by omega)
  obtain ⟨y, e, q1, q2⟩ := key
  refine ⟨y, ?_, qRc_c hc.1 hc.2 q1, hc.1, q2, by omega, rfl, ?_⟩
  · unfold R_undo
    have hl : (H ++ [c]).length = H.length + 1 := by simp
    rw [hl, if_neg (show ¬ (qi (H.length + 1) = (0 : Int32)) from fun e => by have := (qi_eq _ 0 (by omega) (by omega)).mp e; omega), show (1 : Int32) = qi 1 from rfl, qi_sub _ _ (by omega), Nat.add_sub_cancel, q_dn]
    unfold R_undo_26
    rw [show (0 : Int32) = qi 0 from rfl, e]
    rfl
  · intro i x hx
    have hi := (List.getElem?_eq_some_iff.mp hx).1
    exact h3 i x (by rw [List.getElem?_append_left hi]; exact hx)
