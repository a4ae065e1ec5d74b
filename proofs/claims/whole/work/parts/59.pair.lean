def qL (g : Qg) (s : Nat) : List Nat := (qparts s).filter (qpr g s)
def qIsP (g : Qg) (k s p : Nat) : Prop := s ≠ 0 ∧ s < 2 ^ qn g ∧ qpa g s ≤ k ∧ (qL g s)[k - qpa g s]? = some p
theorem q_split (i : Nat) : ∀ m, i < m → ∃ r, List.range m = List.range i ++ i :: r := by
  intro m
  induction m with
  | zero => intro h; omega
  | succ m ih =>
    intro h
    by_cases e : i = m
    · subst e; exact ⟨[], List.range_succ⟩
    · obtain ⟨r, hr⟩ := ih (by omega)
      exact ⟨r ++ [m], by rw [List.range_succ, hr]; simp⟩
theorem q_fget (c : Nat → Bool) (l1 l2 : List Nat) (a : Nat) (h : c a = true) : ((l1 ++ a :: l2).filter c)[l1.countP c]? = some a := by
  rw [List.filter_append, List.countP_eq_length_filter, List.filter_cons_of_pos h]
  simp
theorem qL_len (g : Qg) (s : Nat) (hs : s < 256) : (qL g s).length = qpc g s := by
  rw [qpc_eq g s hs, List.countP_eq_length_filter]; rfl
theorem qL_mem (g : Qg) (s p i : Nat) (h : (qL g s)[i]? = some p) : p ∈ qparts s := by
  have := List.mem_of_getElem? h
  exact (List.mem_filter.mp this).1
theorem qpa_mono (g : Qg) {a b : Nat} (h : a ≤ b) : qpa g a ≤ qpa g b := by
  induction b with
  | zero => rw [show a = 0 by omega]; exact Nat.le_refl _
  | succ b ih =>
    by_cases e : a = b + 1
    · subst e; exact Nat.le_refl _
    · rw [qpa_s]
      have := ih (by omega)
      omega
theorem qIsP_u {g : Qg} (hg : qGok g) {k s p s' p' : Nat} (h : qIsP g k s p) (h' : qIsP g k s' p') : s = s' ∧ p = p' := by
  have hp8 := q_pow8 hg.1
  have up : ∀ s p, qIsP g k s p → k < qpa g (s + 1) := by
    rintro s p ⟨h0, h1, h2, h3⟩
    rw [qpa_s]
    have := (List.getElem?_eq_some_iff.mp h3).1
    rw [qL_len g s (by omega)] at this
    omega
  have u1 := up s p h
  have u2 := up s' p' h'
  have e : s = s' := by
    have a := h.2.2.1
    have b := h'.2.2.1
    by_cases c : s < s'
    · have := qpa_mono g (show s + 1 ≤ s' by omega)
      omega
    · by_cases d : s' < s
      · have := qpa_mono g (show s' + 1 ≤ s by omega)
        omega
      · omega
  subst e
  have := h.2.2.2
  rw [h'.2.2.2] at this
  exact ⟨rfl, (Option.some.inj this).symm⟩
theorem R_pair_q {g : Qg} {all con : Nat → Int32} (hg : qGok g) (hr : qRg g all) (hc : ∀ x, x ≠ 0 → x < 2 ^ qn g → con x = qi (qcon g x).toNat) (ra : Int32) (bc : Nat → Int64) (bx bp cp : Nat → Int32) (sz : Nat → Int64)
    (x1 : Int32) (k : Nat) (hk : ∀ n, n ≤ 40000 → (qi n = x1 ↔ n = k)) (b : Bool) (N : Nat) (hN : 300 < N) :
    ∃ a, R_pair_14 N ra all bc bx bp cp con sz x1 (qi b.toNat) (qi 0) (qi 1) = some (a, ra, bc, bx, bp, cp, con, sz) ∧
      ((∃ s p, qIsP g k s p ∧ a = qi (if b then s ^^^ p else p)) ∨ (qpa g (2 ^ qn g) ≤ k ∧ a = -1)) := by
  have hp8 := q_pow8 hg.1
  have hp0 := Nat.two_pow_pos (qn g)
  have hev := R_everything_q hg hr.1
  have inner : ∀ s, s ≠ 0 → s < 2 ^ qn g → qpa g s ≤ k → ∃ y, lp (fun x : Int32 × Int32 => R_pair_b26 N ra all bc bx bp cp con sz x1 (qi b.toNat) x.1 (qi s) x.2) N (qi (qpa g s), qi 1) = some y ∧
      ((∃ p, y = .inl (qi p) ∧ qIsP g k s p) ∨ (y = .inr (qi (qpa g (s + 1))) ∧ qpa g (s + 1) ≤ k)) := by
    intro s s0 hs hsk
    have hpa := qpa_le g s (by omega)
    let c := fun p => qlc s p && qpr g s p
    have c0 : c 0 = false := by simp [c, qlc, q_low0 s (by omega) s0]
    refine qlp_inv (Inv := fun x => ∃ i, 1 ≤ i ∧ i ≤ s ∧ x = (qi (qpa g s + (List.range i).countP c), qi i) ∧ qpa g s + (List.range i).countP c ≤ k) (mu := fun x => s - x.2.toNatClampNeg) _ ?_ _ ?_ N ?_
    · rintro x ⟨i, hi1, hi2, rfl, hle⟩
      have hcl := q_count_le c i
      by_cases he : s ≤ i
      · right
        have : i = s := by omega
        subst this
        have ec : (List.range i).countP c = qpc g i := qparts_count g i (by omega)
        refine ⟨.inr (qi (qpa g i + (List.range i).countP c)), by simp (disch := omega) only [R_pair_b26, qi_lit, qi_m1, qi_add, qi_mul, qi_and, qi_or, qi_xor, qi_not, qi_shl, qi_shr, qi_and31, qi_nat, qi_inb, qi_eq, qi_lt, qi_le, qi_sub, if_pos he], .inr ⟨?_, ?_⟩⟩
        · rw [ec, qpa_s]
        · rw [qpa_s, ← ec]; exact hle
      · have ip := R_isPair_q (con := con) hg hr s i (by omega) (by omega) (fun x x0 hx => hc x x0 (by omega)) N hN
        have ip' : R_isPair N all con (qi i) (qi s) = some (qi (c i).toNat) := ip
        rcases q_dich (c i) with kc | kc
        · left
          refine ⟨(qi (qpa g s + (List.range (i + 1)).countP c), qi (i + 1)), ?_, ⟨i + 1, by omega, by omega, rfl, ?_⟩, ?_⟩
          · simp (disch := omega) only [R_pair_b26, qi_lit, qi_m1, qi_add, qi_mul, qi_and, qi_or, qi_xor, qi_not, qi_shl, qi_shr, qi_and31, qi_nat, qi_inb, qi_eq, qi_lt, qi_le, qi_sub, dn, db_some, dk_t, if_neg he, ip', qb_0, kc, if_true]
            rw [q_count_s c i, kc]
            rfl
          · rw [q_count_s c i, kc]; exact hle
          · show s - (qi (i + 1)).toNatClampNeg < s - (qi i).toNatClampNeg
            rw [qi_nat _ (by omega), qi_nat _ (by omega)]; omega
        · by_cases hit : qpa g s + (List.range i).countP c = k
          · right
            have hh := (hk (qpa g s + (List.range i).countP c) (by omega)).mpr hit
            refine ⟨.inl (qi i), ?_, .inl ⟨i, rfl, s0, hs, hsk, ?_⟩⟩
            · simp (disch := omega) only [R_pair_b26, qi_lit, qi_m1, qi_add, qi_mul, qi_and, qi_or, qi_xor, qi_not, qi_shl, qi_shr, qi_and31, qi_nat, qi_inb, qi_eq, qi_lt, qi_le, qi_sub, dn, db_some, dk_t, if_neg he, ip', qb_0, kc]
              simp [hh]
            · rw [← hit, Nat.add_sub_cancel_left]
              obtain ⟨r, hr⟩ := q_split i s (by omega)
              have := q_fget c (List.range i) r i kc
              rw [← hr] at this
              unfold qL qparts
              rw [List.filter_filter]
              rw [show (fun a => qpr g s a && (qsub a s && qsub (qlow s) a)) = c from funext fun a => Bool.and_comm _ _]
              exact this
          · left
            have hh : ¬ qi (qpa g s + (List.range i).countP c) = x1 := fun e => hit ((hk _ (by omega)).mp e)
            refine ⟨(qi (qpa g s + (List.range (i + 1)).countP c), qi (i + 1)), ?_, ⟨i + 1, by omega, by omega, rfl, ?_⟩, ?_⟩
            · simp (disch := omega) only [R_pair_b26, qi_lit, qi_m1, qi_add, qi_mul, qi_and, qi_or, qi_xor, qi_not, qi_shl, qi_shr, qi_and31, qi_nat, qi_inb, qi_eq, qi_lt, qi_le, qi_sub, dn, db_some, dk_t, if_neg he, ip', qb_0, kc, if_neg hh]
              rw [q_count_s c i, kc]
              rfl
            · rw [q_count_s c i, kc]
              have : true.toNat = 1 := rfl
              omega
            · show s - (qi (i + 1)).toNatClampNeg < s - (qi i).toNatClampNeg
              rw [qi_nat _ (by omega), qi_nat _ (by omega)]; omega
    · exact ⟨1, by omega, by omega, by simp [c0], by simpa [c0] using hsk⟩
    · show s - (qi 1).toNatClampNeg < N
      omega
  have outer := qlp_inv (body := fun x : Int32 × Int32 => R_pair_b14 N ra all bc bx bp cp con sz x1 (qi b.toNat) x.1 x.2)
    (Inv := fun x => ∃ s, 1 ≤ s ∧ s ≤ 2 ^ qn g ∧ x = (qi (qpa g s), qi s) ∧ qpa g s ≤ k) (mu := fun x => 2 ^ qn g - x.2.toNatClampNeg)
    (Q := fun y => (∃ s p, y = .inl (qi s, qi p) ∧ qIsP g k s p) ∨ (y = .inr () ∧ qpa g (2 ^ qn g) ≤ k)) ?_ (qi 0, qi 1) ?_ N ?_
  · obtain ⟨y, e, q⟩ := outer
    rcases q with ⟨s, p, rfl, q⟩ | ⟨rfl, q⟩
    · refine ⟨qi (if b then s ^^^ p else p), ?_, .inl ⟨s, p, q, rfl⟩⟩
      have hm := qL_mem g s p _ q.2.2.2
      have hs := q.2.1
      have ⟨a1, a2, a3, a4, a5, a6, a7⟩ := qparts_all (by omega) hm
      have ex := q_and_xor a3
      unfold R_pair_14
      rw [e, db_some]
      simp (disch := omega) only [R_pair_a14, R_pair_49, qi_lit, qi_m1, qi_add, qi_mul, qi_and, qi_or, qi_xor, qi_not, qi_shl, qi_shr, qi_and31, qi_nat, qi_inb, qi_eq, qi_lt, qi_le, qi_sub, qb_0, ex]
      cases b <;> simp
    · refine ⟨-1, ?_, .inr ⟨q, rfl⟩⟩
      unfold R_pair_14
      rw [e]
      rfl
  · rintro x ⟨s, h1, h2, rfl, h3⟩
    have hpa := qpa_le g s (by omega)
    by_cases he : 2 ^ qn g - 1 < s
    · right
      have : s = 2 ^ qn g := by omega
      refine ⟨.inr (), by simp (disch := omega) only [R_pair_b14, hev, qi_lit, qi_m1, qi_add, qi_mul, qi_and, qi_or, qi_xor, qi_not, qi_shl, qi_shr, qi_and31, qi_nat, qi_inb, qi_eq, qi_lt, qi_le, qi_sub, if_pos he], .inr ⟨rfl, by rw [← this]; exact h3⟩⟩
    · obtain ⟨y, e, q⟩ := inner s (by omega) (by omega) h3
      have eb : R_pair_b14 N ra all bc bx bp cp con sz x1 (qi b.toNat) (qi (qpa g s)) (qi s) = R_pair_a26 N ra all bc bx bp cp con sz x1 (qi b.toNat) (qi s) y := by
        simp (disch := omega) only [R_pair_b14, R_pair_26, hev, qi_lit, qi_m1, qi_add, qi_mul, qi_and, qi_or, qi_xor, qi_not, qi_shl, qi_shr, qi_and31, qi_nat, qi_inb, qi_eq, qi_lt, qi_le, qi_sub, if_neg he]
        rw [e]; rfl
      rcases q with ⟨p, rfl, q⟩ | ⟨rfl, q⟩
      · right
        exact ⟨.inl (qi s, qi p), eb, .inl ⟨s, p, rfl, q⟩⟩
      · left
        refine ⟨(qi (qpa g (s + 1)), qi (s + 1)), ?_, ⟨s + 1, by omega, by omega, rfl, q⟩, ?_⟩
        · simp only []
          rw [eb]
          simp (disch := omega) only [R_pair_a26, R_pair_75, qi_lit, qi_m1, qi_add, qi_mul, qi_and, qi_or, qi_xor, qi_not, qi_shl, qi_shr, qi_and31, qi_nat, qi_inb, qi_eq, qi_lt, qi_le, qi_sub, dn, db_some, dk_t]
        · show 2 ^ qn g - (qi (s + 1)).toNatClampNeg < 2 ^ qn g - (qi s).toNatClampNeg
          rw [qi_nat _ (by omega), qi_nat _ (by omega)]; omega
  · exact ⟨1, by omega, by omega, by simp [qpa, qpc_0], by simp [qpa, qpc_0]⟩
  · show 2 ^ qn g - (qi 1).toNatClampNeg < N
    omega

theorem S_firstOfPair_q {g : Qg} {li ri cs : Nat → Int32} (hg : qGok g) (hS : qSets g li ri) (h : qCs g cs (2 ^ qn g)) (s : Nat) (s0 : s ≠ 0) (hs2 : s < 2 ^ qn g) (k : Nat) (hk : k < qpc g s) (N : Nat) (hN : 300 < N) :
    ∃ p, S_firstOfPair N cs li ri (qi s) (qi k) = some (qi p) ∧ (qL g s)[k]? = some p := by
  have hp8 := q_pow8 hg.1
  have hs : s < 256 := by omega
  have hsp := qspl_lt s hs
  have hpl := qpc_lt g s hs
  let l := fun i => (List.range i).map (qnth s)
  have hl : ∀ i, l (i + 1) = l i ++ [qnth s i] := by
    intro i; simp only [l]; rw [List.range_succ, List.map_append]; rfl
  have hfull : qparts s = l (qspl s) := by
    rcases qparts_nth s hs with e | e
    · exact absurd e s0
    · exact e
  have key := qlp_inv (body := fun x : Int32 × Int32 × Int32 => S_firstOfPair_b17 N cs li ri (qi s) x.1 (qi (qspl s)) x.2.1 x.2.2)
    (Inv := fun x => ∃ i, i ≤ qspl s ∧ (l i).countP (qpr g s) ≤ k ∧ x = (qi (k - (l i).countP (qpr g s)), qi (qnth s i), qi i)) (mu := fun x => qspl s - x.2.2.toNatClampNeg)
    (Q := fun y => ∃ p, y = .inl (qi p) ∧ (qL g s)[k]? = some p) ?_ (qi k, qi (qlow s), qi 0) ?_ N ?_
  · obtain ⟨y, e, p, rfl, q⟩ := key
    refine ⟨p, ?_, q⟩
    simp (disch := omega) only [S_firstOfPair, S_firstOfPair_17, qi_lit, qi_m1, qi_add, qi_mul, qi_and, qi_or, qi_xor, qi_not, qi_shl, qi_shr, qi_and31, qi_nat, qi_inb, qi_eq, qi_lt, qi_le, qi_sub, dn, db_some, dk_t, J_splitsOf_q, J_least_q]
    rw [e]
    rfl
  · rintro x ⟨i, hi, hle, rfl⟩
    by_cases he : qspl s ≤ i
    · exfalso
      have : i = qspl s := by omega
      subst this
      rw [← hfull, ← qpc_eq g s hs] at hle
      omega
    · have hm := qnth_mem s hs s0 i (by omega)
      have ip := S_isPair_q hg hS h (Nat.le_refl _) s (qnth s i) (by omega) hs2 hm
      have ⟨a1, a2, a3, a4, a5, a6, a7⟩ := qparts_all hs hm
      rcases q_dich (qpr g s (qnth s i)) with kc | kc
      · left
        have hcc : (l (i + 1)).countP (qpr g s) = (l i).countP (qpr g s) := by rw [hl i, List.countP_append]; simp [kc]
        refine ⟨(qi (k - (l (i + 1)).countP (qpr g s)), qi (qnth s (i + 1)), qi (i + 1)), ?_, ⟨i + 1, by omega, by rw [hcc]; exact hle, rfl⟩, ?_⟩
        · simp (disch := omega) only [S_firstOfPair_b17, S_firstOfPair_47, qi_lit, qi_m1, qi_add, qi_mul, qi_and, qi_or, qi_xor, qi_not, qi_shl, qi_shr, qi_and31, qi_nat, qi_inb, qi_eq, qi_lt, qi_le, qi_sub, dn, db_some, dk_t, if_neg he, ip, qb_0, kc, if_true, J_nextPart_q s hs i (by omega), hcc]
        · show qspl s - (qi (i + 1)).toNatClampNeg < qspl s - (qi i).toNatClampNeg
          rw [qi_nat _ (by omega), qi_nat _ (by omega)]; omega
      · have hcc : (l (i + 1)).countP (qpr g s) = (l i).countP (qpr g s) + 1 := by rw [hl i, List.countP_append]; simp [kc]
        by_cases hit : k - (l i).countP (qpr g s) = 0
        · right
          refine ⟨.inl (qi (qnth s i)), ?_, qnth s i, rfl, ?_⟩
          · simp (disch := omega) only [S_firstOfPair_b17, S_firstOfPair_47, qi_lit, qi_m1, qi_add, qi_mul, qi_and, qi_or, qi_xor, qi_not, qi_shl, qi_shr, qi_and31, qi_nat, qi_inb, qi_eq, qi_lt, qi_le, qi_sub, dn, db_some, dk_t, if_neg he, ip, qb_0, kc, hit]
            simp
          · obtain ⟨r, hr⟩ := q_split i (qspl s) (by omega)
            have := q_fget (qpr g s) (l i) (r.map (qnth s)) (qnth s i) kc
            unfold qL
            rw [hfull]
            have e : l (qspl s) = l i ++ qnth s i :: r.map (qnth s) := by
              simp only [l]; rw [hr]; simp
            rw [e, show k = (l i).countP (qpr g s) by omega]
            exact this
        · left
          refine ⟨(qi (k - (l (i + 1)).countP (qpr g s)), qi (qnth s (i + 1)), qi (i + 1)), ?_, ⟨i + 1, by omega, by omega, rfl⟩, ?_⟩
          · have em : qi (k - (l i).countP (qpr g s)) + Int32.ofInt (-1) = qi (k - (l (i + 1)).countP (qpr g s)) := by
              rw [hcc, show k - (l i).countP (qpr g s) = k - ((l i).countP (qpr g s) + 1) + 1 by omega, ← qi_add, Int32.add_assoc]
              rw [show qi 1 + Int32.ofInt (-1) = 0 from rfl, Int32.add_zero]
            simp (disch := omega) only [S_firstOfPair_b17, S_firstOfPair_47, qi_lit, qi_m1, qi_add, qi_mul, qi_and, qi_or, qi_xor, qi_not, qi_shl, qi_shr, qi_and31, qi_nat, qi_inb, qi_eq, qi_lt, qi_le, qi_sub, dn, db_some, dk_t, if_neg he, ip, qb_0, kc, J_nextPart_q s hs i (by omega), if_neg hit, em]
            simp
          · show qspl s - (qi (i + 1)).toNatClampNeg < qspl s - (qi i).toNatClampNeg
            rw [qi_nat _ (by omega), qi_nat _ (by omega)]; omega
  · exact ⟨0, by omega, by simp [l], by simp [l]; rfl⟩
  · show qspl s - (qi 0).toNatClampNeg < N
    omega
theorem S_partOfPair_q {g : Qg} {li ri ps cs : Nat → Int32} (hg : qGok g) (hS : qSets g li ri) (h : qPs g ps (2 ^ qn g)) (hc : qCs g cs (2 ^ qn g)) (k : Nat) (hk : k < qpa g (2 ^ qn g)) (b : Bool) (N : Nat) (hN : 300 < N) :
    ∃ s p, S_partOfPair N (qi (2 ^ qn g)) cs li ps ri (qi k) (qi b.toNat) = some (qi (if b then s ^^^ p else p)) ∧ qIsP g k s p := by
  have hp8 := q_pow8 hg.1
  have hp0 := Nat.two_pow_pos (qn g)
  have hpa := qpa_le g (2 ^ qn g) (by omega)
  have key := qlp_inv (body := fun x : Int32 × Int32 => S_partOfPair_b5 N (qi (2 ^ qn g)) cs li ps ri (qi b.toNat) x.1 x.2)
    (Inv := fun x => ∃ s, 1 ≤ s ∧ s ≤ 2 ^ qn g ∧ qpa g s ≤ k ∧ x = (qi (k - qpa g s), qi s)) (mu := fun x => 2 ^ qn g - x.2.toNatClampNeg)
    (Q := fun y => ∃ s, y = .inl (qi (k - qpa g s), qi s) ∧ s ≠ 0 ∧ s < 2 ^ qn g ∧ qpa g s ≤ k ∧ k - qpa g s < qpc g s) ?_ (qi k, qi 1) ?_ N ?_
  · obtain ⟨y, e, s, rfl, s0, hs, h1, h2⟩ := key
    obtain ⟨p, ep, qp⟩ := S_firstOfPair_q hg hS hc s s0 hs (k - qpa g s) h2 N hN
    refine ⟨s, p, ?_, s0, hs, h1, qp⟩
    unfold S_partOfPair S_partOfPair_5
    rw [show (1 : Int32) = qi 1 from rfl, e, db_some]
    simp (disch := omega) only [S_partOfPair_a5, S_partOfPair_25, qi_lit, qi_m1, qi_add, qi_mul, qi_and, qi_or, qi_xor, qi_not, qi_shl, qi_shr, qi_and31, qi_nat, qi_inb, qi_eq, qi_lt, qi_le, qi_sub, dn, db_some, dk_t, ep, qb_0]
    cases b <;> simp
  · rintro x ⟨s, h1, h2, h3, rfl⟩
    have hne : s ≠ 2 ^ qn g := by intro e; rw [e] at h3; omega
    have hps := h s (by omega) (by omega)
    have hpl := qpc_lt g s (by omega)
    by_cases he : qpc g s ≤ k - qpa g s
    · left
      refine ⟨(qi (k - qpa g (s + 1)), qi (s + 1)), ?_, ⟨s + 1, by omega, by omega, by rw [qpa_s]; omega, rfl⟩, ?_⟩
      · simp (disch := omega) only [S_partOfPair_b5, qi_lit, qi_m1, qi_add, qi_mul, qi_and, qi_or, qi_xor, qi_not, qi_shl, qi_shr, qi_and31, qi_nat, qi_inb, qi_eq, qi_lt, qi_le, qi_sub, dn, db_some, dk_t, if_neg (show ¬ 2 ^ qn g ≤ s by omega), hps, if_pos he]
        rw [qpa_s, show k - qpa g s - qpc g s = k - (qpa g s + qpc g s) by omega]
      · show 2 ^ qn g - (qi (s + 1)).toNatClampNeg < 2 ^ qn g - (qi s).toNatClampNeg
        rw [qi_nat _ (by omega), qi_nat _ (by omega)]; omega
    · right
      refine ⟨.inl (qi (k - qpa g s), qi s), ?_, s, rfl, by omega, by omega, h3, by omega⟩
      simp (disch := omega) only [S_partOfPair_b5, qi_lit, qi_m1, qi_add, qi_mul, qi_and, qi_or, qi_xor, qi_not, qi_shl, qi_shr, qi_and31, qi_nat, qi_inb, qi_eq, qi_lt, qi_le, qi_sub, dn, db_some, dk_t, if_neg (show ¬ 2 ^ qn g ≤ s by omega), hps, if_neg he]
  · exact ⟨1, by omega, by omega, by simp [qpa, qpc_0], by simp [qpa, qpc_0]⟩
  · show 2 ^ qn g - (qi 1).toNatClampNeg < N
    omega
