theorem q_pow_inj {q r : Nat} (h : 2 ^ q = 2 ^ r) : q = r := by
  by_cases a : q < r
  · have := Nat.pow_lt_pow_right (a := 2) (by omega) a
    omega
  · by_cases b : r < q
    · have := Nat.pow_lt_pow_right (a := 2) (by omega) b
      omega
    · omega
def qins (r : Nat) : Qt → List Qt
  | .var q => [.op (.var q) (.var r)]
  | .op a b => .op (.op a b) (.var r) :: ((qins r a).map (fun x => .op x b) ++ (qins r b).map (fun x => .op a x))
def qrm (r : Nat) : Qt → Qt
  | .var q => .var q
  | .op a b => if qts b = 2 ^ r then a else if (qts a).testBit r then .op (qrm r a) b else .op a (qrm r b)
def qAT (S : Nat) : Nat → List Qt
  | 0 => []
  | r + 1 => if S.testBit r then (if S % 2 ^ r = 0 then [.var r] else (qAT S r).flatMap (qins r)) else qAT S r
theorem qins_len (r : Nat) : ∀ t, (qins r t).length = 2 * (qtn t).length + 1 := by
  intro t
  induction t with
  | var q => rfl
  | op a b iha ihb =>
    show (_ :: (List.map _ (qins r a) ++ List.map _ (qins r b))).length = 2 * ((_, _) :: (qtn a ++ qtn b)).length + 1
    simp [iha, ihb]
    omega
theorem qins_nodes (r : Nat) : ∀ t u, u ∈ qins r t → (qtn u).length = (qtn t).length + 1 := by
  intro t
  induction t with
  | var q =>
    intro u hu
    simp [qins] at hu
    subst hu
    rfl
  | op a b iha ihb =>
    intro u hu
    rcases List.mem_cons.mp hu with rfl | hu
    · simp [qtn]
    · rcases List.mem_append.mp hu with hu | hu
      · obtain ⟨x, hx, rfl⟩ := List.mem_map.mp hu
        have := iha x hx
        simp [qtn]
        omega
      · obtain ⟨x, hx, rfl⟩ := List.mem_map.mp hu
        have := ihb x hx
        simp [qtn]
        omega
theorem q_low_rm (s r : Nat) (hs : s < 256) (h : s.testBit r = true) (hr : s < 2 ^ (r + 1)) (h1 : s ≠ 2 ^ r) : s ^^^ 2 ^ r ≠ 0 ∧ qlow (s ^^^ 2 ^ r) = qlow s := by
  have hs0 : s ≠ 0 := by intro e; subst e; simp at h
  have hx : s ^^^ 2 ^ r ≠ 0 := fun e => h1 (by rw [q_xor0] at e; exact e)
  refine ⟨hx, ?_⟩
  have hr8 : r < 8 := by
    by_cases e : r < 8
    · exact e
    · rw [Nat.testBit_lt_two_pow (Nat.lt_of_lt_of_le (show s < 2 ^ 8 by omega) (Nat.pow_le_pow_right (by omega) (by omega)))] at h
      cases h
  have hxl : s ^^^ 2 ^ r < 256 := Nat.xor_lt_two_pow (n := 8) hs (Nat.pow_lt_pow_right (a := 2) (n := 8) (by omega) hr8)
  have ⟨A1, A2, A3⟩ := qlr_q (s ^^^ 2 ^ r) hxl hx
  have hne : qlr (s ^^^ 2 ^ r) ≠ r := by
    intro e
    rw [e, q_xpow, h] at A2
    simp at A2
  have hlt : qlr (s ^^^ 2 ^ r) < r := by
    by_cases e : qlr (s ^^^ 2 ^ r) < r
    · exact e
    · exfalso
      rw [q_xpow, Nat.testBit_lt_two_pow (Nat.lt_of_lt_of_le hr (Nat.pow_le_pow_right (by omega) (by omega)))] at A2
      simp at A2
      exact hne A2.symm
  have e := qlr_u s (qlr (s ^^^ 2 ^ r)) hs (by
      rw [q_xpow] at A2
      have : decide (r = qlr (s ^^^ 2 ^ r)) = false := by simp; omega
      rw [this] at A2
      simpa using A2) (by
      intro i hi
      have := A3 i hi
      rw [q_xpow] at this
      have e2 : decide (r = i) = false := by simp; omega
      rw [e2] at this
      simpa using this)
  rw [A1, (qlr_q s hs hs0).1, e]
theorem qrm_q (r : Nat) : ∀ t, qtok t → (qts t).testBit r = true → qts t < 2 ^ (r + 1) → qts t ≠ 2 ^ r → qtok (qrm r t) ∧ qts (qrm r t) = qts t ^^^ 2 ^ r ∧ t ∈ qins r (qrm r t) := by
  intro t
  induction t with
  | var q =>
    intro h h1 h2 h3
    exfalso
    rw [show qts (.var q) = 2 ^ q from rfl, Nat.testBit_two_pow] at h1
    simp at h1
    subst h1
    exact h3 rfl
  | op a b iha ihb =>
    intro h h1 h2 h3
    have ho := qtok_op h
    have la := qts_lt a h.1
    have lb := qts_lt b h.2.1
    have h1' : (qts a ||| qts b).testBit r = true := h1
    have h2' : qts a ||| qts b < 2 ^ (r + 1) := h2
    have hla := @Nat.left_le_or (qts a) (qts b)
    have hlb := @Nat.right_le_or (qts a) (qts b)
    unfold qrm
    by_cases eb : qts b = 2 ^ r
    · rw [if_pos eb]
      have hbv : b = .var r := by
        cases b with
        | var q =>
          have : 2 ^ q = 2 ^ r := eb
          rw [q_pow_inj this]
        | op x y =>
          exfalso
          have := (qtok_op h.2.1).2.2.2.2.2.2
          have e2 : qts x ||| qts y = 2 ^ r := eb
          have hr8 : r < 8 := by
            by_cases e : r < 8
            · exact e
            · have : 2 ^ 8 ≤ 2 ^ r := Nat.pow_le_pow_right (by omega) (by omega)
              omega
          rw [e2, qone_pow r hr8] at this
          cases this
      refine ⟨h.1, ?_, ?_⟩
      · show qts a = (qts a ||| qts b) ^^^ 2 ^ r
        rw [← eb, Nat.or_comm]
        exact (q_or_xor (by rw [Nat.and_comm]; exact h.2.2.1)).symm
      · rw [hbv]
        cases a with
        | var q => exact List.mem_cons_self ..
        | op x y => exact List.mem_cons_self ..
    · rw [if_neg eb]
      by_cases ea : (qts a).testBit r = true
      · rw [if_pos ea]
        have hbn : (qts b).testBit r = false := by
          have := congrArg (fun z => z.testBit r) h.2.2.1
          simp [ea] at this
          exact this
        have ha1 : qts a ≠ 2 ^ r := by
          intro e
          -- then the least relation of all is r, and the second has none
          have hlow := h.2.2.2
          rcases qlow_dis _ _ la.1 lb.1 la.2 lb.2 h.2.2.1 with ⟨k1, k2⟩ | ⟨k1, k2⟩
          · have ⟨B1, B2, B3⟩ := qlr_q (qts b) lb.1 lb.2
            have hbl : qlr (qts b) < r := by
              have hne : qlr (qts b) ≠ r := by intro e; rw [e, hbn] at B2; cases B2
              by_cases c : qlr (qts b) < r
              · exact c
              · exfalso
                rw [Nat.testBit_lt_two_pow (Nat.lt_of_lt_of_le (show qts b < 2 ^ (r + 1) by omega) (Nat.pow_le_pow_right (by omega) (by omega)))] at B2
                cases B2
            have ⟨A1, A2, A3⟩ := qlr_q (qts a) la.1 la.2
            have ar : qlr (qts a) = r := by
              rw [e, Nat.testBit_two_pow] at A2
              have : r = qlr (2 ^ r) := by simpa using A2
              rw [e]; exact this.symm
            rw [A1, B1, ar] at k1
            have := Nat.pow_lt_pow_right (a := 2) (by omega) hbl
            omega
          · rw [k2] at hlow
            exact lb.2 (qlow_0 _ lb.1 (q_disj h.2.2.1 hlow (qlow_sub _ lb.1)))
        obtain ⟨i1, i2, i3⟩ := iha h.1 ea (by omega) ha1
        have hsx : qts (qrm r a) ||| qts b = (qts a ||| qts b) ^^^ 2 ^ r := by
          rw [i2]
          apply Nat.eq_of_testBit_eq
          intro i
          rw [q_xpow, Nat.testBit_or, q_xpow, Nat.testBit_or]
          by_cases ei : r = i
          · subst ei; simp [ea, hbn]
          · simp [ei]
        have hlx := q_low_rm (qts a ||| qts b) r ho.2.2.1 h1' h2' (by
          intro e
          have := qtok_op h
          rw [e] at this
          have h8 : r < 8 := by
            by_cases c : r < 8
            · exact c
            · have : 2 ^ 8 ≤ 2 ^ r := Nat.pow_le_pow_right (by omega) (by omega)
              omega
          rw [qone_pow r h8] at this
          cases this.2.2.2.2.2.2)
        refine ⟨⟨i1, h.2.1, ?_, ?_⟩, hsx, ?_⟩
        · rw [i2]
          apply Nat.eq_of_testBit_eq
          intro i
          have := congrArg (fun z => z.testBit i) h.2.2.1
          rw [Nat.testBit_and, q_xpow]
          simp at this ⊢
          by_cases ei : r = i
          · subst ei; simp [hbn]
          · simp [ei]; exact this
        · rw [hsx, hlx.2, i2]
          apply q_sub_of
          intro i hi
          have h5 := q_tb h.2.2.2 i hi
          rw [q_xpow, h5]
          have : ¬ r = i := by
            intro e
            subst e
            have hh : qlow (qts a ||| qts b) = qlow ((qts a ||| qts b) ^^^ 2 ^ r) := hlx.2.symm
            rw [hh] at hi
            have hxl : (qts a ||| qts b) ^^^ 2 ^ r < 256 := by
              have := q_sub_le (q_xor_sub (s := qts a ||| qts b) (p := 2 ^ r) (q_sub_of fun j hj => by
                rw [Nat.testBit_two_pow] at hj; simp at hj; subst hj; exact h1'))
              omega
            have := q_tb (qlow_sub _ hxl) r hi
            rw [q_xpow, h1'] at this
            simp at this
          simp [this]
        · exact List.mem_cons_of_mem _ (List.mem_append_left _ (List.mem_map.mpr ⟨a, i3, rfl⟩))
      · rw [if_neg ea]
        have ea' : (qts a).testBit r = false := by simpa using ea
        have hbt : (qts b).testBit r = true := by
          rw [Nat.testBit_or, ea'] at h1'
          simpa using h1'
        obtain ⟨i1, i2, i3⟩ := ihb h.2.1 hbt (by omega) eb
        have hsx : qts a ||| qts (qrm r b) = (qts a ||| qts b) ^^^ 2 ^ r := by
          rw [i2]
          apply Nat.eq_of_testBit_eq
          intro i
          rw [q_xpow, Nat.testBit_or, q_xpow, Nat.testBit_or]
          by_cases ei : r = i
          · subst ei; simp [ea', hbt]
          · simp [ei]
        have hlx := q_low_rm (qts a ||| qts b) r ho.2.2.1 h1' h2' (by
          intro e
          have := qtok_op h
          rw [e] at this
          have h8 : r < 8 := by
            by_cases c : r < 8
            · exact c
            · have : 2 ^ 8 ≤ 2 ^ r := Nat.pow_le_pow_right (by omega) (by omega)
              omega
          rw [qone_pow r h8] at this
          cases this.2.2.2.2.2.2)
        refine ⟨⟨h.1, i1, ?_, ?_⟩, hsx, ?_⟩
        · rw [i2]
          apply Nat.eq_of_testBit_eq
          intro i
          have := congrArg (fun z => z.testBit i) h.2.2.1
          rw [Nat.testBit_and, q_xpow]
          simp at this ⊢
          by_cases ei : r = i
          · subst ei; simp [ea']
          · simp [ei]; exact this
        · rw [hsx, hlx.2]; exact h.2.2.2
        · have : Lean.Data.AC.Expr.op a b ∈ (qins r (qrm r b)).map (fun x => Lean.Data.AC.Expr.op a x) := List.mem_map.mpr ⟨b, i3, rfl⟩
          exact List.mem_cons_of_mem _ (List.mem_append_right _ this)
theorem qAT_mem (S : Nat) : ∀ r t, qtok t → qts t = S % 2 ^ r → t ∈ qAT S r := by
  intro r
  induction r with
  | zero =>
    intro t h e
    rw [Nat.pow_zero, Nat.mod_one] at e
    exact absurd e (qts_lt t h).2
  | succ r ih =>
    intro t h e
    have hlt : S % 2 ^ r < 2 ^ r := Nat.mod_lt _ (Nat.two_pow_pos r)
    unfold qAT
    rcases q_dich (S.testBit r) with k | k
    · rw [if_neg (by rw [k]; decide)]
      rw [q_mod0 k] at e
      exact ih t h e
    · rw [if_pos k]
      rw [q_mod1 k] at e
      have hbit : (qts t).testBit r = true := by
        rw [e, q_tbd, Nat.add_div_right _ (Nat.two_pow_pos r), Nat.div_eq_of_lt hlt]; rfl
      have hl := qts_lt t h
      by_cases z : S % 2 ^ r = 0
      · rw [if_pos z]
        rw [z, Nat.zero_add] at e
        cases t with
        | var q =>
          have : 2 ^ q = 2 ^ r := e
          rw [q_pow_inj this]
          exact List.mem_cons_self ..
        | op a b =>
          exfalso
          have := (qtok_op h).2.2.2.2.2.2
          have e2 : qts a ||| qts b = 2 ^ r := e
          have hr8 : r < 8 := by
            by_cases c : r < 8
            · exact c
            · have : 2 ^ 8 ≤ 2 ^ r := Nat.pow_le_pow_right (by omega) (by omega)
              omega
          rw [e2, qone_pow r hr8] at this
          cases this
      · rw [if_neg z]
        have hp : 2 ^ (r + 1) = 2 * 2 ^ r := by rw [Nat.pow_succ]; omega
        obtain ⟨q1, q2, q3⟩ := qrm_q r t h hbit (by omega) (by omega)
        refine List.mem_flatMap.mpr ⟨qrm r t, ih _ q1 ?_, q3⟩
        rw [q2, e, ← q_orp hlt]
        apply Nat.eq_of_testBit_eq
        intro i
        rw [q_xpow, Nat.testBit_or, Nat.testBit_two_pow]
        by_cases ei : r = i
        · subst ei
          rw [Nat.testBit_lt_two_pow hlt]
          simp
        · simp [ei]
def qD : Nat → Nat
  | 0 => 1
  | 1 => 1
  | m + 2 => qD (m + 1) * (2 * m + 1)
theorem qAT_len (S : Nat) : ∀ r, ∃ m, m ≤ r ∧ (∀ t, t ∈ qAT S r → (qtn t).length + 1 = m) ∧ (qAT S r).length ≤ qD m ∧ (m = 0 → S % 2 ^ r = 0) := by
  intro r
  induction r with
  | zero => exact ⟨0, by omega, (by intro t ht; cases ht), Nat.zero_le _, by intro _; rw [Nat.pow_zero, Nat.mod_one]⟩
  | succ r ih =>
    obtain ⟨m, h1, h2, h3, h4⟩ := ih
    unfold qAT
    rcases q_dich (S.testBit r) with k | k
    · rw [if_neg (by rw [k]; decide)]
      exact ⟨m, by omega, h2, h3, by rw [q_mod0 k]; exact h4⟩
    · rw [if_pos k]
      by_cases z : S % 2 ^ r = 0
      · rw [if_pos z]
        refine ⟨1, by omega, ?_, Nat.le_refl 1, by intro h; omega⟩
        intro t ht
        have : t = .var r := by simpa using ht
        subst this
        rfl
      · rw [if_neg z]
        have m0 : m ≠ 0 := fun e => z (h4 e)
        refine ⟨m + 1, by omega, ?_, ?_, by intro h; omega⟩
        · intro t ht
          obtain ⟨u, hu, hh⟩ := List.mem_flatMap.mp ht
          have := qins_nodes r u t hh
          have := h2 u hu
          omega
        · obtain ⟨m', rfl⟩ : ∃ m', m = m' + 1 := ⟨m - 1, by omega⟩
          have key : ∀ l : List Qt, (∀ t, t ∈ l → (qtn t).length + 1 = m' + 1) → (l.flatMap (qins r)).length = l.length * (2 * m' + 1) := by
            intro l
            induction l with
            | nil => intro _; simp
            | cons u l ihl =>
              intro hl
              rw [List.flatMap_cons, List.length_append, ihl (fun t ht => hl t (List.mem_cons_of_mem _ ht)), qins_len]
              have := hl u (List.mem_cons_self ..)
              rw [show (qtn u).length = m' by omega, List.length_cons, Nat.add_mul l.length 1, Nat.one_mul]
              omega
          rw [key _ h2]
          exact Nat.mul_le_mul_right _ h3
theorem qAT_8 (S : Nat) : (qAT S 8).length ≤ 135135 := by
  obtain ⟨m, h1, _, h3, _⟩ := qAT_len S 8
  have : ∀ m, m ≤ 8 → qD m ≤ 135135 := by decide
  exact Nat.le_trans h3 (this m h1)
