/-- a forest: trees that have no relation in common -/
def qfo (P : List Qt) : Prop := (∀ u, u ∈ P → qtok u) ∧ P.Pairwise (fun u v => qts u &&& qts v = 0)
theorem qfo_perm {P Q : List Qt} (h : qfo P) (e : P.Perm Q) : qfo Q := ⟨fun u hu => h.1 u (e.mem_iff.mpr hu), (e.pairwise_iff (fun {a b} h => by rw [Nat.and_comm]; exact h)).mp h.2⟩
theorem qfo_eq {P : List Qt} (h : qfo P) {u v : Qt} (hu : u ∈ P) (hv : v ∈ P) (e : qts u = qts v) : u = v := by
  induction P with
  | nil => cases hu
  | cons w P ih =>
    obtain ⟨h1, h2⟩ := h
    have hp := List.pairwise_cons.mp h2
    have hd : ∀ x, x ∈ P → qts w ≠ qts x := by
      intro x hx e
      have := hp.1 x hx
      rw [← e, Nat.and_self] at this
      exact (qts_lt w (h1 w (List.mem_cons_self ..))).2 this
    rcases List.mem_cons.mp hu with rfl | hu' <;> rcases List.mem_cons.mp hv with rfl | hv'
    · rfl
    · exact absurd e (hd v hv')
    · exact absurd e.symm (hd u hu')
    · exact ih ⟨fun u hu => h1 u (List.mem_cons_of_mem _ hu), hp.2⟩ hu' hv'
theorem qfo_dis {P : List Qt} (h : qfo P) {u v : Qt} (hu : u ∈ P) (hv : v ∈ P) (ne : u ≠ v) : qts u &&& qts v = 0 := by
  induction P with
  | nil => cases hu
  | cons w P ih =>
    obtain ⟨h1, h2⟩ := h
    have hp := List.pairwise_cons.mp h2
    rcases List.mem_cons.mp hu with rfl | hu' <;> rcases List.mem_cons.mp hv with rfl | hv'
    · exact absurd rfl ne
    · exact hp.1 v hv'
    · rw [Nat.and_comm]; exact hp.1 u hu'
    · exact ih ⟨fun u hu => h1 u (List.mem_cons_of_mem _ hu), hp.2⟩ hu' hv'
def qst (g : Qg) (P P' : List Qt) : Prop := ∃ a b rest, P.Perm (a :: b :: rest) ∧ qlow (qts a) < qlow (qts b) ∧
  (∀ c d, c ∈ P → d ∈ P → c ≠ d → qlow (qts c) < qlow (qts d) → qky g (qts a) (qts b) ≤ qky g (qts c) (qts d)) ∧ P'.Perm (.op a b :: rest)
theorem qst_det {g : Qg} {P Q P' Q' : List Qt} (h : qfo P) (e : P.Perm Q) (h1 : qst g P P') (h2 : qst g Q Q') : P'.Perm Q' := by
  obtain ⟨a, b, r, p1, l1, m1, e1⟩ := h1
  obtain ⟨c, d, r', p2, l2, m2, e2⟩ := h2
  have hQ := qfo_perm h e
  have aP : a ∈ P := p1.mem_iff.mpr (by simp)
  have bP : b ∈ P := p1.mem_iff.mpr (by simp)
  have cQ : c ∈ Q := p2.mem_iff.mpr (by simp)
  have dQ : d ∈ Q := p2.mem_iff.mpr (by simp)
  have cP := e.mem_iff.mpr cQ
  have dP := e.mem_iff.mpr dQ
  have nab : a ≠ b := by intro e; subst e; omega
  have ncd : c ≠ d := by intro e; subst e; omega
  have k1 := m1 c d cP dP ncd l2
  have k2 := m2 a b (e.mem_iff.mp aP) (e.mem_iff.mp bP) nab l1
  have ke := qky_inj (qts_lt a (h.1 a aP)).1 (qts_lt b (h.1 b bP)).1 (qts_lt c (h.1 c cP)).1 (qts_lt d (h.1 d dP)).1 (Nat.le_antisymm k1 k2)
  have ea := qfo_eq h aP cP ke.1
  have eb := qfo_eq h bP dP ke.2
  subst ea
  subst eb
  have : (a :: b :: r).Perm (a :: b :: r') := p1.symm.trans (e.trans p2)
  have : r.Perm r' := (List.Perm.cons_inv (List.Perm.cons_inv this))
  exact e1.trans ((List.Perm.cons _ this).trans e2.symm)
theorem qfo_step {P : List Qt} {a b : Qt} {r : List Qt} (h : qfo P) (e : P.Perm (a :: b :: r)) (l : qlow (qts a) < qlow (qts b)) : qfo (.op a b :: r) := by
  have h' := qfo_perm h e
  obtain ⟨h1, h2⟩ := h'
  have ha := h1 a (by simp)
  have hb := h1 b (by simp)
  have p1 := List.pairwise_cons.mp h2
  have p2 := List.pairwise_cons.mp p1.2
  have dab := p1.1 b (by simp)
  have la := qts_lt a ha
  have lb := qts_lt b hb
  refine ⟨?_, ?_⟩
  · intro u hu
    rcases List.mem_cons.mp hu with rfl | hu
    · refine ⟨ha, hb, dab, ?_⟩
      rcases qlow_dis _ _ la.1 lb.1 la.2 lb.2 dab with ⟨_, e⟩ | ⟨e, _⟩
      · rw [e]; exact qlow_sub _ la.1
      · omega
    · exact h1 u (by simp [hu])
  · refine List.pairwise_cons.mpr ⟨?_, p2.2⟩
    intro v hv
    have d1 := p1.1 v (by simp [hv])
    have d2 := p2.1 v hv
    show (qts a ||| qts b) &&& qts v = 0
    rw [Nat.and_or_distrib_right, d1, d2]; rfl
def qchain (g : Qg) : Nat → List Qt → Qt → Prop
  | 0, P, t => P.Perm [t]
  | k + 1, P, t => ∃ P', qst g P P' ∧ qchain g k P' t
theorem qst_fo {g : Qg} {P P' : List Qt} (h : qfo P) (s : qst g P P') : qfo P' := by
  obtain ⟨a, b, r, p1, l1, m1, e1⟩ := s
  exact qfo_perm (qfo_step h p1 l1) e1.symm
theorem qchain_det {g : Qg} : ∀ k P Q t t', qfo P → P.Perm Q → qchain g k P t → qchain g k Q t' → t = t' := by
  intro k
  induction k with
  | zero =>
    intro P Q t t' _ e h1 h2
    have : [t].Perm [t'] := h1.symm.trans (e.trans h2)
    have := List.perm_singleton.mp this
    simpa using this
  | succ k ih =>
    rintro P Q t t' h e ⟨P', s1, c1⟩ ⟨Q', s2, c2⟩
    exact ih P' Q' t t' (qst_fo h s1) (qst_det h e s1 s2) c1 c2
def qini (n : Nat) : List Qt := (List.range n).map (fun r => Lean.Data.AC.Expr.var r)
theorem q_pow_and {i j : Nat} (h : i ≠ j) : 2 ^ i &&& 2 ^ j = 0 := by
  apply Nat.eq_of_testBit_eq
  intro k
  rw [Nat.testBit_and, Nat.testBit_two_pow, Nat.testBit_two_pow]
  simp
  omega
theorem qini_fo (n : Nat) (h : n ≤ 8) : qfo (qini n) := by
  refine ⟨?_, ?_⟩
  · intro u hu
    obtain ⟨r, hr, rfl⟩ := List.mem_map.mp hu
    have := List.mem_range.mp hr
    show r < 8
    omega
  · unfold qini
    rw [List.pairwise_map]
    exact (List.pairwise_lt_range (n := n)).imp (fun {a b} hab => q_pow_and (by omega))
def qun (P : List Qt) : Nat := P.foldr (fun u s => qts u ||| s) 0
theorem qun_perm {P Q : List Qt} (e : P.Perm Q) : qun P = qun Q := by
  unfold qun
  exact e.foldr_eq' (fun x _ y _ z => by rw [← Nat.or_assoc, ← Nat.or_assoc, Nat.or_comm (qts x)]) 0
theorem qun_step {a b : Qt} {r : List Qt} : qun (.op a b :: r) = qun (a :: b :: r) := by
  unfold qun
  show (qts a ||| qts b) ||| _ = qts a ||| (qts b ||| _)
  rw [Nat.or_assoc]
theorem qini_un (n : Nat) (h : n ≤ 8) : qun (qini n) = 2 ^ n - 1 := by
  have : ∀ n, n ≤ 8 → qun (qini n) = 2 ^ n - 1 := by decide +kernel
  exact this n h
/-- the class: trees in the order of their least relations -/
def qsrt (P : List Qt) : Prop := P.Pairwise (fun u v => qlow (qts u) < qlow (qts v))
theorem q_cut {α : Type} (P : List α) (f s : Nat) (h1 : f < s) (h2 : s < P.length) : ∃ l1 a l2 b l3, P = l1 ++ a :: (l2 ++ b :: l3) ∧ l1.length = f ∧ f + 1 + l2.length = s := by
  refine ⟨P.take f, P[f], (P.drop (f + 1)).take (s - (f + 1)), P[s], P.drop (s + 1), ?_, ?_, ?_⟩
  · have e1 : P = P.take f ++ P.drop f := (List.take_append_drop f P).symm
    have e2 : P.drop f = P[f] :: P.drop (f + 1) := List.drop_eq_getElem_cons (by omega)
    have e3 : P.drop (f + 1) = (P.drop (f + 1)).take (s - (f + 1)) ++ (P.drop (f + 1)).drop (s - (f + 1)) := (List.take_append_drop _ _).symm
    have e4 : (P.drop (f + 1)).drop (s - (f + 1)) = P.drop s := by rw [List.drop_drop]; congr 1; omega
    have e5 : P.drop s = P[s] :: P.drop (s + 1) := List.drop_eq_getElem_cons (by omega)
    rw [e4, e5] at e3
    rw [← e3, ← e2]
    exact e1
  · simp; omega
  · simp; omega
def qarr (a : Nat → Int32) (P : List Qt) : Prop := ∀ (i : Nat) (u : Qt), P[i]? = some u → a i = qi (qts u)
theorem A_mergePicked_q {l1 l2 l3 : List Qt} {a b : Qt} (pa sp : Nat → Int32) (h : qarr pa (l1 ++ a :: (l2 ++ b :: l3))) (hl : (l1 ++ a :: (l2 ++ b :: l3)).length ≤ 8) (hor : qts a ||| qts b < 256) :
    ∃ pa', A_mergePicked (qi (l1 ++ a :: (l2 ++ b :: l3)).length) (qi l1.length) (qi (l1.length + 1 + l2.length)) pa sp =
      some (qi ((l1 ++ a :: (l2 ++ b :: l3)).length - 1), pa', upd sp (qts a ||| qts b) (qi (qts a))) ∧ qarr pa' (l1 ++ .op a b :: (l2 ++ l3)) := by
  have hlen : (l1 ++ a :: (l2 ++ b :: l3)).length = l1.length + 1 + l2.length + 1 + l3.length := by simp; omega
  have ha : pa l1.length = qi (qts a) := h l1.length a (by simp)
  have hb : pa (l1.length + 1 + l2.length) = qi (qts b) := h _ b (by
    rw [List.getElem?_append_right (by omega), show l1.length + 1 + l2.length - l1.length = l2.length + 1 by omega]
    simp)
  generalize hf : l1.length = f at *
  generalize hs : f + 1 + l2.length = s at *
  generalize hm : (l1 ++ a :: (l2 ++ b :: l3)).length = m at *
  refine ⟨va_cpy (upd pa f (qi (qts a ||| qts b))) (upd pa f (qi (qts a ||| qts b))) (s + 1) s (m - 1 - s), ?_, ?_⟩
  · have hc : cpk (qi (s + 1)) (qi s) (qi (m - 1 - s)) 8 8 := by
      have n0 : ∀ k, k < 2147483648 → ¬ (qi k < 0) := by
        intro k hk h'
        have := (qi_lt k 0 hk (by omega)).mp h'
        omega
      unfold cpk
      rw [qi_nat _ (by omega), qi_nat _ (by omega), qi_nat _ (by omega)]
      exact ⟨n0 _ (by omega), n0 _ (by omega), n0 _ (by omega), by omega, by omega⟩
    have hc' : cpk (qi s + 1) (qi s) (qi m - 1 - qi s) 8 8 := by
      rw [show (1 : Int32) = qi 1 from rfl, qi_add, qi_sub _ _ (by omega), qi_sub _ _ (by omega)]
      exact hc
    unfold A_mergePicked
    simp only [dn]
    rw [dk_t hc']
    simp (disch := omega) only [qi_lit, qi_m1, qi_add, qi_mul, qi_and, qi_or, qi_xor, qi_not, qi_shl, qi_shr, qi_and31, qi_nat, qi_inb, qi_eq, qi_lt, qi_le, qi_sub, dk_t, ha, hb]
  · intro i u hu
    have hi := (List.getElem?_eq_some_iff.mp hu).1
    have hi' : i < m - 1 := by simp at hi; omega
    unfold va_cpy
    by_cases c1 : i < f
    · rw [if_neg (by omega), upd_ne _ _ (by omega)]
      apply h i u
      rw [List.getElem?_append_left (by omega)] at hu ⊢
      exact hu
    · by_cases c2 : i = f
      · subst c2
        rw [if_neg (by omega), upd_self]
        rw [List.getElem?_append_right (by omega), hf, Nat.sub_self] at hu
        simp at hu
        subst hu
        rfl
      · rw [List.getElem?_append_right (by omega), hf, show i - f = (i - f - 1) + 1 by omega, List.getElem?_cons_succ] at hu
        by_cases c3 : i < s
        · rw [if_neg (by omega), upd_ne _ _ c2]
          apply h i u
          rw [List.getElem?_append_right (by omega), hf, show i - f = (i - f - 1) + 1 by omega, List.getElem?_cons_succ]
          rw [List.getElem?_append_left (by omega)] at hu ⊢
          exact hu
        · rw [if_pos (by omega), upd_ne _ _ (by omega), show s + 1 + (i - s) = i + 1 by omega]
          apply h (i + 1) u
          rw [List.getElem?_append_right (by omega), hf, show i + 1 - f = (i - f) + 1 by omega, List.getElem?_cons_succ]
          rw [List.getElem?_append_right (by omega)] at hu ⊢
          rw [show i - f - l2.length = (i - f - 1 - l2.length) + 1 by omega, List.getElem?_cons_succ]
          exact hu
theorem A_begin_q (n : Nat) (hn : n ≤ 8) (mn : Int32) (pa : Nat → Int32) (N : Nat) (hN : 300 < N) : ∃ pa', A_begin N (qi n) mn pa = some (qi n, pa') ∧ ∀ i, i < n → pa' i = qi (2 ^ i) := by
  have key := qlp_rel (body := fun x : (Nat → Int32) × Int32 => A_begin_b10 N (qi n) (qi n) x.1 x.2) (Inv := fun i x => x.2 = qi i ∧ ∀ j, j < i → x.1 j = qi (2 ^ j)) n (Q := fun y => ∀ j, j < n → y j = qi (2 ^ j))
    (by
      rintro i ⟨f, x⟩ hi ⟨rfl, h⟩
      refine ⟨(upd f i (qi (2 ^ i)), qi (i + 1)), ?_, rfl, ?_⟩
      · simp (disch := omega) only [A_begin_b10, qi_lit, qi_m1, qi_add, qi_mul, qi_and, qi_or, qi_xor, qi_not, qi_shl, qi_shr, qi_and31, qi_nat, qi_inb, qi_eq, qi_lt, qi_le, qi_sub, dn, db_some, dk_t, if_neg (show ¬ n ≤ i by omega)]
      · intro j hj
        show upd f i (qi (2 ^ i)) j = _
        by_cases e : j = i
        · subst e; exact upd_self _ _ _
        · rw [upd_ne _ _ e]; exact h j (by omega))
    (by
      rintro ⟨f, x⟩ ⟨rfl, h⟩
      exact ⟨f, by simp (disch := omega) only [A_begin_b10, qi_lit, qi_m1, qi_add, qi_mul, qi_and, qi_or, qi_xor, qi_not, qi_shl, qi_shr, qi_and31, qi_nat, qi_inb, qi_eq, qi_lt, qi_le, qi_sub]; simp, h⟩)
    (pa, qi 0) ⟨rfl, by intro j h; omega⟩ N (by omega)
  obtain ⟨y, e, q⟩ := key
  refine ⟨y, ?_, q⟩
  unfold A_begin A_begin_10
  rw [show (0 : Int32) = qi 0 from rfl, e]
  rfl
