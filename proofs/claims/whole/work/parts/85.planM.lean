abbrev Qp : Type := List Nat × Nat × Int32 × List Qt × Nat
def qhd (ds : List Nat) : Nat := ds.headD 0
def qdp (ds : List Nat) : Nat := ds.length - 1
def qfl (ds : List Nat) : Bool := decide (qhd ds = if qdp ds = 0 then 1 else 2)
def qcs (ds : List Nat) (k : Nat) : Bool :=
  if k = 0 then qfl ds && decide (qdp ds = 0) else if k = 1 ∨ k = 4 then !qfl ds && decide (qdp ds < 500) else if k = 5 then qfl ds && decide (0 < qdp ds) else false
def qpb (n tk : Nat) (ws : List Qt) (k v : Nat) : Nat × List Qt × Nat :=
  if k = 1 then (if v < n then (if tk &&& 2 ^ v = 0 then (0, .var v :: ws, tk ||| 2 ^ v) else (3, ws, tk)) else (2, ws, tk))
  else if k = 5 then (match ws with
    | b :: a :: r => (0, qjo a b :: r, tk)
    | _ => (0, ws, tk))
  else (0, ws, tk)
def qpps (ds : List Nat) (k : Nat) : List Nat :=
  if k = 4 then 0 :: ds else if k = 5 then (match ds with
    | _ :: c :: r => (c + 1) :: r
    | _ => ds)
  else if k = 1 then (match ds with
    | c :: r => (c + 1) :: r
    | [] => [])
  else ds
def qpab (n : Nat) (τ : Qp) (k s v : Nat) : Qp :=
  if τ.2.1 ≠ 0 then τ else
    let x := qpb n τ.2.2.2.2 τ.2.2.2.1 k v
    (τ.1, x.1, if x.1 = 0 then Int32.ofInt (-1) else qi s, x.2.1, x.2.2)
def qpgo (τ : Qp) (k : Nat) : Qp := (qpps τ.1 k, τ.2)
noncomputable def qPq (b : Nat → Nat) (len n : Nat) : Nat → Qp → Nat → Nat × Int32 × List Qt
  | 0, τ, _ => (τ.2.1, τ.2.2.1, τ.2.2.2.1)
  | f + 1, τ, p =>
    if qcs τ.1 (qT b len p).1 = false then (1, qi (qT b len p).2.1, τ.2.2.2.1)
    else if (qT b len p).1 = 0 then ((qpab n τ 0 (qT b len p).2.1 (qT b len p).2.2.1).2.1, (qpab n τ 0 (qT b len p).2.1 (qT b len p).2.2.1).2.2.1, (qpab n τ 0 (qT b len p).2.1 (qT b len p).2.2.1).2.2.2.1)
    else qPq b len n f (qpgo (qpab n τ (qT b len p).1 (qT b len p).2.1 (qT b len p).2.2.1) (qT b len p).1) (qT b len p).2.2.2
noncomputable def qPR (b : Nat → Nat) (len n : Nat) (τ : Qp) (p : Nat) : Nat × Int32 × List Qt := qPq b len n (len + 1 - p) τ p
theorem qPq_fuel (b : Nat → Nat) (len n : Nat) : ∀ f f' τ p, p ≤ len → len < f + p → len < f' + p → qPq b len n f τ p = qPq b len n f' τ p := by
  intro f
  induction f with
  | zero => intro f' τ p h1 h2; omega
  | succ f ih =>
    intro f' τ p h1 h2 h3
    cases f' with
    | zero => omega
    | succ f' =>
      have hle := qtk_le (qT_q b len p h1)
      unfold qPq
      by_cases c1 : qcs τ.1 (qT b len p).1 = false
      · rw [if_pos c1, if_pos c1]
      · rw [if_neg c1, if_neg c1]
        by_cases c2 : (qT b len p).1 = 0
        · rw [if_pos c2, if_pos c2]
        · rw [if_neg c2, if_neg c2]
          have := hle.2.2.2.1 c2
          exact ih f' _ _ (by omega) (by omega) (by omega)
theorem qPR_eq (b : Nat → Nat) (len n : Nat) (τ : Qp) (p : Nat) (h : p ≤ len) : qPR b len n τ p =
    if qcs τ.1 (qT b len p).1 = false then (1, qi (qT b len p).2.1, τ.2.2.2.1)
    else if (qT b len p).1 = 0 then ((qpab n τ 0 (qT b len p).2.1 (qT b len p).2.2.1).2.1, (qpab n τ 0 (qT b len p).2.1 (qT b len p).2.2.1).2.2.1, (qpab n τ 0 (qT b len p).2.1 (qT b len p).2.2.1).2.2.2.1)
    else qPR b len n (qpgo (qpab n τ (qT b len p).1 (qT b len p).2.1 (qT b len p).2.2.1) (qT b len p).1) (qT b len p).2.2.2 := by
  have hle := qtk_le (qT_q b len p h)
  unfold qPR
  rw [show len + 1 - p = (len - p) + 1 by omega]
  show (if _ then _ else _) = _
  by_cases c1 : qcs τ.1 (qT b len p).1 = false
  · rw [if_pos c1, if_pos c1]
  · rw [if_neg c1, if_neg c1]
    by_cases c2 : (qT b len p).1 = 0
    · rw [if_pos c2, if_pos c2]
    · rw [if_neg c2, if_neg c2]
      have := hle.2.2.2.1 c2
      exact qPq_fuel b len n _ _ _ _ (by omega) (by omega) (by omega)
/-- what holds of the plans that are read while there is no fault -/
def qPok (n : Nat) (ds : List Nat) (ws : List Qt) (tk : Nat) : Prop := n ≤ 8 ∧ qfo ws ∧ qun ws = tk ∧ tk < 2 ^ n ∧ ws.length = ds.sum
/-- the counts of a way -/
def qDok (ds : List Nat) (p : Nat) : Prop := ds ≠ [] ∧ qdp ds ≤ p ∧ (∀ c, c ∈ ds → c ≤ 2) ∧ (∀ i c, ds[i]? = some c → 0 < i → c + 1 ≤ (if i + 1 = ds.length then 1 else 2)) ∧ (qdp ds = 0 → qhd ds ≤ 1) ∧ ds.sum ≤ p
theorem qpop_ge {u : Qt} (h : qtok u) : 1 ≤ qpop (qts u) := by have := qtn_len u h; omega
theorem qfo_pop : ∀ ws, qfo ws → ws.length ≤ qpop (qun ws) := by
  intro ws
  induction ws with
  | nil => intro _; exact Nat.zero_le _
  | cons u ws ih =>
    intro h
    have hp := List.pairwise_cons.mp h.2
    have h1 := ih ⟨fun v hv => h.1 v (List.mem_cons_of_mem _ hv), hp.2⟩
    have h2 := qpop_ge (h.1 u (List.mem_cons_self ..))
    have hd : qts u &&& qun ws = 0 := by
      have : ∀ l : List Qt, (∀ v, v ∈ l → qts u &&& qts v = 0) → qts u &&& qun l = 0 := by
        intro l
        induction l with
        | nil => intro _; exact Nat.and_zero _
        | cons w l ihl =>
          intro hl
          show qts u &&& (qts w ||| qun l) = 0
          rw [Nat.and_or_distrib_left, hl w (List.mem_cons_self ..), ihl (fun v hv => hl v (List.mem_cons_of_mem _ hv))]; rfl
      exact this ws hp.1
    show ws.length + 1 ≤ qpop (qts u ||| qun ws)
    rw [qpop_or hd]
    omega
theorem qun_dis {ws : List Qt} {x : Nat} (h : qun ws &&& x = 0) : ∀ u, u ∈ ws → qts u &&& x = 0 := by
  induction ws with
  | nil => intro u hu; cases hu
  | cons w ws ih =>
    have h : (qts w ||| qun ws) &&& x = 0 := h
    rw [Nat.and_or_distrib_right] at h
    have := Nat.or_eq_zero_iff.mp h
    intro u hu
    rcases List.mem_cons.mp hu with rfl | hu
    · exact this.1
    · exact ih this.2 u hu
theorem qfo_var {ws : List Qt} {v : Nat} (h : qfo ws) (hv : v < 8) (hd : qun ws &&& 2 ^ v = 0) : qfo (.var v :: ws) := by
  refine ⟨?_, List.pairwise_cons.mpr ⟨?_, h.2⟩⟩
  · intro u hu
    rcases List.mem_cons.mp hu with rfl | hu
    · exact hv
    · exact h.1 u hu
  · intro u hu
    show 2 ^ v &&& qts u = 0
    rw [Nat.and_comm]
    exact qun_dis hd u hu
theorem qfo_jo {a b : Qt} {r : List Qt} (h : qfo (b :: a :: r)) : qfo (qjo a b :: r) ∧ qun (qjo a b :: r) = qun (b :: a :: r) := by
  have p1 := List.pairwise_cons.mp h.2
  have p2 := List.pairwise_cons.mp p1.2
  have ha := h.1 a (by simp)
  have hb := h.1 b (by simp)
  have dab : qts a &&& qts b = 0 := by rw [Nat.and_comm]; exact p1.1 a (by simp)
  obtain ⟨j1, j2, j3⟩ := qjo_q ha hb dab
  refine ⟨⟨?_, List.pairwise_cons.mpr ⟨?_, p2.2⟩⟩, ?_⟩
  · intro u hu
    rcases List.mem_cons.mp hu with rfl | hu
    · exact j1
    · exact h.1 u (by simp [hu])
  · intro v hv
    rw [j2, Nat.and_or_distrib_right, p2.1 v hv, p1.1 v (by simp [hv])]; rfl
  · show qts (qjo a b) ||| qun r = qts b ||| (qts a ||| qun r)
    rw [j2, ← Nat.or_assoc, Nat.or_comm (qts b)]
/-- a step of the plans -/
theorem qPok_step {n : Nat} {ds : List Nat} {ws : List Qt} {tk k v : Nat} (h : qPok n ds ws tk) (hc : qcs ds k = true) (hne : ds ≠ []) (hf : (qpb n tk ws k v).1 = 0) : qPok n (qpps ds k) (qpb n tk ws k v).2.1 (qpb n tk ws k v).2.2 ∧ (k = 5 → ∃ b a r, ws = b :: a :: r) := by
  obtain ⟨h1, h2, h3, h4, h5⟩ := h
  by_cases k1 : k = 1
  · have eb : qpb n tk ws k v = (if v < n then (if tk &&& 2 ^ v = 0 then (0, .var v :: ws, tk ||| 2 ^ v) else (3, ws, tk)) else (2, ws, tk)) := by unfold qpb; rw [if_pos k1]
    rw [eb] at hf ⊢
    subst k1
    by_cases c1 : v < n
    · rw [if_pos c1] at hf ⊢
      by_cases c2 : tk &&& 2 ^ v = 0
      · rw [if_pos c2]
        refine ⟨⟨h1, qfo_var h2 (by omega) (by rw [h3]; exact c2), ?_, q_or_lt h4 (Nat.pow_lt_pow_right (by omega) c1), ?_⟩, fun h => by omega⟩
        · show 2 ^ v ||| qun ws = tk ||| 2 ^ v
          rw [h3, Nat.or_comm]
        · cases ds with
          | nil => exact absurd rfl hne
          | cons c r =>
            show ws.length + 1 = ((c + 1) :: r).sum
            simp at h5 ⊢; omega
      · rw [if_neg c2] at hf; simp at hf
    · rw [if_neg c1] at hf; simp at hf
  · by_cases k5 : k = 5
    · subst k5
      have hfull : qfl ds = true ∧ 0 < qdp ds := by
        unfold qcs at hc
        simpa using hc
      have hh : qhd ds = 2 := by
        have := of_decide_eq_true hfull.1
        rw [if_neg (by omega)] at this
        exact this
      cases ds with
      | nil => exact absurd rfl hne
      | cons c r =>
        have hc2 : c = 2 := hh
        cases r with
        | nil => have := hfull.2; simp [qdp] at this
        | cons c' r' =>
          cases ws with
          | nil => simp at h5; omega
          | cons b ws =>
            cases ws with
            | nil => simp at h5; omega
            | cons a r2 =>
              have := qfo_jo h2
              refine ⟨⟨h1, this.1, this.2.trans h3, h4, ?_⟩, fun _ => ⟨b, a, r2, rfl⟩⟩
              show r2.length + 1 = ((c' + 1) :: r').sum
              simp at h5 ⊢
              omega
    · have eb : qpb n tk ws k v = (0, ws, tk) := by unfold qpb; rw [if_neg k1, if_neg k5]
      rw [eb]
      by_cases k4 : k = 4
      · have ep : qpps ds k = 0 :: ds := by unfold qpps; rw [if_pos k4]
        rw [ep]
        exact ⟨⟨h1, h2, h3, h4, by simp; exact h5⟩, fun h => absurd h k5⟩
      · have ep : qpps ds k = ds := by unfold qpps; rw [if_neg k4, if_neg k5, if_neg k1]
        rw [ep]
        exact ⟨⟨h1, h2, h3, h4, h5⟩, fun h => absurd h k5⟩
theorem qDok_step {ds : List Nat} {p k e : Nat} (h : qDok ds p) (hc : qcs ds k = true) (hpe : p < e) : qDok (qpps ds k) e := by
  obtain ⟨h1, h2, h3, h4, h5, h6⟩ := h
  cases ds with
  | nil => exact absurd rfl h1
  | cons c r =>
    unfold qpps
    have hnf : ∀ k, k = 1 ∨ k = 4 → qcs (c :: r) k = true → qfl (c :: r) = false := by
      intro k hk hh
      unfold qcs at hh
      rw [if_neg (by omega), if_pos hk] at hh
      simp at hh
      exact hh.1
    have hcc : qfl (c :: r) = false → (r = [] → c = 0) ∧ (r ≠ [] → c ≤ 1) := by
      intro hh
      have := of_decide_eq_false hh
      constructor
      · intro e
        subst e
        have h5' : c ≤ 1 := h5 rfl
        have : ¬ (c = 1) := this
        omega
      · intro e
        have hl : qdp (c :: r) ≠ 0 := by
          cases r with
          | nil => exact absurd rfl e
          | cons x y => simp [qdp]
        rw [if_neg hl] at this
        have : ¬ (c = 2) := this
        have := h3 c (by simp)
        omega
    by_cases k4 : k = 4
    · rw [if_pos k4]
      subst k4
      have hcn := hcc (hnf 4 (.inr rfl) hc)
      refine ⟨by simp, ?_, ?_, ?_, ?_, ?_⟩
      · simp [qdp] at h2 ⊢; omega
      · intro x hx
        rcases List.mem_cons.mp hx with rfl | hx
        · omega
        · exact h3 x hx
      · intro i x hx hi
        cases i with
        | zero => omega
        | succ i =>
          rw [List.getElem?_cons_succ] at hx
          cases i with
          | zero =>
            simp at hx
            subst hx
            by_cases er : r = []
            · subst er
              have := hcn.1 rfl
              simp; omega
            · have := hcn.2 er
              have : 0 < r.length := List.length_pos_iff.mpr er
              rw [if_neg (by simp; omega)]
              omega
          | succ i =>
            have := h4 (i + 1) x hx (by omega)
            simp at this ⊢
            exact this
      · intro hz; simp [qdp] at hz
      · simp at h6 ⊢; omega
    · rw [if_neg k4]
      by_cases k5 : k = 5
      · rw [if_pos k5]
        subst k5
        have hd : 0 < qdp (c :: r) := by
          unfold qcs at hc
          simp at hc
          exact hc.2
        have hf2 : qfl (c :: r) = true := by
          unfold qcs at hc
          simp at hc
          exact hc.1
        cases r with
        | nil => simp [qdp] at hd
        | cons c' r' =>
          have hc' := h4 1 c' rfl (by omega)
          refine ⟨by simp, ?_, ?_, ?_, ?_, ?_⟩
          · simp [qdp] at h2 ⊢; omega
          · intro x hx
            rcases List.mem_cons.mp hx with rfl | hx
            · split at hc' <;> omega
            · exact h3 x (by simp [hx])
          · intro i x hx hi
            cases i with
            | zero => omega
            | succ i =>
              rw [List.getElem?_cons_succ] at hx
              have := h4 (i + 2) x (by rw [List.getElem?_cons_succ, List.getElem?_cons_succ]; exact hx) (by omega)
              simp at this ⊢
              exact this
          · intro hz
            have : r' = [] := by
              cases r' with
              | nil => rfl
              | cons x y => simp [qdp] at hz
            subst this
            simp at hc'
            show c' + 1 ≤ 1
            omega
          · have := of_decide_eq_true hf2
            rw [if_neg (by omega)] at this
            have : c = 2 := this
            simp at h6 ⊢; omega
      · rw [if_neg k5]
        by_cases k1 : k = 1
        · rw [if_pos k1]
          subst k1
          have hcn := hcc (hnf 1 (.inl rfl) hc)
          refine ⟨by simp, ?_, ?_, ?_, ?_, ?_⟩
          · simp [qdp] at h2 ⊢; omega
          · intro x hx
            rcases List.mem_cons.mp hx with rfl | hx
            · by_cases er : r = []
              · have := hcn.1 er; omega
              · have := hcn.2 er; omega
            · exact h3 x (by simp [hx])
          · intro i x hx hi
            cases i with
            | zero => omega
            | succ i => exact h4 (i + 1) x hx hi
          · intro hz
            have : r = [] := by
              cases r with
              | nil => rfl
              | cons x y => simp [qdp] at hz
            have := hcn.1 this
            show c + 1 ≤ 1
            omega
          · simp at h6 ⊢; omega
        · rw [if_neg k1]
          exact ⟨h1, by omega, h3, h4, h5, by omega⟩
