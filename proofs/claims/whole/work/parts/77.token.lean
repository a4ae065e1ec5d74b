/-- from p on to e all are such, and e is the end or no such one -/
def qre (c : Nat → Bool) (b : Nat → Nat) (len p e : Nat) : Prop := p ≤ e ∧ e ≤ len ∧ (∀ i, p ≤ i → i < e → c (b i) = true) ∧ (e = len ∨ c (b e) = false)
theorem qre_ex (c : Nat → Bool) (b : Nat → Nat) (len p : Nat) (h : p ≤ len) : ∃ e, qre c b len p e := by
  have key : ∀ d p, p + d = len → ∃ e, qre c b len p e := by
    intro d
    induction d with
    | zero => intro p hp; exact ⟨p, Nat.le_refl _, by omega, by intro i h1 h2; omega, .inl (by omega)⟩
    | succ d ih =>
      intro p hp
      rcases q_dich (c (b p)) with k | k
      · exact ⟨p, Nat.le_refl _, by omega, by intro i h1 h2; omega, .inr k⟩
      · obtain ⟨e, h1, h2, h3, h4⟩ := ih (p + 1) (by omega)
        refine ⟨e, by omega, h2, ?_, h4⟩
        intro i hi1 hi2
        by_cases e' : i = p
        · subst e'; exact k
        · exact h3 i (by omega) hi2
  exact key (len - p) p (by omega)
def qbl (x : Nat) : Bool := x == 10 || x == 32
def qdg (x : Nat) : Bool := decide (48 ≤ x) && decide (x ≤ 57)
def qlw (x : Nat) : Bool := decide (97 ≤ x) && decide (x ≤ 122)
def qvl (b : Nat → Nat) (s n : Nat) : Nat := (List.range n).foldl (fun w i => w * 10 + (b (s + i) - 48)) 0
def qpk (b : Nat → Nat) (s n : Nat) : Nat := (List.range n).foldl (fun w i => w * 256 + b (s + i)) 0
def qsg (x : Nat) : Nat := if x = 40 then 4 else if x = 41 then 5 else if x = 45 then 3 else if x = 59 then 2 else 10
def qWc : List Nat := [0x72656c6174696f6e, 0x65646765, 0x6c696d6974, 0x6279]
def qwd (b : Nat → Nat) (s n : Nat) : Nat := if 8 < n then 10 else if qpk b s n = 0x72656c6174696f6e then 6 else if qpk b s n = 0x65646765 then 7 else if qpk b s n = 0x6c696d6974 then 8 else if qpk b s n = 0x6279 then 9 else 10
/-- the token that is read from p on: its kind, its start, its value, its end -/
def qtk (b : Nat → Nat) (len p k s v e : Nat) : Prop := qre qbl b len p s ∧
  ((s = len ∧ k = 0 ∧ e = s) ∨
   (s < len ∧ qdg (b s) = true ∧ qre qdg b len s e ∧ k = (if 7 < e - s then 10 else 1) ∧ v = qvl b s (if e - s ≤ 7 then e - s else 7)) ∨
   (s < len ∧ qlw (b s) = true ∧ qre qlw b len s e ∧ k = qwd b s (e - s)) ∨
   (s < len ∧ qdg (b s) = false ∧ qlw (b s) = false ∧ e = s + 1 ∧ k = qsg (b s)))
theorem qtk_ex (b : Nat → Nat) (len p : Nat) (h : p ≤ len) : ∃ k s v e, qtk b len p k s v e := by
  obtain ⟨s, hs⟩ := qre_ex qbl b len p h
  by_cases e0 : s = len
  · exact ⟨0, s, 0, s, hs, .inl ⟨e0, rfl, rfl⟩⟩
  · have hlt : s < len := by have := hs.2.1; omega
    rcases q_dich (qdg (b s)) with k1 | k1
    · rcases q_dich (qlw (b s)) with k2 | k2
      · exact ⟨_, s, 0, s + 1, hs, .inr (.inr (.inr ⟨hlt, k1, k2, rfl, rfl⟩))⟩
      · obtain ⟨e, he⟩ := qre_ex qlw b len s (by omega)
        exact ⟨_, s, 0, e, hs, .inr (.inr (.inl ⟨hlt, k2, he, rfl⟩))⟩
    · obtain ⟨e, he⟩ := qre_ex qdg b len s (by omega)
      exact ⟨_, s, _, e, hs, .inr (.inl ⟨hlt, k1, he, rfl, rfl⟩)⟩
theorem qre_le {c : Nat → Bool} {b : Nat → Nat} {len p e : Nat} (h : qre c b len p e) : p ≤ e ∧ e ≤ len := ⟨h.1, h.2.1⟩
theorem qre_lt {c : Nat → Bool} {b : Nat → Nat} {len p e : Nat} (h : qre c b len p e) (hp : p < len) (hc : c (b p) = true) : p < e := by
  by_cases x : p = e
  · subst x
    rcases h.2.2.2 with e1 | e1
    · omega
    · rw [hc] at e1; cases e1
  · have := h.1; omega
theorem qtk_le {b : Nat → Nat} {len p k s v e : Nat} (h : qtk b len p k s v e) : p ≤ s ∧ s ≤ e ∧ e ≤ len ∧ (k ≠ 0 → s < e) ∧ (k = 0 → s = len ∧ e = len) := by
  obtain ⟨h1, h2⟩ := h
  have := qre_le h1
  have hw : ∀ b s n, qwd b s n ≠ 0 := by intro b s n; unfold qwd; split; omega; split; omega; split; omega; split; omega; split <;> omega
  have hg : ∀ x, qsg x ≠ 0 := by intro x; unfold qsg; split; omega; split; omega; split; omega; split <;> omega
  rcases h2 with ⟨a, b', c⟩ | ⟨a, b', c, d, e'⟩ | ⟨a, b', c, d⟩ | ⟨a, b', c, d, e'⟩
  · exact ⟨by omega, by omega, by omega, by intro h; omega, by intro _; omega⟩
  · have h3 := qre_le c
    have h4 := qre_lt c a b'
    refine ⟨by omega, by omega, by omega, by intro _; omega, ?_⟩
    intro hk; rw [d] at hk; split at hk <;> omega
  · have h3 := qre_le c
    have h4 := qre_lt c a b'
    exact ⟨by omega, by omega, by omega, by intro _; omega, by intro hk; rw [d] at hk; exact absurd hk (hw _ _ _)⟩
  · exact ⟨by omega, by omega, by omega, by intro _; omega, by intro hk; rw [e'] at hk; exact absurd hk (hg _)⟩
theorem qvl_s (b : Nat → Nat) (s n : Nat) : qvl b s (n + 1) = qvl b s n * 10 + (b (s + n) - 48) := q_frange _ _ _
theorem qpk_s (b : Nat → Nat) (s n : Nat) : qpk b s (n + 1) = qpk b s n * 256 + b (s + n) := q_frange _ _ _
theorem qvl_lt (b : Nat → Nat) (s n : Nat) (hb : ∀ i, i < n → b (s + i) ≤ 57) : qvl b s n < 10 ^ n := by
  induction n with
  | zero => simp [qvl]
  | succ n ih =>
    rw [qvl_s, Nat.pow_succ]
    have := hb n (by omega)
    have := ih (fun i hi => hb i (by omega))
    omega
theorem qvl_7 (b : Nat → Nat) (s n : Nat) (hn : n ≤ 7) (hb : ∀ i, i < n → b (s + i) ≤ 57) : qvl b s n < 10000000 := by
  have := qvl_lt b s n hb
  have h2 : 10 ^ n ≤ 10 ^ 7 := Nat.pow_le_pow_right (by omega) hn
  omega
theorem qpk_lt (b : Nat → Nat) (s n : Nat) (h0 : b s < 128) (hb : ∀ i, b i < 256) : qpk b s (n + 1) < 128 * 256 ^ n := by
  induction n with
  | zero => simp [qpk]; exact h0
  | succ n ih =>
    rw [qpk_s, Nat.pow_succ]
    have := hb (s + (n + 1))
    omega
theorem qpk_8 (b : Nat → Nat) (s n : Nat) (hn : n ≤ 8) (h0 : b s < 128) (hb : ∀ i, b i < 256) : qpk b s n < 9223372036854775808 := by
  cases n with
  | zero => simp [qpk]
  | succ n =>
    have := qpk_lt b s n h0 hb
    have h2 : 256 ^ n ≤ 256 ^ 7 := Nat.pow_le_pow_right (by omega) (by omega)
    omega
def qpr' : List Nat → Nat
  | [] => 0
  | c :: l => qpr' l * 256 + c
theorem qpr_inj : ∀ l l', (∀ c, c ∈ l → c ≠ 0 ∧ c < 256) → (∀ c, c ∈ l' → c ≠ 0 ∧ c < 256) → qpr' l = qpr' l' → l = l' := by
  intro l
  induction l with
  | nil =>
    intro l' _ h e
    cases l' with
    | nil => rfl
    | cons c l' =>
      have := (h c (by simp)).1
      have e : 0 = qpr' l' * 256 + c := e
      omega
  | cons c l ih =>
    intro l' h h' e
    cases l' with
    | nil =>
      have := (h c (by simp)).1
      have e : qpr' l * 256 + c = 0 := e
      omega
    | cons c' l' =>
      have h1 := (h c (by simp)).2
      have h2 := (h' c' (by simp)).2
      have e : qpr' l * 256 + c = qpr' l' * 256 + c' := e
      have e1 : c = c' := by omega
      have e2 : qpr' l = qpr' l' := by omega
      rw [e1, ih l' (fun x hx => h x (by simp [hx])) (fun x hx => h' x (by simp [hx])) e2]
theorem qpk_r (b : Nat → Nat) (s n : Nat) : qpk b s n = qpr' ((List.range n).map (fun i => b (s + i))).reverse := by
  induction n with
  | zero => rfl
  | succ n ih =>
    rw [qpk_s, List.range_succ, List.map_append, List.reverse_append, ih]
    rfl
def qWd : List (List Nat) := [[114, 101, 108, 97, 116, 105, 111, 110], [101, 100, 103, 101], [108, 105, 109, 105, 116], [98, 121]]
theorem qpk_word (b : Nat → Nat) (s n : Nat) (w : List Nat) (W : Nat) (hW : qpr' w.reverse = W) (hw : ∀ c, c ∈ w → c ≠ 0 ∧ c < 256) (hb : ∀ i, i < n → b (s + i) ≠ 0 ∧ b (s + i) < 256) :
    (qpk b s n = W) ↔ (n = w.length ∧ ∀ i, i < w.length → b (s + i) = w.getD i 0) := by
  rw [qpk_r, ← hW]
  constructor
  · intro e
    have := qpr_inj _ _ (by
      intro c hc
      obtain ⟨i, hi, rfl⟩ := List.mem_map.mp (List.mem_reverse.mp hc)
      exact hb i (List.mem_range.mp hi)) (fun c hc => hw c (List.mem_reverse.mp hc)) e
    have e2 : (List.range n).map (fun i => b (s + i)) = w := by
      have := congrArg List.reverse this
      simpa using this
    have hl : n = w.length := by rw [← e2]; simp
    refine ⟨hl, ?_⟩
    intro i hi
    rw [← e2]
    simp [hl, hi]
  · rintro ⟨e1, e2⟩
    congr 2
    apply List.ext_getElem
    · simp [e1]
    · intro i h1 h2
      simp
      rw [e2 i h2]
      simp [h2]
def qby' (b : Nat → Nat) (len : Nat) (by' : Nat → Int32) : Prop := len ≤ 500 ∧ (∀ i, b i < 256) ∧ ∀ i, i < len → by' i = qi (b i)
theorem T_isDigit_q (x : Nat) (h : x < 256) : T_isDigit (qi x) = qi (qdg x).toNat := by
  have : ∀ x, x < 256 → T_isDigit (qi x) = qi (qdg x).toNat := by decide +kernel
  exact this x h
theorem T_isLetter_q (x : Nat) (h : x < 256) : T_isLetter (qi x) = qi (qlw x).toNat := by
  have : ∀ x, x < 256 → T_isLetter (qi x) = qi (qlw x).toNat := by decide +kernel
  exact this x h
theorem T_signKind_q (x : Nat) (h : x < 256) : T_signKind (qi x) = qi (qsg x) := by
  have : ∀ x, x < 256 → T_signKind (qi x) = qi (qsg x) := by decide +kernel
  exact this x h
theorem T_isWord_q (b : Nat → Nat) (len : Nat) (by' : Nat → Int32) (hb : qby' b len by') (j : Nat) (hj : j < 4) (s e : Nat) (hse : s ≤ e) (he : e ≤ len) (N : Nat) (hN : 600 < N) :
    T_isWord N j (qi s) (qi e) by' = some (qi (decide (e - s = (qWd.getD j []).length ∧ ∀ i, i < (qWd.getD j []).length → b (s + i) = (qWd.getD j []).getD i 0)).toNat) := by
  obtain ⟨hb1, hb2, hb3⟩ := hb
  have hlen : sLen.getD j 0 = (qWd.getD j []).length ∧ (qWd.getD j []).length ≤ 8 := by
    have : ∀ j, j < 4 → sLen.getD j 0 = (qWd.getD j []).length ∧ (qWd.getD j []).length ≤ 8 := by decide
    exact this j hj
  have hbyt : ∀ i, i < (qWd.getD j []).length → (sByt.getD j []).getD i 0 = qi ((qWd.getD j []).getD i 0) ∧ (qWd.getD j []).getD i 0 < 256 := by
    have : ∀ j, j < 4 → ∀ i, i < (qWd.getD j []).length → (sByt.getD j []).getD i 0 = qi ((qWd.getD j []).getD i 0) ∧ (qWd.getD j []).getD i 0 < 256 := by decide
    exact this j hj
  generalize hw : qWd.getD j [] = w at *
  unfold T_isWord
  rw [hlen.1, show Int32.ofNat w.length = qi w.length from rfl, qi_sub _ _ hse]
  by_cases hl : e - s = w.length
  · rw [if_pos (by rw [hl])]
    have key := qlp_inv (body := fun x => T_isWord_b20 N j (qi s) (qi e) by' x) (Inv := fun x => ∃ i, i ≤ w.length ∧ x = qi i ∧ ∀ i', i' < i → b (s + i') = w.getD i' 0) (mu := fun x => w.length - x.toNatClampNeg)
      (Q := fun y => (y = .inl () ∧ ¬ ∀ i, i < w.length → b (s + i) = w.getD i 0) ∨ (y = .inr () ∧ ∀ i, i < w.length → b (s + i) = w.getD i 0)) ?_ (qi 0) ⟨0, by omega, rfl, by intro i h; omega⟩ N (by rw [qi_nat _ (by omega)]; omega)
    · obtain ⟨y, ey, q⟩ := key
      unfold T_isWord_20
      rw [show (0 : Int32) = qi 0 from rfl, ey, db_some]
      rcases q with ⟨rfl, q⟩ | ⟨rfl, q⟩
      · exact qdec0 (fun h => q h.2)
      · exact qdec1 ⟨hl, q⟩
    · rintro x ⟨i, hi, rfl, hlt⟩
      by_cases hd : w.length ≤ i
      · right
        refine ⟨.inr (), ?_, .inr ⟨rfl, fun i' h => hlt i' (by omega)⟩⟩
        unfold T_isWord_b20
        rw [hlen.1, show Int32.ofNat w.length = qi w.length from rfl, if_pos ((qi_le _ _ (by omega) (by omega)).mpr hd)]
      · have hbs := hb3 (s + i) (by omega)
        have hby := hbyt i (by omega)
        have hbl := hb2 (s + i)
        have pre : T_isWord_b20 N j (qi s) (qi e) by' (qi i) = if b (s + i) = w.getD i 0 then some (.inl (qi (i + 1))) else some (.inr (.inl ())) := by
          unfold T_isWord_b20
          rw [hlen.1, show Int32.ofNat w.length = qi w.length from rfl, if_neg (fun h => hd ((qi_le _ _ (by omega) (by omega)).mp h))]
          rw [qi_add, dk_t ((qi_inb _ _ (by omega)).mpr (by omega)), dk_t ((qi_inb _ _ (by omega)).mpr (by omega)), qi_nat _ (by omega), qi_nat _ (by omega), hbs, hby.1]
          by_cases c : b (s + i) = w.getD i 0
          · rw [if_pos c, if_pos (by rw [c])]
            rw [show (1 : Int32) = qi 1 from rfl, qi_add]
            rfl
          · rw [if_neg c, if_neg (fun h => c ((qi_eq _ _ (by omega) (by omega)).mp h))]
        simp only [pre]
        by_cases c : b (s + i) = w.getD i 0
        · left
          rw [if_pos c]
          refine ⟨qi (i + 1), rfl, ⟨i + 1, by omega, rfl, ?_⟩, by rw [qi_nat _ (by omega), qi_nat _ (by omega)]; omega⟩
          intro i' hi'
          by_cases e' : i' = i
          · subst e'; exact c
          · exact hlt i' (by omega)
        · right
          rw [if_neg c]
          exact ⟨.inl (), rfl, .inl ⟨rfl, fun h => c (h i (by omega))⟩⟩
  · rw [if_neg (fun h => hl ((qi_eq _ _ (by omega) (by omega)).mp h))]
    exact qdec0 (fun h => hl h.1)
