theorem qT_ex (b : Nat → Nat) (len p : Nat) : ∃ x : Nat × Nat × Nat × Nat, p ≤ len → qtk b len p x.1 x.2.1 x.2.2.1 x.2.2.2 := by
  by_cases h : p ≤ len
  · obtain ⟨k, s, v, e, hh⟩ := qtk_ex b len p h
    exact ⟨(k, s, v, e), fun _ => hh⟩
  · exact ⟨(0, 0, 0, 0), fun h' => absurd h' h⟩
noncomputable def qT (b : Nat → Nat) (len p : Nat) : Nat × Nat × Nat × Nat := Classical.choose (qT_ex b len p)
theorem qT_q (b : Nat → Nat) (len p : Nat) (h : p ≤ len) : qtk b len p (qT b len p).1 (qT b len p).2.1 (qT b len p).2.2.1 (qT b len p).2.2.2 := Classical.choose_spec (qT_ex b len p) h
theorem qtk_k {b : Nat → Nat} {len p k s v e : Nat} (h : qtk b len p k s v e) : k ≤ 10 ∧ (k = 1 → v < 10000000) := by
  obtain ⟨h1, h2⟩ := h
  rcases h2 with ⟨a, b', c⟩ | ⟨a, b', c, d, e'⟩ | ⟨a, b', c, d⟩ | ⟨a, b', c, d, e'⟩
  · exact ⟨by omega, by intro h; omega⟩
  · refine ⟨by rw [d]; split <;> omega, fun _ => ?_⟩
    rw [e']
    apply qvl_7
    · split <;> omega
    · intro i hi
      have := (qre_at c i (by split at hi <;> omega)).2
      unfold qdg at this
      have : 48 ≤ b (s + i) ∧ b (s + i) ≤ 57 := by simpa using this
      exact this.2
  · have : k ≤ 10 ∧ k ≠ 1 := by rw [d]; unfold qwd; split; omega; split; omega; split; omega; split; omega; split <;> omega
    exact ⟨this.1, fun h => absurd h this.2⟩
  · have : k ≤ 10 ∧ k ≠ 1 := by rw [e']; unfold qsg; split; omega; split; omega; split; omega; split <;> omega
    exact ⟨this.1, fun h => absurd h this.2⟩
abbrev Qs : Type := Nat × Nat × Int32 × Nat × Nat × Qg
/-- what must come behind a token; 99: it can't stand here -/
def qaf (aw k : Nat) : Nat :=
  if aw = 0 then (if k = 0 then 0 else if k = 6 then 1 else if k = 7 then 3 else if k = 8 then 8 else 99)
  else if aw = 2 then (if k = 2 then 0 else 99)
  else if aw = 3 then (if k = 1 then 4 else 99)
  else if aw = 4 then (if k = 3 then 5 else if k = 1 then 4 else 99)
  else if aw = 5 then (if k = 1 then 6 else 99)
  else if aw = 6 then (if k = 9 then 7 else if k = 1 then 6 else 99)
  else (if k = 1 then 2 else 99)
theorem Q_after_q (aw k : Nat) (ha : aw ≤ 8) (hk : k ≤ 10) : Q_after (qi aw) (qi k) = (if qaf aw k = 99 then Int32.ofInt (-1) else qi (qaf aw k)) ∧ (qaf aw k = 99 ∨ qaf aw k ≤ 8) := by
  have : ∀ aw, aw < 9 → ∀ k, k < 11 → Q_after (qi aw) (qi k) = (if qaf aw k = 99 then Int32.ofInt (-1) else qi (qaf aw k)) ∧ (qaf aw k = 99 ∨ qaf aw k ≤ 8) := by decide +kernel
  exact this aw (by omega) k (by omega)
def qup (f : Nat → Nat) (k v : Nat) : Nat → Nat := fun j => if j = k then v else f j
def qaddR (g : Qg) (v : Nat) : Qg := (qn g + 1, qm g, qlim g, qup (qrw g) (qn g) v, qle g, qri g, qby g)
def qaddE (g : Qg) (l r v : Nat) : Qg := (qn g, qm g + 1, qlim g, qrw g, qup (qle g) (qm g) l, qup (qri g) (qm g) r, qup (qby g) (qm g) v)
def qlimG (g : Qg) (v : Nat) : Qg := (qn g, qm g, v, qrw g, qle g, qri g, qby g)
/-- a token is taken: fault, left, right, graph -/
def qab (aw l r : Nat) (g : Qg) (k v : Nat) : Nat × Nat × Nat × Qg :=
  if k = 6 then (if qn g < 8 then 0 else 4, l, r, g)
  else if k = 7 then (if qm g < 16 then 0 else 4, 0, 0, g)
  else if k = 1 then
    (if aw = 1 then (if 1 ≤ v ∧ v ≤ 1000000 then (0, l, r, if qn g < 8 then qaddR g v else g) else (2, l, r, g))
     else if aw = 7 then (if 1 ≤ v ∧ v ≤ 100000 then (0, l, r, if qm g < 16 then qaddE g l r v else g) else (2, l, r, g))
     else if aw = 8 then (if v ≤ 5000 then (0, l, r, qlimG g v) else (2, l, r, g))
     else if v < qn g then (if (l ||| r) &&& 2 ^ v = 0 then (if aw = 3 ∨ aw = 4 then (0, l ||| 2 ^ v, r, g) else (0, l, r ||| 2 ^ v, g)) else (3, l, r, g)) else (2, l, r, g))
  else (0, l, r, g)
theorem qJg_addR {g : Qg} {rel edg lim : Int32} {rows left right by' : Nat → Int32} (h : qJg g rel edg lim rows left right by') (v : Nat) : qJg (qaddR g v) (qi (qn g + 1)) edg lim (upd rows (qn g) (qi v)) left right by' := by
  obtain ⟨h1, h2, h3, h4, h5⟩ := h
  refine ⟨rfl, h2, h3, ?_, h5⟩
  intro r hr
  show upd rows (qn g) (qi v) r = qi (if r = qn g then v else qrw g r)
  by_cases e : r = qn g
  · rw [if_pos e, e, upd_self]
  · rw [if_neg e, upd_ne _ _ e]
    have : r < qn g + 1 := hr
    exact h4 r (by omega)
theorem qJg_addE {g : Qg} {rel edg lim : Int32} {rows left right by' : Nat → Int32} (h : qJg g rel edg lim rows left right by') (l r v : Nat) :
    qJg (qaddE g l r v) rel (qi (qm g + 1)) lim rows (upd left (qm g) (qi l)) (upd right (qm g) (qi r)) (upd by' (qm g) (qi v)) := by
  obtain ⟨h1, h2, h3, h4, h5⟩ := h
  refine ⟨h1, rfl, h3, h4, ?_⟩
  intro e he
  show upd left (qm g) (qi l) e = qi (if e = qm g then l else qle g e) ∧ upd right (qm g) (qi r) e = qi (if e = qm g then r else qri g e) ∧ upd by' (qm g) (qi v) e = qi (if e = qm g then v else qby g e)
  by_cases ee : e = qm g
  · rw [if_pos ee, if_pos ee, if_pos ee, ee, upd_self, upd_self, upd_self]
    exact ⟨rfl, rfl, rfl⟩
  · rw [if_neg ee, if_neg ee, if_neg ee, upd_ne _ _ ee, upd_ne _ _ ee, upd_ne _ _ ee]
    have : e < qm g + 1 := he
    exact h5 e (by omega)
theorem qJg_lim {g : Qg} {rel edg lim : Int32} {rows left right by' : Nat → Int32} (h : qJg g rel edg lim rows left right by') (v : Nat) : qJg (qlimG g v) rel edg (qi v) rows left right by' := by
  obtain ⟨h1, h2, h3, h4, h5⟩ := h
  exact ⟨h1, h2, rfl, h4, h5⟩
theorem qGok_addR {g : Qg} (h : qGok g) (hn : qn g < 8) (v : Nat) (h1 : 1 ≤ v) (h2 : v ≤ 1000000) : qGok (qaddR g v) := by
  obtain ⟨a1, a2, a3, a4, a5⟩ := h
  refine ⟨show qn g + 1 ≤ 8 by omega, a2, a3, ?_, ?_⟩
  · intro r hr
    have hr : r < qn g + 1 := hr
    show 1 ≤ (if r = qn g then v else qrw g r) ∧ (if r = qn g then v else qrw g r) ≤ 1000000
    by_cases e : r = qn g
    · rw [if_pos e]; exact ⟨h1, h2⟩
    · rw [if_neg e]; exact a4 r (by omega)
  · intro e he
    have := a5 e he
    have hp : 2 ^ qn g ≤ 2 ^ (qn g + 1) := Nat.pow_le_pow_right (by omega) (by omega)
    exact ⟨this.1, Nat.lt_of_lt_of_le this.2.1 hp, this.2.2.1, Nat.lt_of_lt_of_le this.2.2.2.1 hp, this.2.2.2.2⟩
theorem qGok_addE {g : Qg} (h : qGok g) (hm : qm g < 16) (l r v : Nat) (hl : l ≠ 0 ∧ l < 2 ^ qn g) (hr : r ≠ 0 ∧ r < 2 ^ qn g) (hlr : l &&& r = 0) (h1 : 1 ≤ v) (h2 : v ≤ 100000) : qGok (qaddE g l r v) := by
  obtain ⟨a1, a2, a3, a4, a5⟩ := h
  refine ⟨a1, show qm g + 1 ≤ 16 by omega, a3, a4, ?_⟩
  intro e he
  have he : e < qm g + 1 := he
  show (if e = qm g then l else qle g e) ≠ 0 ∧ (if e = qm g then l else qle g e) < 2 ^ qn g ∧ (if e = qm g then r else qri g e) ≠ 0 ∧ (if e = qm g then r else qri g e) < 2 ^ qn g ∧ (if e = qm g then l else qle g e) &&& (if e = qm g then r else qri g e) = 0 ∧ 1 ≤ (if e = qm g then v else qby g e) ∧ (if e = qm g then v else qby g e) ≤ 100000
  by_cases ee : e = qm g
  · simp only [if_pos ee]
    exact ⟨hl.1, hl.2, hr.1, hr.2, hlr, h1, h2⟩
  · simp only [if_neg ee]
    exact a5 e (by omega)
theorem qGok_lim {g : Qg} (h : qGok g) (v : Nat) (h2 : v ≤ 5000) : qGok (qlimG g v) := by
  obtain ⟨a1, a2, a3, a4, a5⟩ := h
  exact ⟨a1, a2, h2, a4, a5⟩
/-- what holds while there is no fault -/
def qMok (aw l r : Nat) (g : Qg) : Prop := qGok g ∧ l < 2 ^ qn g ∧ r < 2 ^ qn g ∧ l &&& r = 0 ∧ (aw = 1 → qn g < 8) ∧ (aw = 3 → l = 0 ∧ r = 0) ∧ (aw = 4 ∨ aw = 5 → l ≠ 0 ∧ r = 0) ∧ (aw = 6 ∨ aw = 7 → l ≠ 0 ∧ r ≠ 0) ∧ (3 ≤ aw ∧ aw ≤ 7 → qm g < 16)
theorem qMok_step {aw l r : Nat} {g : Qg} {k v : Nat} (h : qMok aw l r g) (ha : aw ≤ 8) (hk : qaf aw k ≠ 99) (hf : (qab aw l r g k v).1 = 0) : qMok (qaf aw k) (qab aw l r g k v).2.1 (qab aw l r g k v).2.2.1 (qab aw l r g k v).2.2.2 := by
  obtain ⟨h1, h2, h3, h4, h5, h6, h7, h8, h9⟩ := h
  have hp := Nat.two_pow_pos (qn g)
  have hps : 2 ^ qn g ≤ 2 ^ (qn g + 1) := Nat.pow_le_pow_right (by omega) (by omega)
  have hbit : ∀ v, v < qn g → 2 ^ v < 2 ^ qn g := fun v hv => Nat.pow_lt_pow_right (by omega) hv
  have hb0 : ∀ v, 2 ^ v ≠ 0 := fun v => Nat.ne_of_gt (Nat.two_pow_pos v)
  have hor0 : ∀ a v : Nat, a ||| 2 ^ v ≠ 0 := by
    intro a v
    have := @Nat.right_le_or a (2 ^ v)
    have := Nat.two_pow_pos v
    omega
  have hda : ∀ v, (l ||| r) &&& 2 ^ v = 0 → l &&& 2 ^ v = 0 ∧ r &&& 2 ^ v = 0 := by
    intro v hv
    rw [Nat.and_or_distrib_right] at hv
    exact Nat.or_eq_zero_iff.mp hv
  have hl1 : ∀ v, l &&& r = 0 → r &&& 2 ^ v = 0 → (l ||| 2 ^ v) &&& r = 0 := by
    intro v a b
    rw [Nat.and_or_distrib_right, a, Nat.and_comm, b]; rfl
  have hr1 : ∀ v, l &&& r = 0 → l &&& 2 ^ v = 0 → l &&& (r ||| 2 ^ v) = 0 := by
    intro v a b
    rw [Nat.and_or_distrib_left, a, b]; rfl
  -- the number is an end of an edge
  have ends : k = 1 → aw ≠ 1 → aw ≠ 7 → aw ≠ 8 → v < qn g ∧ (l ||| r) &&& 2 ^ v = 0 ∧ qab aw l r g k v = (if aw = 3 ∨ aw = 4 then (0, l ||| 2 ^ v, r, g) else (0, l, r ||| 2 ^ v, g)) := by
    intro e1 e2 e3 e4
    unfold qab at hf ⊢
    rw [if_neg (by omega), if_neg (by omega), if_pos e1, if_neg e2, if_neg e3, if_neg e4] at hf ⊢
    by_cases c1 : v < qn g
    · rw [if_pos c1] at hf ⊢
      by_cases c2 : (l ||| r) &&& 2 ^ v = 0
      · rw [if_pos c2]
        exact ⟨c1, c2, rfl⟩
      · rw [if_neg c2] at hf
        simp at hf
    · rw [if_neg c1] at hf
      simp at hf
  have other : k ≠ 6 → k ≠ 7 → k ≠ 1 → qab aw l r g k v = (0, l, r, g) := by
    intro e1 e2 e3
    unfold qab
    rw [if_neg e1, if_neg e2, if_neg e3]
  unfold qaf at hk ⊢
  by_cases a0 : aw = 0
  · rw [if_pos a0] at hk ⊢
    by_cases k0 : k = 0
    · rw [if_pos k0, other (by omega) (by omega) (by omega)]
      exact ⟨h1, h2, h3, h4, by omega, by omega, by omega, by omega, by omega⟩
    · rw [if_neg k0] at hk ⊢
      by_cases k6 : k = 6
      · rw [if_pos k6] at hk ⊢
        unfold qab at hf ⊢
        rw [if_pos k6] at hf ⊢
        have hn : qn g < 8 := by
          by_cases c : qn g < 8
          · exact c
          · simp [c] at hf
        exact ⟨h1, h2, h3, h4, fun _ => hn, by omega, by omega, by omega, by omega⟩
      · rw [if_neg k6] at hk ⊢
        by_cases k7 : k = 7
        · rw [if_pos k7] at hk ⊢
          unfold qab at hf ⊢
          rw [if_neg k6, if_pos k7] at hf ⊢
          have hm : qm g < 16 := by
            by_cases c : qm g < 16
            · exact c
            · simp [c] at hf
          exact ⟨h1, hp, hp, Nat.and_self 0, by omega, fun _ => ⟨rfl, rfl⟩, by omega, by omega, fun _ => hm⟩
        · rw [if_neg k7] at hk ⊢
          by_cases k8 : k = 8
          · rw [if_pos k8] at hk ⊢
            rw [other (by omega) (by omega) (by omega)]
            exact ⟨h1, h2, h3, h4, by omega, by omega, by omega, by omega, by omega⟩
          · rw [if_neg k8] at hk
            exact absurd rfl hk
  · rw [if_neg a0] at hk ⊢
    by_cases a2 : aw = 2
    · rw [if_pos a2] at hk ⊢
      by_cases k2 : k = 2
      · rw [if_pos k2, other (by omega) (by omega) (by omega)]
        exact ⟨h1, h2, h3, h4, by omega, by omega, by omega, by omega, by omega⟩
      · rw [if_neg k2] at hk
        exact absurd rfl hk
    · rw [if_neg a2] at hk ⊢
      by_cases a3 : aw = 3
      · rw [if_pos a3] at hk ⊢
        by_cases k1 : k = 1
        · obtain ⟨c1, c2, c3⟩ := ends k1 (by omega) (by omega) (by omega)
          have ⟨d1, d2⟩ := hda v c2
          rw [if_pos k1, c3, if_pos (.inl a3)]
          exact ⟨h1, q_or_lt h2 (hbit v c1), h3, hl1 v h4 d2, by omega, by omega, fun _ => ⟨hor0 _ _, (h6 a3).2⟩, by omega, fun _ => h9 (by omega)⟩
        · rw [if_neg k1] at hk
          exact absurd rfl hk
      · rw [if_neg a3] at hk ⊢
        by_cases a4 : aw = 4
        · rw [if_pos a4] at hk ⊢
          by_cases k3 : k = 3
          · rw [if_pos k3, other (by omega) (by omega) (by omega)]
            exact ⟨h1, h2, h3, h4, by omega, by omega, fun _ => h7 (.inl a4), by omega, fun _ => h9 (by omega)⟩
          · rw [if_neg k3] at hk ⊢
            by_cases k1 : k = 1
            · obtain ⟨c1, c2, c3⟩ := ends k1 (by omega) (by omega) (by omega)
              have ⟨d1, d2⟩ := hda v c2
              rw [if_pos k1, c3, if_pos (.inr a4)]
              exact ⟨h1, q_or_lt h2 (hbit v c1), h3, hl1 v h4 d2, by omega, by omega, fun _ => ⟨hor0 _ _, (h7 (.inl a4)).2⟩, by omega, fun _ => h9 (by omega)⟩
            · rw [if_neg k1] at hk
              exact absurd rfl hk
        · rw [if_neg a4] at hk ⊢
          by_cases a5 : aw = 5
          · rw [if_pos a5] at hk ⊢
            by_cases k1 : k = 1
            · obtain ⟨c1, c2, c3⟩ := ends k1 (by omega) (by omega) (by omega)
              have ⟨d1, d2⟩ := hda v c2
              rw [if_pos k1, c3, if_neg (by omega)]
              exact ⟨h1, h2, q_or_lt h3 (hbit v c1), hr1 v h4 d1, by omega, by omega, by omega, fun _ => ⟨(h7 (.inr a5)).1, hor0 _ _⟩, fun _ => h9 (by omega)⟩
            · rw [if_neg k1] at hk
              exact absurd rfl hk
          · rw [if_neg a5] at hk ⊢
            by_cases a6 : aw = 6
            · rw [if_pos a6] at hk ⊢
              by_cases k9 : k = 9
              · rw [if_pos k9, other (by omega) (by omega) (by omega)]
                exact ⟨h1, h2, h3, h4, by omega, by omega, by omega, fun _ => h8 (.inl a6), fun _ => h9 (by omega)⟩
              · rw [if_neg k9] at hk ⊢
                by_cases k1 : k = 1
                · obtain ⟨c1, c2, c3⟩ := ends k1 (by omega) (by omega) (by omega)
                  have ⟨d1, d2⟩ := hda v c2
                  rw [if_pos k1, c3, if_neg (by omega)]
                  exact ⟨h1, h2, q_or_lt h3 (hbit v c1), hr1 v h4 d1, by omega, by omega, by omega, fun _ => ⟨(h8 (.inl a6)).1, hor0 _ _⟩, fun _ => h9 (by omega)⟩
                · rw [if_neg k1] at hk
                  exact absurd rfl hk
            · rw [if_neg a6] at hk ⊢
              by_cases k1 : k = 1
              · rw [if_pos k1] at hk ⊢
                unfold qab at hf ⊢
                rw [if_neg (by omega), if_neg (by omega), if_pos k1] at hf ⊢
                by_cases a1 : aw = 1
                · rw [if_pos a1] at hf ⊢
                  by_cases cv : 1 ≤ v ∧ v ≤ 1000000
                  · rw [if_pos cv]
                    simp only [if_pos (h5 a1)]
                    exact ⟨qGok_addR h1 (h5 a1) v cv.1 cv.2, Nat.lt_of_lt_of_le h2 hps, Nat.lt_of_lt_of_le h3 hps, h4, by omega, by omega, by omega, by omega, by omega⟩
                  · rw [if_neg cv] at hf
                    simp at hf
                · rw [if_neg a1] at hf ⊢
                  by_cases a7 : aw = 7
                  · rw [if_pos a7] at hf ⊢
                    by_cases cv : 1 ≤ v ∧ v ≤ 100000
                    · rw [if_pos cv]
                      have hm := h9 (by omega)
                      simp only [if_pos hm]
                      exact ⟨qGok_addE h1 hm l r v ⟨(h8 (.inr a7)).1, h2⟩ ⟨(h8 (.inr a7)).2, h3⟩ h4 cv.1 cv.2, h2, h3, h4, by omega, by omega, by omega, by omega, by omega⟩
                    · rw [if_neg cv] at hf
                      simp at hf
                  · rw [if_neg a7] at hf ⊢
                    have a8 : aw = 8 := by omega
                    rw [if_pos a8] at hf ⊢
                    by_cases cv : v ≤ 5000
                    · rw [if_pos cv]
                      exact ⟨qGok_lim h1 v cv, h2, h3, h4, by omega, by omega, by omega, by omega, by omega⟩
                    · rw [if_neg cv] at hf
                      simp at hf
              · rw [if_neg k1] at hk
                exact absurd rfl hk
