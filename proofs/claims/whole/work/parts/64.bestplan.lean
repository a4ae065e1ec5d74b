def qlog (s : Nat) : Nat := qpop (s - 1)
theorem qlog_q (s : Nat) (hs : s < 256) : qone s = true → 2 ^ qlog s = s ∧ qlog s < 8 := by
  have : ∀ s, s < 256 → qone s = true → 2 ^ qlog s = s ∧ qlog s < 8 := by decide +kernel
  exact this s hs
/-- the tree that B tells of a set -/
def qbt (B : Nat → Nat) : Nat → Nat → Qt
  | 0, _ => .var 0
  | k + 1, s => if B s = 0 then .var (qlog s) else .op (qbt B k (B s)) (qbt B k (s ^^^ B s))
def qcf (B : Nat → Nat) : Qt → Prop
  | .var r => B (2 ^ r) = 0
  | .op a b => B (qts a ||| qts b) = qts a ∧ qcf B a ∧ qcf B b
def qBok (B : Nat → Nat) (K : Nat) : Prop := ∀ s, s ≠ 0 → s < K → (qone s = true → B s = 0) ∧ (qone s = false → B s ∈ qparts s)
theorem qbt_q (B : Nat → Nat) (K : Nat) (hK : K ≤ 256) (hB : qBok B K) : ∀ k s, s ≠ 0 → s < K → s < k → qtok (qbt B k s) ∧ qts (qbt B k s) = s ∧ qcf B (qbt B k s) := by
  intro k
  induction k with
  | zero => intro s _ _ h; omega
  | succ k ih =>
    intro s s0 hs hk
    have hb := hB s s0 hs
    unfold qbt
    rcases q_dich (qone s) with k1 | k1
    · have hm := hb.2 k1
      have ⟨a1, a2, a3, a4, a5, a6, a7⟩ := qparts_all (by omega) hm
      rw [if_neg a2]
      have A := ih (B s) a2 (by omega) (by omega)
      have C := ih (s ^^^ B s) a5 (by omega) (by omega)
      have e : qts (qbt B k (B s)) ||| qts (qbt B k (s ^^^ B s)) = s := by rw [A.2.1, C.2.1, q_xor_or a3]
      refine ⟨⟨A.1, C.1, ?_, ?_⟩, e, ?_, A.2.2, C.2.2⟩
      · rw [A.2.1, C.2.1]; exact q_xor_and a3
      · rw [e, A.2.1]; exact (qparts_mem hm).2.2
      · rw [e, A.2.1]
    · have e := hb.1 k1
      rw [if_pos e]
      have l := qlog_q s (by omega) k1
      exact ⟨l.2, l.1, by show B (2 ^ qlog s) = 0; rw [l.1]; exact e⟩
theorem qcf_mem {B : Nat → Nat} : ∀ t, qcf B t → ∀ x, x ∈ qtn t → B x.1 = x.2 := by
  intro t
  induction t with
  | var r => intro _ x hx; cases hx
  | op a b iha ihb =>
    rintro ⟨h1, h2, h3⟩ x hx
    rcases List.mem_cons.mp hx with rfl | hx
    · exact h1
    · rcases List.mem_append.mp hx with hx | hx
      · exact iha h2 x hx
      · exact ihb h3 x hx
/-- x is the root, or a part of a join above k -/
def qch (t : Qt) (k x : Nat) : Prop := x = qts t ∨ ∃ y, y ∈ qtn t ∧ k < y.1 ∧ (x = y.2 ∨ x = y.1 ^^^ y.2)
theorem qcf_ch {B : Nat → Nat} : ∀ t, qtok t → qcf B t → ∀ k x, qch t k x → B x ≠ 0 → (x, B x) ∈ qtn t := by
  intro t
  induction t with
  | var r =>
    intro _ h k x hx h0
    rcases hx with rfl | ⟨y, hy, _⟩
    · exact absurd h h0
    · cases hy
  | op a b iha ihb =>
    intro ht h k x hx h0
    have ho := qtok_op ht
    obtain ⟨h1, h2, h3⟩ := h
    have inA : ∀ x, qch a k x → B x ≠ 0 → (x, B x) ∈ qtn (.op a b) := fun x hx h0 => List.mem_cons_of_mem _ (List.mem_append_left _ (iha ht.1 h2 k x hx h0))
    have inB : ∀ x, qch b k x → B x ≠ 0 → (x, B x) ∈ qtn (.op a b) := fun x hx h0 => List.mem_cons_of_mem _ (List.mem_append_right _ (ihb ht.2.1 h3 k x hx h0))
    rcases hx with rfl | ⟨y, hy, hk, hx⟩
    · show (qts a ||| qts b, B (qts a ||| qts b)) ∈ _
      rw [h1]; exact List.mem_cons_self ..
    · rcases List.mem_cons.mp hy with rfl | hy
      · rcases hx with rfl | rfl
        · exact inA _ (.inl rfl) h0
        · simp only [ho.2.1] at h0 ⊢
          exact inB _ (.inl rfl) h0
      · rcases List.mem_append.mp hy with hy | hy
        · exact inA x (.inr ⟨y, hy, hk, hx⟩) h0
        · exact inB x (.inr ⟨y, hy, hk, hx⟩) h0
theorem qch_node : ∀ t, qtok t → ∀ x, x ∈ qtn t → qch t x.1 x.1 := by
  intro t
  induction t with
  | var r => intro _ x hx; cases hx
  | op a b iha ihb =>
    intro ht x hx
    have ho := qtok_op ht
    rcases List.mem_cons.mp hx with rfl | hx
    · exact .inl rfl
    · right
      rcases List.mem_append.mp hx with hx | hx
      · rcases iha ht.1 x hx with e | ⟨y, hy, hk, h⟩
        · exact ⟨(qts a ||| qts b, qts a), List.mem_cons_self .., by rw [e]; exact ho.2.2.2.2.1, .inl e⟩
        · exact ⟨y, List.mem_cons_of_mem _ (List.mem_append_left _ hy), hk, h⟩
      · rcases ihb ht.2.1 x hx with e | ⟨y, hy, hk, h⟩
        · exact ⟨(qts a ||| qts b, qts a), List.mem_cons_self .., by rw [e]; exact ho.2.2.2.2.2.1, .inr (by rw [e]; exact ho.2.1.symm)⟩
        · exact ⟨y, List.mem_cons_of_mem _ (List.mem_append_right _ hy), hk, h⟩
theorem qch_mono {t : Qt} {k k' x : Nat} (h : qch t k x) (hk : k' ≤ k) : qch t k' x := by
  rcases h with h | ⟨y, hy, h1, h2⟩
  · exact .inl h
  · exact .inr ⟨y, hy, by omega, h2⟩
theorem qch_lt {t : Qt} (ht : qtok t) {k x : Nat} (h : qch t k x) : x < 256 ∧ x ≠ 0 := by
  rcases h with rfl | ⟨y, hy, _, rfl | rfl⟩
  · exact qts_lt t ht
  · have hs := qtn_sub t ht y hy
    have ⟨a1, a2, a3, a4, a5, a6, a7⟩ := qparts_all hs.2.2.1 hs.2.2.2.1
    exact ⟨a6, a2⟩
  · have hs := qtn_sub t ht y hy
    have ⟨a1, a2, a3, a4, a5, a6, a7⟩ := qparts_all hs.2.2.1 hs.2.2.2.1
    exact ⟨a7, a5⟩
theorem qi_dec (k : Nat) (h : k ≠ 0) : qi k + Int32.ofInt (-1) = qi (k - 1) := by
  rw [show k = k - 1 + 1 by omega, ← qi_add, Int32.add_assoc, show qi 1 + Int32.ofInt (-1) = 0 from rfl, Int32.add_zero, Nat.add_sub_cancel]
theorem R_partsOfBest_q (B : Nat → Nat) (t : Qt) (ht : qtok t) (hB : qcf B t) (bp p : Nat → Int32) (hb : ∀ k x, qch t k x → bp x = qi (B x)) (N : Nat) (hN : 300 < N) :
    ∃ p', R_partsOfBest N bp p (qi (qts t)) = some p' ∧ qRp t p' := by
  obtain ⟨p0, e0, z0⟩ := R_noParts_q p N hN
  have hl := qts_lt t ht
  have hBlt : ∀ k x, qch t k x → B x ≠ 0 → (x, B x) ∈ qtn t ∧ B x < 256 := by
    intro k x hx h0
    have hm := qcf_ch t ht hB k x hx h0
    have hs := qtn_sub t ht _ hm
    exact ⟨hm, (qparts_all hs.2.2.1 hs.2.2.2.1).2.2.2.2.2.1⟩
  have key := qlp_dn (body := fun x : (Nat → Int32) × Int32 => R_partsOfBest_b18 N bp x.1 x.2)
    (Inv := fun k x => k < 256 ∧ x.2 = qi k ∧ (∀ y, y < 256 → qch t k y → x.1 y = qi (B y)) ∧ (∀ y, y < 256 → ¬ qch t k y → x.1 y = qi 0))
    (Q := fun y => qRp t y) ?_ (qts t) (upd p0 (qts t) (qi (B (qts t))), qi (qts t)) ?_ N (by omega)
  · obtain ⟨y, e, q⟩ := key
    refine ⟨y, ?_, q⟩
    simp (disch := omega) only [R_partsOfBest, R_partsOfBest_18, e0, qi_lit, qi_m1, qi_add, qi_mul, qi_and, qi_or, qi_xor, qi_not, qi_shl, qi_shr, qi_and31, qi_nat, qi_inb, qi_eq, qi_lt, qi_le, qi_sub, dn, db_some, dk_t, hb 0 (qts t) (.inl rfl)]
    rw [e]
    rfl
  · rintro k ⟨f, x⟩ ⟨hk, rfl, h1, h2⟩
    simp only at h1 h2
    by_cases hz : k = 0
    · right
      subst hz
      refine ⟨f, by simp (disch := omega) only [R_partsOfBest_b18, qi_lit, qi_m1, qi_add, qi_mul, qi_and, qi_or, qi_xor, qi_not, qi_shl, qi_shr, qi_and31, qi_nat, qi_inb, qi_eq, qi_lt, qi_le, qi_sub]; simp, ?_⟩
      intro s hs
      by_cases hc : qch t 0 s
      · rw [h1 s hs hc]
        by_cases hbz : B s = 0
        · have : qpf t s = 0 := by
            by_cases k : qpf t s = 0
            · exact k
            · have := qcf_mem t hB _ (qpf_mem' t ht s k)
              exact absurd (this.symm.trans hbz) k
          rw [hbz, this]
        · have := qpf_mem t ht _ (qcf_ch t ht hB 0 s hc hbz)
          exact congrArg qi this.symm
      · rw [h2 s hs hc]
        have : qpf t s = 0 := by
          by_cases k : qpf t s = 0
          · exact k
          · exact absurd (qch_mono (qch_node t ht _ (qpf_mem' t ht s k)) (Nat.zero_le _)) hc
        rw [this]
    · left
      by_cases hc : qch t k k ∧ B k ≠ 0
      · obtain ⟨hm, hBl⟩ := hBlt k k hc.1 hc.2
        have hs := qtn_sub t ht _ hm
        have ⟨a1, a2, a3, a4, a5, a6, a7⟩ := qparts_all hs.2.2.1 hs.2.2.2.1
        simp only at a1 a2 a3 a4 a5 a6 a7
        have hfk := h1 k hk hc.1
        have hx := q_and_xor a3
        have c1 : qch t (k - 1) (B k) := .inr ⟨_, hm, show k - 1 < k by omega, .inl rfl⟩
        have c2 : qch t (k - 1) (k ^^^ B k) := .inr ⟨_, hm, show k - 1 < k by omega, .inr rfl⟩
        have hne : k ^^^ B k ≠ k := by omega
        refine ⟨(upd (upd f (B k) (qi (B (B k)))) (k ^^^ B k) (qi (B (k ^^^ B k))), qi (k - 1)), k - 1, ?_, ⟨by omega, rfl, ?_, ?_⟩, by omega⟩
        · have hu : upd f (B k) (qi (B (B k))) k = qi (B k) := by rw [upd_ne _ _ (by omega), hfk]
          simp (disch := omega) only [R_partsOfBest_b18, qi_lit, qi_m1, qi_add, qi_mul, qi_and, qi_or, qi_xor, qi_not, qi_shl, qi_shr, qi_and31, qi_nat, qi_inb, qi_eq, qi_lt, qi_le, qi_sub, dn, db_some, dk_t, if_neg (show ¬ k ≤ 0 by omega), hfk, if_neg (show ¬ B k ≤ 0 by omega), hb _ _ c1, hu, hx, hb _ _ c2, qi_dec]
        · intro y hy hyc
          show upd _ _ _ y = _
          by_cases e1 : y = k ^^^ B k
          · rw [e1, upd_self]
          · rw [upd_ne _ _ e1]
            by_cases e2 : y = B k
            · rw [e2, upd_self]
            · rw [upd_ne _ _ e2]
              apply h1 y hy
              rcases hyc with e | ⟨z, hz, hk', h⟩
              · exact .inl e
              · right
                refine ⟨z, hz, ?_, h⟩
                by_cases ez : z.1 = k
                · exfalso
                  have hz2 : z.2 = B k := by rw [← qcf_mem t hB z hz, ez]
                  rcases h with h | h
                  · exact e2 (h.trans hz2)
                  · rw [ez, hz2] at h; exact e1 h
                · omega
        · intro y hy hyc
          show upd _ _ _ y = _
          have e1 : y ≠ k ^^^ B k := fun e => hyc (e ▸ c2)
          have e2 : y ≠ B k := fun e => hyc (e ▸ c1)
          rw [upd_ne _ _ e1, upd_ne _ _ e2]
          exact h2 y hy (fun h => hyc (qch_mono h (by omega)))
      · have hfk : f k = qi 0 := by
          by_cases hck : qch t k k
          · rw [h1 k hk hck]
            by_cases hbk : B k = 0
            · rw [hbk]
            · exact absurd ⟨hck, hbk⟩ hc
          · exact h2 k hk hck
        have hnn : ∀ z, z ∈ qtn t → z.1 ≠ k := by
          intro z hz e
          apply hc
          rw [← e]
          refine ⟨qch_node t ht z hz, ?_⟩
          rw [qcf_mem t hB z hz]
          have hs := qtn_sub t ht z hz
          exact (qparts_all hs.2.2.1 hs.2.2.2.1).2.1
        have hiff : ∀ y, qch t (k - 1) y → qch t k y := by
          rintro y (e | ⟨z, hz, hk', h⟩)
          · exact .inl e
          · exact .inr ⟨z, hz, by have := hnn z hz; omega, h⟩
        refine ⟨(f, qi (k - 1)), k - 1, ?_, ⟨by omega, rfl, fun y hy hyc => h1 y hy (hiff y hyc), fun y hy hyc => h2 y hy (fun h => hyc (qch_mono h (by omega)))⟩, by omega⟩
        simp (disch := omega) only [R_partsOfBest_b18, qi_lit, qi_m1, qi_add, qi_mul, qi_and, qi_or, qi_xor, qi_not, qi_shl, qi_shr, qi_and31, qi_nat, qi_inb, qi_eq, qi_lt, qi_le, qi_sub, dn, db_some, dk_t, if_neg (show ¬ k ≤ 0 by omega), hfk, qi_dec]
        simp
  · refine ⟨hl.1, rfl, ?_, ?_⟩
    · intro y hy hyc
      rcases hyc with rfl | ⟨z, hz, hk, _⟩
      · exact upd_self _ _ _
      · have hs := qtn_sub t ht z hz
        have := q_sub_le hs.1
        omega
    · intro y hy hyc
      show upd _ _ _ y = _
      rw [upd_ne _ _ (fun e => hyc (.inl e))]
      exact z0 y hy
def qBp (g : Qg) (s : Nat) : Nat := (qbest g false s).2.2
theorem qBp_ok (g : Qg) : qBok (qBp g) 256 := by
  intro s s0 hs
  constructor
  · intro h
    unfold qBp
    rw [qbest_eq g false s hs, qparts_one s hs h]; rfl
  · intro h
    have hb := (qbest_b g false s hs).2.2
    rcases hb with e | e
    · exfalso
      rw [qbest_eq g false s hs] at e
      have hm := qparts_two s hs s0 h
      cases hp : qparts s with
      | nil => rw [hp] at hm; cases hm
      | cons f l =>
        rw [hp, List.foldl_cons] at e
        have hf0 : ∀ f, f ∈ qparts s → f ≠ 0 := fun f hf => (qparts_all hs hf).2.1
        have step : ∀ (a : Nat × Nat × Nat) (f : Nat), f ∈ qparts s → (a.2.2 ≠ 0 ∨ a = (0, 0, 0)) → (qbst g false (qbest g false) s a f).2.2 ≠ 0 := by
          intro a f hf ha
          unfold qbst qbc qwgh
          simp only [Bool.not_false, Bool.true_or, if_true]
          split
          · exact hf0 f hf
          · rename_i hn
            rcases ha with ha | rfl
            · exact ha
            · exact absurd (Or.inl rfl) hn
        refine q_foldl_inv (fun a : Nat × Nat × Nat => a.2.2 ≠ 0) _ l _ (step _ f (by rw [hp]; exact List.mem_cons_self ..) (.inr rfl)) ?_ e
        intro a q hq ha
        exact step a q (by rw [hp]; exact List.mem_cons_of_mem _ hq) (.inl ha)
    · exact e
