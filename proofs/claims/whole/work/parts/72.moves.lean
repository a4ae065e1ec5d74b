def qsb (s : Nat) : Qt → Qt
  | .var r => .var r
  | .op a b => if s = qts a ||| qts b then .op a b else if s &&& qts a = s then qsb s a else qsb s b
def qrp (s : Nat) (u : Qt) : Qt → Qt
  | .var r => .var r
  | .op a b => if s = qts a ||| qts b then u else if s &&& qts a = s then .op (qrp s u a) b else .op a (qrp s u b)
def qjo (u v : Qt) : Qt := if qlow (qts u) < qlow (qts v) then .op u v else .op v u
theorem qsb_q : ∀ t, qtok t → ∀ s, qpf t s ≠ 0 → ∃ L R, qsb s t = .op L R ∧ qag t (.op L R) ∧ qts L ||| qts R = s := by
  intro t
  induction t with
  | var r => intro _ s hs; exact absurd rfl hs
  | op a b iha ihb =>
    intro h s hs
    have hsub := qpf_sub _ h s hs
    unfold qsb
    by_cases e : s = qts a ||| qts b
    · rw [if_pos e]
      exact ⟨a, b, rfl, ⟨h, fun _ _ _ => rfl⟩, e.symm⟩
    · rw [if_neg e]
      have hh : qpf (.op a b) s = qpf a s + qpf b s := if_neg e
      by_cases ka : s &&& qts a = s
      · rw [if_pos ka]
        rw [qpf_l h ka hsub.2.1] at hs
        obtain ⟨L, R, e1, e2, e3⟩ := iha h.1 s hs
        refine ⟨L, R, e1, ⟨e2.1, ?_⟩, e3⟩
        intro x hx x0
        have hxa : x &&& qts a = x := q_sub_trans hx (by show (qts L ||| qts R) &&& qts a = qts L ||| qts R; rw [e3]; exact ka)
        rw [qpf_l h hxa x0]
        exact e2.2 x hx x0
      · rw [if_neg ka]
        have kz := qpf_big h.1 ka
        have kb : qpf b s ≠ 0 := by omega
        have hsb := (qpf_sub b h.2.1 s kb).1
        obtain ⟨L, R, e1, e2, e3⟩ := ihb h.2.1 s kb
        refine ⟨L, R, e1, ⟨e2.1, ?_⟩, e3⟩
        intro x hx x0
        have hxb : x &&& qts b = x := q_sub_trans hx (by show (qts L ||| qts R) &&& qts b = qts L ||| qts R; rw [e3]; exact hsb)
        rw [qpf_r h hxb x0]
        exact e2.2 x hx x0
theorem qrp_q (s : Nat) (u : Qt) (hu : qtok u) (hus : qts u = s) : ∀ t, qtok t → qpf t s ≠ 0 → qtok (qrp s u t) ∧ qts (qrp s u t) = qts t ∧ ∀ x, qpf (qrp s u t) x = if x &&& s = x ∧ x ≠ 0 then qpf u x else qpf t x := by
  intro t
  induction t with
  | var r => intro _ hs; exact absurd rfl hs
  | op a b iha ihb =>
    intro h hs
    have hsub := qpf_sub _ h s hs
    unfold qrp
    by_cases e : s = qts a ||| qts b
    · rw [if_pos e]
      refine ⟨hu, by rw [hus, e]; rfl, ?_⟩
      intro x
      by_cases hx : x &&& s = x ∧ x ≠ 0
      · rw [if_pos hx]
      · rw [if_neg hx]
        by_cases x0 : x = 0
        · subst x0; rw [qpf_0 u hu, qpf_0 _ h]
        · have hn : ¬ (x &&& s = x) := fun h' => hx ⟨h', x0⟩
          rw [qpf_big hu (by rw [hus]; exact hn), qpf_big h (by show ¬ (x &&& (qts a ||| qts b) = x); rw [← e]; exact hn)]
    · rw [if_neg e]
      have hh : qpf (.op a b) s = qpf a s + qpf b s := if_neg e
      by_cases ka : s &&& qts a = s
      · rw [if_pos ka]
        rw [qpf_l h ka hsub.2.1] at hs
        obtain ⟨i1, i2, i3⟩ := iha h.1 hs
        have hop : qtok (.op (qrp s u a) b) := ⟨i1, h.2.1, by rw [i2]; exact h.2.2.1, by rw [i2]; exact h.2.2.2⟩
        refine ⟨hop, by show qts (qrp s u a) ||| qts b = _; rw [i2]; rfl, ?_⟩
        intro x
        show (if x = qts (qrp s u a) ||| qts b then qts (qrp s u a) else qpf (qrp s u a) x + qpf b x) = if _ then _ else (if x = qts a ||| qts b then qts a else qpf a x + qpf b x)
        rw [i2]
        by_cases ex : x = qts a ||| qts b
        · rw [if_pos ex, if_pos ex, if_neg]
          rintro ⟨h1, h2⟩
          have l1 := q_sub_le h1
          have l2 := q_sub_le ka
          have := (qtok_op h).2.2.2.2.1
          omega
        · rw [if_neg ex, if_neg ex, i3 x]
          by_cases hx : x &&& s = x ∧ x ≠ 0
          · rw [if_pos hx, if_pos hx]
            have hxa := q_sub_trans hx.1 ka
            rw [qpf_big h.2.1 (fun e' => hx.2 (q_disj h.2.2.1 hxa e')), Nat.add_zero]
          · rw [if_neg hx, if_neg hx]
      · rw [if_neg ka]
        have kz := qpf_big h.1 ka
        have kb : qpf b s ≠ 0 := by omega
        have hsb := (qpf_sub b h.2.1 s kb).1
        obtain ⟨i1, i2, i3⟩ := ihb h.2.1 kb
        have hop : qtok (.op a (qrp s u b)) := ⟨h.1, i1, by rw [i2]; exact h.2.2.1, by rw [i2]; exact h.2.2.2⟩
        refine ⟨hop, by show qts a ||| qts (qrp s u b) = _; rw [i2]; rfl, ?_⟩
        intro x
        show (if x = qts a ||| qts (qrp s u b) then qts a else qpf a x + qpf (qrp s u b) x) = if _ then _ else (if x = qts a ||| qts b then qts a else qpf a x + qpf b x)
        rw [i2]
        by_cases ex : x = qts a ||| qts b
        · rw [if_pos ex, if_pos ex, if_neg]
          rintro ⟨h1, h2⟩
          have l1 := q_sub_le h1
          have l2 := q_sub_le hsb
          have := (qtok_op h).2.2.2.2.2.1
          omega
        · rw [if_neg ex, if_neg ex, i3 x]
          by_cases hx : x &&& s = x ∧ x ≠ 0
          · rw [if_pos hx, if_pos hx]
            have hxb := q_sub_trans hx.1 hsb
            rw [qpf_big h.1 (fun e' => hx.2 (q_disj h.2.2.1 e' hxb)), Nat.zero_add]
          · rw [if_neg hx, if_neg hx]
def qfst (a b : Nat) : Nat := if qlow a < qlow b then a else b
theorem qjo_q {u v : Qt} (hu : qtok u) (hv : qtok v) (h : qts u &&& qts v = 0) : qtok (qjo u v) ∧ qts (qjo u v) = qts u ||| qts v ∧ ∀ x, qpf (qjo u v) x = if x = qts u ||| qts v then qfst (qts u) (qts v) else qpf u x + qpf v x := by
  have lu := qts_lt u hu
  have lv := qts_lt v hv
  unfold qjo qfst
  rcases qlow_dis _ _ lu.1 lv.1 lu.2 lv.2 h with ⟨h1, h2⟩ | ⟨h1, h2⟩
  · rw [if_pos h1, if_pos h1]
    exact ⟨⟨hu, hv, h, by rw [h2]; exact qlow_sub _ lu.1⟩, rfl, fun x => rfl⟩
  · rw [if_neg (by omega), if_neg (by omega)]
    refine ⟨⟨hv, hu, by rw [Nat.and_comm]; exact h, by rw [Nat.or_comm, h2]; exact qlow_sub _ lv.1⟩, by show qts v ||| qts u = _; rw [Nat.or_comm], ?_⟩
    intro x
    show (if x = qts v ||| qts u then qts v else qpf v x + qpf u x) = _
    rw [Nat.or_comm, Nat.add_comm]
/-- st stays in s; go goes to ot; c was st and go -/
theorem q_turn {st go ot : Qt} (h1 : qtok st) (h2 : qtok go) (h3 : qtok ot) (d1 : qts st &&& qts go = 0) (d2 : qts st &&& qts ot = 0) (d3 : qts go &&& qts ot = 0) :
    qtok (qjo st (qjo go ot)) ∧ qts (qjo st (qjo go ot)) = qts st ||| (qts go ||| qts ot) ∧
    ∀ x, qpf (qjo st (qjo go ot)) x = if x = qts st ||| (qts go ||| qts ot) then qfst (qts st) (qts go ||| qts ot) else if x = qts go ||| qts ot then qfst (qts go) (qts ot) else qpf st x + qpf go x + qpf ot x := by
  obtain ⟨a1, a2, a3⟩ := qjo_q h2 h3 d3
  have dd : qts st &&& qts (qjo go ot) = 0 := by rw [a2, Nat.and_or_distrib_left, d1, d2]; rfl
  obtain ⟨b1, b2, b3⟩ := qjo_q h1 a1 dd
  rw [a2] at b2 b3
  refine ⟨b1, b2, ?_⟩
  intro x
  rw [b3 x, a3 x]
  by_cases e1 : x = qts st ||| (qts go ||| qts ot)
  · rw [if_pos e1, if_pos e1]
  · rw [if_neg e1, if_neg e1]
    by_cases e2 : x = qts go ||| qts ot
    · rw [if_pos e2, if_pos e2]
      have : qpf st x = 0 := by
        apply qpf_big h1
        intro e
        have l2 := qts_lt (qjo go ot) a1
        rw [a2] at l2
        rw [a2] at dd
        rw [e2] at e
        exact l2.2 (q_disj dd e (Nat.and_self _))
      rw [this, Nat.zero_add]
    · rw [if_neg e2, if_neg e2]; omega
theorem q_or3 (a b c : Nat) : (a ||| b) ||| c = a ||| (b ||| c) := Nat.or_assoc a b c
/-- the tree where a move was made -/
def qmw (s c kind : Nat) (t : Qt) : Qt :=
  match qsb s t with
  | .var _ => t
  | .op L R =>
    match (if qts L = c then L else R) with
    | .var _ => t
    | .op x y =>
      let ot := if qts L = c then R else L
      qrp s (if kind = 0 then qjo x (qjo y ot) else qjo y (qjo x ot)) t
theorem qmw_q {t : Qt} (h : qtok t) {s c : Nat} (hs : qpf t s ≠ 0) (hc : c = qpf t s ∨ c = s ^^^ qpf t s) (hc1 : qone c = false) (kind : Nat) :
    qtok (qmw s c kind t) ∧ qts (qmw s c kind t) = qts t ∧ qpf t c ≠ 0 ∧
    ∀ st go ot, st = (if kind = 0 then qpf t c else c ^^^ qpf t c) → go = c ^^^ st → ot = s ^^^ c →
      (st < 256 ∧ st ≠ 0 ∧ go < 256 ∧ go ≠ 0 ∧ ot < 256 ∧ ot ≠ 0 ∧ st &&& go = 0 ∧ st &&& ot = 0 ∧ go &&& ot = 0 ∧ s < 256 ∧ c < 256 ∧ c ||| ot = s ∧ st ||| (go ||| ot) = s ∧ st ||| go = c ∧ c &&& ot = 0) ∧ qpf t (go ||| ot) = 0 ∧
      qfst st go = qpf t c ∧ qfst c ot = qpf t s ∧
      ∀ x, qpf (qmw s c kind t) x = if x = s then qfst st (go ||| ot) else if x = go ||| ot then qfst go ot else if x = c then 0 else qpf t x := by
  obtain ⟨L, R, e1, e2, e3⟩ := qsb_q t h s hs
  have hLR := e2.1
  have hoLR := qtok_op hLR
  have hsub := qpf_sub t h s hs
  have hps : qpf t s = qts L := by
    have := e2.2 s (by show s &&& (qts L ||| qts R) = s; rw [e3]; exact Nat.and_self _) hsub.2.1
    rw [this, ← e3]
    exact qpf_root
  have hxR : s ^^^ qts L = qts R := by rw [← e3]; exact hoLR.2.1
  rw [hps, hxR] at hc
  have neLR : qts L ≠ qts R := by
    intro e
    have := hLR.2.2.1
    rw [e, Nat.and_self] at this
    exact (qts_lt R hLR.2.1).2 this
  -- the part that is turned, and the other one
  obtain ⟨C, O, hC, hO, hcC, hcO, dCO, hagC, hpick⟩ : ∃ C O : Qt, qtok C ∧ qtok O ∧ c = qts C ∧ s ^^^ c = qts O ∧ qts C &&& qts O = 0 ∧ (∀ x, x &&& qts C = x → x ≠ 0 → qpf t x = qpf C x) ∧
      (((if qts L = c then L else R) = C ∧ (if qts L = c then R else L) = O) ∧ (∀ x, qpf (.op L R) x = if x = s then qts L else qpf C x + qpf O x) ∧ qfst c (qts O) = qts L ∧ qts C ||| qts O = s) := by
    rcases hc with hc | hc
    · refine ⟨L, R, hLR.1, hLR.2.1, hc, by rw [hc]; exact hxR, hLR.2.2.1, ?_, ⟨by rw [if_pos hc.symm], by rw [if_pos hc.symm]⟩, ?_, ?_, e3⟩
      · intro x hx x0
        rw [e2.2 x (q_sub_trans hx (q_or_sub_l _ _)) x0, qpf_l hLR hx x0]
      · intro x; rw [← e3]; rfl
      · unfold qfst
        rw [hc]
        have lL := qts_lt L hLR.1
        have lR := qts_lt R hLR.2.1
        rcases qlow_dis _ _ lL.1 lR.1 lL.2 lR.2 hLR.2.2.1 with ⟨k1, k2⟩ | ⟨k1, k2⟩
        · rw [if_pos k1]
        · exfalso
          have := hLR.2.2.2
          rw [k2] at this
          have hb := qlow_sub _ lR.1
          have hz := q_disj hLR.2.2.1 this hb
          exact lR.2 (qlow_0 _ lR.1 hz)
    · refine ⟨R, L, hLR.2.1, hLR.1, hc, by rw [hc, ← hxR]; exact q_xor_xor, by rw [Nat.and_comm]; exact hLR.2.2.1, ?_, ⟨by rw [if_neg (by rw [hc]; exact neLR)], by rw [if_neg (by rw [hc]; exact neLR)]⟩, ?_, ?_, by rw [Nat.or_comm]; exact e3⟩
      · intro x hx x0
        rw [e2.2 x (q_sub_trans hx (q_or_sub_r _ _)) x0, qpf_r hLR hx x0]
      · intro x; rw [← e3, Nat.add_comm]; rfl
      · unfold qfst
        rw [hc]
        have lL := qts_lt L hLR.1
        have lR := qts_lt R hLR.2.1
        rcases qlow_dis _ _ lL.1 lR.1 lL.2 lR.2 hLR.2.2.1 with ⟨k1, k2⟩ | ⟨k1, k2⟩
        · rw [if_neg (by omega)]
        · exfalso
          have := hLR.2.2.2
          rw [k2] at this
          have hb := qlow_sub _ lR.1
          have hz := q_disj hLR.2.2.1 this hb
          exact lR.2 (qlow_0 _ lR.1 hz)
  obtain ⟨⟨hp1, hp2⟩, hpfLR, hfco, hCO⟩ := hpick
  have lC := qts_lt C hC
  have lO := qts_lt O hO
  cases C with
  | var r =>
    exfalso
    rw [hcC] at hc1
    have : ∀ r, r < 8 → qone (2 ^ r) = true := by decide
    rw [show qts (.var r) = 2 ^ r from rfl, this r hC] at hc1
    cases hc1
  | op x y =>
    have hoC := qtok_op hC
    have hpc : qpf t c = qts x := by
      rw [hcC, hagC _ (Nat.and_self _) lC.2]
      exact qpf_root
    have hcy : c ^^^ qts x = qts y := by rw [hcC]; exact hoC.2.1
    have lx := qts_lt x hC.1
    have ly := qts_lt y hC.2.1
    have dxO : qts x &&& qts O = 0 := by
      have : (qts x ||| qts y) &&& qts O = 0 := dCO
      rw [Nat.and_or_distrib_right] at this
      exact (Nat.or_eq_zero_iff.mp this).1
    have dyO : qts y &&& qts O = 0 := by
      have : (qts x ||| qts y) &&& qts O = 0 := dCO
      rw [Nat.and_or_distrib_right] at this
      exact (Nat.or_eq_zero_iff.mp this).2
    have hmw : qmw s c kind t = qrp s (if kind = 0 then qjo x (qjo y O) else qjo y (qjo x O)) t := by
      unfold qmw
      rw [e1]
      simp only [hp1, hp2]
    have hsO : (qts x ||| qts y) ||| qts O = s := hCO
    have hxy : qlow (qts x) < qlow (qts y) := by
      rcases qlow_dis _ _ lx.1 ly.1 lx.2 ly.2 hC.2.2.1 with ⟨k1, k2⟩ | ⟨k1, k2⟩
      · exact k1
      · exfalso
        have := hC.2.2.2
        rw [k2] at this
        have hb := qlow_sub _ ly.1
        exact ly.2 (qlow_0 _ ly.1 (q_disj hC.2.2.1 this hb))
    -- what holds whichever of the two stays
    have main : ∀ (S G : Qt), qtok S → qtok G → qts S &&& qts G = 0 → qts S &&& qts O = 0 → qts G &&& qts O = 0 → qts S ||| qts G = c → (∀ z, qpf (.op x y) z = if z = c then qts x else qpf S z + qpf G z) →
        qmw s c kind t = qrp s (qjo S (qjo G O)) t →
        qtok (qmw s c kind t) ∧ qts (qmw s c kind t) = qts t ∧ qts S ||| (qts G ||| qts O) = s ∧ qpf t (qts G ||| qts O) = 0 ∧
        ∀ z, qpf (qmw s c kind t) z = if z = s then qfst (qts S) (qts G ||| qts O) else if z = qts G ||| qts O then qfst (qts G) (qts O) else if z = c then 0 else qpf t z := by
      intro S G hS hG d1 d2 d3 hSG hz hm
      have hsS : qts S ||| (qts G ||| qts O) = s := by rw [← Nat.or_assoc, hSG, hcC]; exact hsO
      obtain ⟨t1, t2, t3⟩ := q_turn hS hG hO d1 d2 d3
      rw [hsS] at t2 t3
      obtain ⟨r1, r2, r3⟩ := qrp_q s _ t1 t2 t h hs
      have lS := qts_lt S hS
      have lG := qts_lt G hG
      have hgo0 : qts G ||| qts O ≠ 0 := by have := @Nat.left_le_or (qts G) (qts O); omega
      have hgosub : (qts G ||| qts O) &&& s = qts G ||| qts O := by rw [← hsS]; exact q_or_sub_r _ _
      have hgones : qts G ||| qts O ≠ s := by
        intro e
        have : qts S &&& (qts G ||| qts O) = qts S := by rw [e, ← hsS]; exact q_or_sub_l _ _
        rw [Nat.and_or_distrib_left, d1, d2] at this
        exact lS.2 this.symm
      have hgoc : ¬ ((qts G ||| qts O) &&& c = qts G ||| qts O) := by
        intro e
        have h1 : qts O &&& c = qts O := q_sub_trans (q_or_sub_r _ _) e
        rw [hcC, Nat.and_comm, dCO] at h1
        exact lO.2 h1.symm
      have hgnec : qts G ||| qts O ≠ c := fun e => hgoc (by rw [e]; exact Nat.and_self _)
      have hcs : c ≠ s := by
        intro e
        have : qts O &&& c = qts O := by rw [e, ← hCO]; exact q_or_sub_r _ _
        rw [hcC, Nat.and_comm, dCO] at this
        exact lO.2 this.symm
      have hag : ∀ z, z &&& s = z → z ≠ 0 → qpf t z = if z = s then qts L else (if z = c then qts x else qpf S z + qpf G z) + qpf O z := by
        intro z hz1 z0
        rw [e2.2 z (by show z &&& (qts L ||| qts R) = z; rw [e3]; exact hz1) z0, hpfLR z, hz z]
      refine ⟨by rw [hm]; exact r1, by rw [hm]; exact r2, hsS, ?_, ?_⟩
      · rw [hag _ hgosub hgo0, if_neg hgones, if_neg hgnec]
        have a1 : qpf S (qts G ||| qts O) = 0 := by
          apply qpf_big hS
          intro e
          have h1 : qts O &&& qts S = qts O := q_sub_trans (q_or_sub_r _ _) e
          rw [Nat.and_comm, d2] at h1
          exact lO.2 h1.symm
        have a2 : qpf G (qts G ||| qts O) = 0 := by
          apply qpf_big hG
          intro e
          have h1 : qts O &&& qts G = qts O := q_sub_trans (q_or_sub_r _ _) e
          rw [Nat.and_comm, d3] at h1
          exact lO.2 h1.symm
        have a3 : qpf O (qts G ||| qts O) = 0 := by
          apply qpf_big hO
          intro e
          have h1 : qts G &&& qts O = qts G := q_sub_trans (q_or_sub_l _ _) e
          rw [d3] at h1
          exact lG.2 h1.symm
        rw [a1, a2, a3]
      · intro z
        rw [hm, r3 z]
        by_cases hin : z &&& s = z ∧ z ≠ 0
        · rw [if_pos hin, t3 z]
          by_cases z1 : z = s
          · rw [if_pos z1, if_pos z1]
          · rw [if_neg z1, if_neg z1]
            by_cases z2 : z = qts G ||| qts O
            · rw [if_pos z2, if_pos z2]
            · rw [if_neg z2, if_neg z2]
              by_cases z3 : z = c
              · rw [if_pos z3, z3]
                have b1 : qpf S c = 0 := by
                  apply qpf_big hS
                  intro e
                  have h1 : qts G &&& qts S = qts G := q_sub_trans (by rw [← hSG]; exact q_or_sub_r _ _) e
                  rw [Nat.and_comm, d1] at h1
                  exact lG.2 h1.symm
                have b2 : qpf G c = 0 := by
                  apply qpf_big hG
                  intro e
                  have h1 : qts S &&& qts G = qts S := q_sub_trans (by rw [← hSG]; exact q_or_sub_l _ _) e
                  rw [d1] at h1
                  exact lS.2 h1.symm
                have b3 : qpf O c = 0 := by
                  apply qpf_big hO
                  intro e
                  rw [hcC, dCO] at e
                  exact lC.2 e.symm
                rw [b1, b2, b3]
              · rw [if_neg z3, hag z hin.1 hin.2, if_neg z1, if_neg z3]
        · rw [if_neg hin]
          have n1 : z ≠ s := fun e => hin ⟨by rw [e]; exact Nat.and_self _, by rw [e]; exact hsub.2.1⟩
          have n2 : z ≠ qts G ||| qts O := fun e => hin ⟨by rw [e]; exact hgosub, by rw [e]; exact hgo0⟩
          have n3 : z ≠ c := fun e => hin ⟨by rw [e, hcC, ← hCO]; exact q_or_sub_l _ _, by rw [e, hcC]; exact lC.2⟩
          rw [if_neg n1, if_neg n2, if_neg n3]
    have hfxy : qfst (qts x) (qts y) = qts x := if_pos hxy
    have hfyx : qfst (qts y) (qts x) = qts x := if_neg (by omega)
    have hcxy : qts x ||| qts y = c := hcC.symm
    by_cases hk : kind = 0
    · have M := main x y hC.1 hC.2.1 hC.2.2.1 dxO dyO hcxy (fun z => by rw [hcC]; rfl) (by rw [hmw, if_pos hk])
      refine ⟨M.1, M.2.1, by rw [hpc]; exact lx.2, ?_⟩
      intro st go ot hst hgo hot
      rw [if_pos hk, hpc] at hst
      have hgo' : go = qts y := by rw [hgo, hst]; exact hcy
      have hot' : ot = qts O := by rw [hot]; exact hcO
      subst hst
      rw [hgo', hot', hpc]
      exact ⟨⟨lx.1, lx.2, ly.1, ly.2, lO.1, lO.2, hC.2.2.1, dxO, dyO, hsub.2.2.1, by rw [hcC]; exact lC.1, by rw [hcC]; exact hCO, M.2.2.1, hcxy, by rw [hcC]; exact dCO⟩, M.2.2.2.1, hfxy, by rw [hfco, hps], M.2.2.2.2⟩
    · have M := main y x hC.2.1 hC.1 (by rw [Nat.and_comm]; exact hC.2.2.1) dyO dxO (by rw [Nat.or_comm]; exact hcxy) (fun z => by rw [hcC, Nat.add_comm]; rfl) (by rw [hmw, if_neg hk])
      refine ⟨M.1, M.2.1, by rw [hpc]; exact lx.2, ?_⟩
      intro st go ot hst hgo hot
      rw [if_neg hk, hpc, hcy] at hst
      have hgo' : go = qts x := by rw [hgo, hst, ← hcy]; exact q_xor_xor
      have hot' : ot = qts O := by rw [hot]; exact hcO
      subst hst
      rw [hgo', hot', hpc]
      exact ⟨⟨ly.1, ly.2, lx.1, lx.2, lO.1, lO.2, by rw [Nat.and_comm]; exact hC.2.2.1, dyO, dxO, hsub.2.2.1, by rw [hcC]; exact lC.1, by rw [hcC]; exact hCO, M.2.2.1, by rw [Nat.or_comm]; exact hcxy, by rw [hcC]; exact dCO⟩, M.2.2.2.1, hfyx, by rw [hfco, hps], M.2.2.2.2⟩
