theorem q_nodup_le {α : Type} : ∀ (X Y : List α), X.Nodup → (∀ a, a ∈ X → a ∈ Y) → X.length ≤ Y.length := by
  intro X
  induction X with
  | nil => intro Y _ _; exact Nat.zero_le _
  | cons a X ih =>
    intro Y hn hs
    obtain ⟨s, t, e⟩ := List.append_of_mem (hs a (List.mem_cons_self ..))
    have hn' := List.nodup_cons.mp hn
    have := ih (s ++ t) hn'.2 (fun b hb => by
      have h1 := hs b (List.mem_cons_of_mem _ hb)
      rw [e] at h1
      rcases List.mem_append.mp h1 with h | h
      · exact List.mem_append_left _ h
      · rcases List.mem_cons.mp h with h | h
        · exact absurd (h ▸ hb) hn'.1
        · exact List.mem_append_right _ h)
    rw [e]
    simp at this ⊢
    omega
theorem qjn_mono {g : Qg} {a b A B : Nat} (h : qjn g a b = true) (ha : a &&& A = a) (hb : b &&& B = b) : qjn g A B = true := by
  obtain ⟨e, he, hc⟩ := qjn_t.mp h
  refine qjn_t.mpr ⟨e, he, ?_⟩
  unfold qjc at hc ⊢
  simp only [Bool.or_eq_true, Bool.and_eq_true, qsub_t] at hc ⊢
  rcases hc with ⟨h1, h2⟩ | ⟨h1, h2⟩
  · exact .inl ⟨q_sub_trans h1 ha, q_sub_trans h2 hb⟩
  · exact .inr ⟨q_sub_trans h1 hb, q_sub_trans h2 ha⟩
def qterm (g : Qg) (T : List Nat) : Prop := ∀ c d, c ∈ T → d ∈ T → c ≠ d → qjn g c d = false
def qcov (n : Nat) (T : List Nat) : Prop := ∀ r, r < n → ∃ t, t ∈ T ∧ t.testBit r = true
def qref (X T : List Nat) : Prop := ∀ x, x ∈ X → ∃ t, t ∈ T ∧ x &&& t = x
def qdj (X : List Nat) : Prop := (∀ x, x ∈ X → x ≠ 0) ∧ X.Pairwise (fun a b => a &&& b = 0)
/-- X came from the relations by joinings of joined ones alone -/
def qX (g : Qg) (X : List Nat) : Prop := qdj X ∧ qcov (qn g) X ∧ ∀ T, qcov (qn g) T → qterm g T → qref X T
theorem qref_m {g : Qg} {T : List Nat} (ht : qterm g T) {a b : Nat} (ha : ∃ t, t ∈ T ∧ a &&& t = a) (hb : ∃ t, t ∈ T ∧ b &&& t = b) (h : qjn g a b = true) : ∃ t, t ∈ T ∧ (a ||| b) &&& t = a ||| b := by
  obtain ⟨s, hs, h1⟩ := ha
  obtain ⟨t, htt, h2⟩ := hb
  have hj := qjn_mono h h1 h2
  have e : s = t := by
    by_cases e : s = t
    · exact e
    · rw [ht s t hs htt e] at hj; cases hj
  subst e
  refine ⟨s, hs, q_sub_of fun i hi => ?_⟩
  simp at hi
  rcases hi with h | h
  · exact q_tb h1 i h
  · exact q_tb h2 i h
theorem qX_len {g : Qg} {X Y : List Nat} (hX : qX g X) (hY : qX g Y) (tX : qterm g X) (tY : qterm g Y) : X.length = Y.length := by
  have nodup : ∀ X, qdj X → X.Nodup := by
    intro X h
    refine List.Pairwise.imp_of_mem ?_ h.2
    intro a b ha hb hab e
    subst e
    rw [Nat.and_self] at hab
    exact h.1 a ha hab
  have inj : ∀ X, qdj X → ∀ a b, a ∈ X → b ∈ X → a &&& b = a → a = b := by
    intro X h a b ha hb e
    induction X with
    | nil => cases ha
    | cons w X ih =>
      have hp := List.pairwise_cons.mp h.2
      rcases List.mem_cons.mp ha with rfl | ha' <;> rcases List.mem_cons.mp hb with rfl | hb'
      · rfl
      · have := hp.1 b hb'
        rw [e] at this
        exact absurd this (h.1 a (by simp))
      · have := hp.1 a ha'
        rw [Nat.and_comm, e] at this
        exact absurd this (h.1 a (by simp [ha']))
      · exact ih ⟨fun x hx => h.1 x (List.mem_cons_of_mem _ hx), hp.2⟩ ha' hb'
  have sub : ∀ X Y, qX g X → qX g Y → qterm g X → qterm g Y → ∀ a, a ∈ X → a ∈ Y := by
    intro X Y hX hY tX tY a ha
    obtain ⟨y, hy, h1⟩ := hX.2.2 Y hY.2.1 tY a ha
    obtain ⟨x, hx, h2⟩ := hY.2.2 X hX.2.1 tX y hy
    have e := inj X hX.1 a x ha hx (q_sub_trans h1 h2)
    subst e
    have l1 := q_sub_le h1
    have l2 := q_sub_le h2
    have : a = y := by omega
    rw [this]; exact hy
  exact Nat.le_antisymm (q_nodup_le X Y (nodup X hX.1) (sub X Y hX hY tX tY)) (q_nodup_le Y X (nodup Y hY.1) (sub Y X hY hX tY tX))
theorem qX_perm {g : Qg} {X Y : List Nat} (h : qX g X) (e : X.Perm Y) : qX g Y := by
  obtain ⟨⟨h1, h2⟩, h3, h4⟩ := h
  refine ⟨⟨fun x hx => h1 x (e.mem_iff.mpr hx), (e.pairwise_iff (fun {a b} h => by rw [Nat.and_comm]; exact h)).mp h2⟩, ?_, ?_⟩
  · intro r hr
    obtain ⟨t, ht, hb⟩ := h3 r hr
    exact ⟨t, e.mem_iff.mp ht, hb⟩
  · intro T hT tT x hx
    exact h4 T hT tT x (e.mem_iff.mpr hx)
theorem qX_step {g : Qg} {a b : Nat} {r : List Nat} (h : qX g (a :: b :: r)) (hj : qjn g a b = true) : qX g ((a ||| b) :: r) := by
  obtain ⟨⟨h1, h2⟩, h3, h4⟩ := h
  have p1 := List.pairwise_cons.mp h2
  have p2 := List.pairwise_cons.mp p1.2
  refine ⟨⟨?_, ?_⟩, ?_, ?_⟩
  · intro x hx
    rcases List.mem_cons.mp hx with rfl | hx
    · have := h1 a (by simp)
      have := @Nat.left_le_or a b
      omega
    · exact h1 x (by simp [hx])
  · refine List.pairwise_cons.mpr ⟨?_, p2.2⟩
    intro v hv
    rw [Nat.and_or_distrib_right, p1.1 v (by simp [hv]), p2.1 v hv]; rfl
  · intro k hk
    obtain ⟨t, ht, hb⟩ := h3 k hk
    rcases List.mem_cons.mp ht with rfl | ht
    · exact ⟨_, List.mem_cons_self .., by simp [hb]⟩
    · rcases List.mem_cons.mp ht with rfl | ht
      · exact ⟨_, List.mem_cons_self .., by simp [hb]⟩
      · exact ⟨t, List.mem_cons_of_mem _ ht, hb⟩
  · intro T hT tT x hx
    have hh := h4 T hT tT
    rcases List.mem_cons.mp hx with rfl | hx
    · exact qref_m tT (hh a (by simp)) (hh b (by simp)) hj
    · exact hh x (by simp [hx])
theorem qX_ini (g : Qg) : qX g ((List.range (qn g)).map (fun r => 2 ^ r)) := by
  refine ⟨⟨?_, ?_⟩, ?_, ?_⟩
  · intro x hx
    obtain ⟨r, _, rfl⟩ := List.mem_map.mp hx
    exact Nat.ne_of_gt (Nat.two_pow_pos r)
  · rw [List.pairwise_map]
    exact (List.pairwise_lt_range (n := qn g)).imp (fun {a b} hab => q_pow_and (by omega))
  · intro r hr
    exact ⟨2 ^ r, List.mem_map.mpr ⟨r, List.mem_range.mpr hr, rfl⟩, by simp⟩
  · intro T hT _ x hx
    obtain ⟨r, hr, rfl⟩ := List.mem_map.mp hx
    obtain ⟨t, ht, hb⟩ := hT r (List.mem_range.mp hr)
    refine ⟨t, ht, q_sub_of fun i hi => ?_⟩
    rw [Nat.testBit_two_pow] at hi
    simp at hi
    subst hi
    exact hb
theorem qini_sets (n : Nat) : (qini n).map qts = (List.range n).map (fun r => 2 ^ r) := by
  unfold qini
  rw [List.map_map]
  rfl
theorem A_mergeJoined_q {g : Qg} {li ri cp pa sp : Nat → Int32} {sz : Nat → Int64} (hg : qGok g) (hS : qSets g li ri) (hz : qSz g cp sz (2 ^ qn g)) (mn pf ps : Int32) (N : Nat) (hN : 300 < N) :
    ∃ X, qX g X ∧ qterm g X ∧ X.length ≤ 8 ∧ ∃ m' pf' ps' pa' sp', A_mergeJoined N (qi (qn g)) mn pf ps li ri sz pa sp = some (qi X.length, m', pf', ps', pa', sp') := by
  have hn := hg.1
  have hp0 := Nat.two_pow_pos (qn g)
  obtain ⟨pa0, e0, hpa0⟩ := A_begin_q (qn g) hn mn pa N hN
  -- the split of the parts is of no account here: of parts that are single relations there is nothing to tell
  have key := qlp_dn (body := fun y : Int32 × Int32 × Int32 × (Nat → Int32) × (Nat → Int32) × Int32 => A_mergeJoined_b10 N (qi (qn g)) y.1 y.2.1 y.2.2.1 li ri sz y.2.2.2.1 y.2.2.2.2.1 y.2.2.2.2.2)
    (Inv := fun m y => ∃ P, qfo P ∧ qsrt P ∧ P.length = m ∧ m ≤ 8 ∧ qun P = 2 ^ qn g - 1 ∧ qarr y.2.2.2.1 P ∧ qspl2 y.2.2.2.2.1 P ∧ y.1 = qi m ∧ y.2.2.2.2.2 = qi m ∧ qX g (P.map qts))
    (Q := fun y => ∃ X, qX g X ∧ qterm g X ∧ X.length ≤ 8 ∧ ((∃ a2 a3 a4 a5, y = .inl (qi X.length, a2, a3, a4, a5)) ∨ (∃ a2 a3 a4 a5, y = .inr (qi X.length, a2, a3, a4, a5)))) ?_ (qn g) (qi (qn g), pf, ps, pa0, sp, qi (qn g)) ?_ N (by omega)
  · obtain ⟨y, e, X, q1, q2, q3, q4⟩ := key
    refine ⟨X, q1, q2, q3, ?_⟩
    rcases q4 with ⟨a2, a3, a4, a5, rfl⟩ | ⟨a2, a3, a4, a5, rfl⟩
    · refine ⟨qi X.length, a2, a3, a4, a5, ?_⟩
      unfold A_mergeJoined A_mergeJoined_10
      rw [e0, db_some, e]
      rfl
    · refine ⟨qi X.length, a2, a3, a4, a5, ?_⟩
      unfold A_mergeJoined A_mergeJoined_10
      rw [e0, db_some, e]
      rfl
  · rintro m ⟨a1, a2, a3, a4, a5, a6⟩ ⟨P, p1, p2, p3, p4, p5, p6, p7, p8, p9, p10⟩
    simp only at p6 p7 p8 p9
    subst p8
    subst p9
    by_cases hm : m ≤ 1
    · right
      refine ⟨.inr (qi m, a2, a3, a4, a5), ?_, P.map qts, p10, ?_, by simp; omega, .inr ⟨a2, a3, a4, a5, by simp [p3]⟩⟩
      · simp (disch := omega) only [A_mergeJoined_b10, qi_lit, qi_m1, qi_add, qi_mul, qi_and, qi_or, qi_xor, qi_not, qi_shl, qi_shr, qi_and31, qi_nat, qi_inb, qi_eq, qi_lt, qi_le, qi_sub, if_pos hm]
      · intro c d hc hd hne
        exfalso
        have hl : (P.map qts).length ≤ 1 := by simp; omega
        cases hX : P.map qts with
        | nil => rw [hX] at hc; cases hc
        | cons w l =>
          rw [hX] at hc hd hl
          have : l = [] := by simpa using hl
          subst this
          simp at hc hd
          exact hne (hc.trans hd.symm)
    · obtain ⟨f, s, a, b, rest, P', hf, hs, ep, ef, es, perm, lo, mi, perm', pa', sp', em, q1, q2, q3, q4⟩ := A_step_q (pa := a4) (sp := a5) hg hS hz P p1 p2 (by omega) (by omega) (by omega) p6 p7 a2 a3 N hN
      rw [p3] at ep em
      have aP : a ∈ P := perm.mem_iff.mpr (by simp)
      have bP : b ∈ P := perm.mem_iff.mpr (by simp)
      have al := q_sets_lt (n := qn g) (by omega) a aP
      have bl := q_sets_lt (n := qn g) (by omega) b bP
      have jo := S_areJoined_q hg hS (qts a) (qts b) al bl
      rcases q_dich (qjn g (qts a) (qts b)) with k | k
      · right
        refine ⟨.inl (qi m, qi f, qi s, a4, a5), ?_, P.map qts, p10, ?_, by simp; omega, .inl ⟨qi f, qi s, a4, a5, by simp [p3]⟩⟩
        · simp (disch := omega) only [A_mergeJoined_b10, qi_lit, qi_m1, qi_add, qi_mul, qi_and, qi_or, qi_xor, qi_not, qi_shl, qi_shr, qi_and31, qi_nat, qi_inb, qi_eq, qi_lt, qi_le, qi_sub, dn, db_some, dk_t, if_neg hm, ep, ef, es, jo, qb_0, k, if_true]
        · have core : ∀ c d, c ∈ P → d ∈ P → c ≠ d → qlow (qts c) < qlow (qts d) → qjn g (qts c) (qts d) = false := by
            intro c d hc hd hne hl
            have h1 := mi c d hc hd hne hl
            rcases q_dich (qjn g (qts c) (qts d)) with kk | kk
            · exact kk
            · have := qky_j hg kk k (qts_lt c (p1.1 c hc)).1 (qts_lt d (p1.1 d hd)).1
              omega
          intro c d hc hd hne
          obtain ⟨u, hu, rfl⟩ := List.mem_map.mp hc
          obtain ⟨v, hv, rfl⟩ := List.mem_map.mp hd
          have huv : u ≠ v := fun e => hne (by rw [e])
          have lu := qts_lt u (p1.1 u hu)
          have lv := qts_lt v (p1.1 v hv)
          rcases qlow_dis _ _ lu.1 lv.1 lu.2 lv.2 (qfo_dis p1 hu hv huv) with ⟨h, _⟩ | ⟨h, _⟩
          · exact core u v hu hv huv h
          · rw [qjn_comm]; exact core v u hv hu (fun e => huv e.symm) h
      · left
        refine ⟨(qi P'.length, qi f, qi s, pa', sp', qi (m - 1)), m - 1, ?_, ⟨P', qst_fo p1 ⟨a, b, rest, perm, lo, mi, perm'⟩, q3, by omega, by omega, ?_, q1, q2, by simp only []; congr 1; omega, rfl, ?_⟩, by omega⟩
        · have hd := qi_dec m (by omega)
          simp (disch := omega) only [A_mergeJoined_b10, qi_lit, qi_m1, qi_add, qi_mul, qi_and, qi_or, qi_xor, qi_not, qi_shl, qi_shr, qi_and31, qi_nat, qi_inb, qi_eq, qi_lt, qi_le, qi_sub, dn, db_some, dk_t, if_neg hm, ep, ef, es, jo, qb_0, k, em, hd, reduceCtorEq, if_false]
        · rw [qun_perm perm', qun_step, ← qun_perm perm]; exact p5
        · have h1 := qX_perm p10 (perm.map qts)
          have h2 := qX_step h1 k
          exact qX_perm h2 (perm'.map qts).symm
  · refine ⟨qini (qn g), qini_fo _ hn, qini_srt _ hn, qini_len _, by omega, qini_un _ hn, qini_arr _ _ hpa0, ?_, rfl, rfl, ?_⟩
    · intro u hu y hy
      obtain ⟨r, hr, rfl⟩ := List.mem_map.mp hu
      cases hy
    · rw [qini_sets]; exact qX_ini g
