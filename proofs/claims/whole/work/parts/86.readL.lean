def qdsr (wi : Nat → Int32) : List Nat → Prop
  | [] => True
  | c :: cs => wi cs.length = qi c ∧ qdsr wi cs
def qwsr (wa : Nat → Int32) : List Qt → Prop
  | [] => True
  | u :: us => wa us.length = qi (qts u) ∧ qwsr wa us
theorem qdsr_f {wi wi' : Nat → Int32} : ∀ l, qdsr wi l → (∀ i, i < l.length → wi' i = wi i) → qdsr wi' l := by
  intro l
  induction l with
  | nil => intro _ _; trivial
  | cons c l ih =>
    rintro ⟨h1, h2⟩ e
    exact ⟨by rw [e _ (by simp)]; exact h1, ih h2 (fun i hi => e i (by simp; omega))⟩
theorem qwsr_f {wi wi' : Nat → Int32} : ∀ l, qwsr wi l → (∀ i, i < l.length → wi' i = wi i) → qwsr wi' l := by
  intro l
  induction l with
  | nil => intro _ _; trivial
  | cons c l ih =>
    rintro ⟨h1, h2⟩ e
    exact ⟨by rw [e _ (by simp)]; exact h1, ih h2 (fun i hi => e i (by simp; omega))⟩
theorem qdsr_hd {wi : Nat → Int32} {ds : List Nat} (h : qdsr wi ds) (hne : ds ≠ []) : wi (qdp ds) = qi (qhd ds) := by
  cases ds with
  | nil => exact absurd rfl hne
  | cons c r => exact h.1
theorem qhd_le {ds : List Nat} {p : Nat} (h : qDok ds p) : qhd ds ≤ 2 := by
  cases ds with
  | nil => exact absurd rfl h.1
  | cons c r => exact h.2.2.1 c (by simp)
theorem L_canStand_q {ds : List Nat} {p k : Nat} (h : qDok ds p) (hp : p ≤ 500) (wi : Nat → Int32) (hw : qdsr wi ds) (hk : k ≤ 10) : L_canStand (qi (qdp ds)) wi (qi k) = some (qi (qcs ds k).toNat) := by
  have hh := qhd_le h
  have hd := qdsr_hd hw h.1
  have hdp := h.2.1
  have e12 : ∀ z, z ≤ 2 → L_canStand_12 (qi (qdp ds)) wi (qi k) (qi z) = L_canStand_31 (qi (qdp ds)) wi (qi k) (qi (decide (qhd ds = z)).toNat) := by
    intro z hz
    simp (disch := omega) only [L_canStand_12, qi_lit, qi_m1, qi_add, qi_mul, qi_and, qi_or, qi_xor, qi_not, qi_shl, qi_shr, qi_and31, qi_nat, qi_inb, qi_eq, qi_lt, qi_le, qi_sub, dn, db_some, dk_t, hd]
    by_cases c : qhd ds = z
    · rw [if_pos c, decide_eq_true c]; rfl
    · rw [if_neg c, decide_eq_false c]; rfl
  have e31 : ∀ f : Bool, L_canStand_31 (qi (qdp ds)) wi (qi k) (qi f.toNat) = some (qi (if k = 0 then f && decide (qdp ds = 0) else if k = 1 ∨ k = 4 then !f && decide (qdp ds < 500) else if k = 5 then f && decide (0 < qdp ds) else false).toNat) := by
    intro f
    simp (disch := omega) only [L_canStand_31, qi_lit, qi_m1, qi_add, qi_mul, qi_and, qi_or, qi_xor, qi_not, qi_shl, qi_shr, qi_and31, qi_nat, qi_inb, qi_eq, qi_lt, qi_le, qi_sub, qb_0]
    have hk' : k = 0 ∨ k = 1 ∨ k = 2 ∨ k = 3 ∨ k = 4 ∨ k = 5 ∨ k = 6 ∨ k = 7 ∨ k = 8 ∨ k = 9 ∨ k = 10 := by omega
    rcases hk' with rfl | rfl | rfl | rfl | rfl | rfl | rfl | rfl | rfl | rfl | rfl <;> cases f <;> simp
    · split <;> simp_all
    · by_cases c : 500 ≤ qdp ds
      · have : ¬ qdp ds < 500 := by omega
        simp [c, this]
      · have : qdp ds < 500 := by omega
        simp [c, this]
    · by_cases c : 500 ≤ qdp ds
      · have : ¬ qdp ds < 500 := by omega
        simp [c, this]
      · have : qdp ds < 500 := by omega
        simp [c, this]
    · by_cases c : qdp ds = 0
      · simp [c]
      · have : 0 < qdp ds := by omega
        simp [c, this]
  unfold L_canStand
  by_cases c0 : qdp ds = 0
  · rw [if_pos (show qi (qdp ds) = (0 : Int32) by rw [c0]; rfl), show (1 : Int32) = qi 1 from rfl, e12 1 (by omega), e31]
    unfold qcs qfl
    rw [if_pos c0]
  · rw [if_neg (show ¬ (qi (qdp ds) = (0 : Int32)) from fun e => c0 ((qi_eq _ 0 (by omega) (by omega)).mp e)), show (2 : Int32) = qi 2 from rfl, e12 2 (by omega), e31]
    unfold qcs qfl
    rw [if_neg c0]
theorem L_pass_q {ds : List Nat} {p k : Nat} (h : qDok ds p) (hp : p ≤ 500) (wi : Nat → Int32) (hw : qdsr wi ds) (hk : k ≤ 10) (hc : qcs ds k = true) : ∃ wi', L_pass (qi (qdp ds)) wi (qi k) = some (qi (qdp (qpps ds k)), wi') ∧ qdsr wi' (qpps ds k) := by
  have hdp := h.2.1
  cases ds with
  | nil => exact absurd rfl h.1
  | cons c r =>
    have hd : qdp (c :: r) = r.length := rfl
    rw [hd] at hdp ⊢
    by_cases k4 : k = 4
    · subst k4
      have hlt : r.length < 500 := by
        unfold qcs at hc
        simp at hc
        exact hc.2
      refine ⟨upd wi (r.length + 1) (qi 0), ?_, ?_⟩
      · simp (disch := omega) only [L_pass, qi_lit, qi_m1, qi_add, qi_mul, qi_and, qi_or, qi_xor, qi_not, qi_shl, qi_shr, qi_and31, qi_nat, qi_inb, qi_eq, qi_lt, qi_le, qi_sub, dn, db_some, dk_t]
        simp
        rfl
      · show qdsr _ (0 :: c :: r)
        exact ⟨upd_self _ _ _, qdsr_f (c :: r) hw (fun i hi => upd_ne _ _ (by simp at hi; omega))⟩
    · by_cases k5 : k = 5
      · subst k5
        have hd0 : 0 < r.length := by
          unfold qcs at hc
          simp at hc
          exact hc.2
        cases r with
        | nil => simp at hd0
        | cons c' r' =>
          obtain ⟨w1, w2, w3⟩ := hw
          have hlen : (c' :: r').length = r'.length + 1 := rfl
          rw [hlen] at hdp ⊢
          refine ⟨upd wi r'.length (qi (c' + 1)), ?_, ?_⟩
          · simp (disch := omega) only [L_pass, qi_lit, qi_m1, qi_add, qi_mul, qi_and, qi_or, qi_xor, qi_not, qi_shl, qi_shr, qi_and31, qi_nat, qi_inb, qi_eq, qi_lt, qi_le, qi_sub, dn, db_some, dk_t, Nat.add_sub_cancel, w2]
            simp
            rfl
          · show qdsr _ ((c' + 1) :: r')
            exact ⟨upd_self _ _ _, qdsr_f r' w3 (fun i hi => upd_ne _ _ (by omega))⟩
      · by_cases k1 : k = 1
        · subst k1
          obtain ⟨w1, w2⟩ := hw
          refine ⟨upd wi r.length (qi (c + 1)), ?_, ?_⟩
          · simp (disch := omega) only [L_pass, qi_lit, qi_m1, qi_add, qi_mul, qi_and, qi_or, qi_xor, qi_not, qi_shl, qi_shr, qi_and31, qi_nat, qi_inb, qi_eq, qi_lt, qi_le, qi_sub, dn, db_some, dk_t, w1]
            simp
            rfl
          · show qdsr _ ((c + 1) :: r)
            exact ⟨upd_self _ _ _, qdsr_f r w2 (fun i hi => upd_ne _ _ (by omega))⟩
        · have ep : qpps (c :: r) k = c :: r := by unfold qpps; rw [if_neg k4, if_neg k5, if_neg k1]
          rw [ep]
          refine ⟨wi, ?_, hw⟩
          simp (disch := omega) only [L_pass, qi_lit, qi_m1, qi_add, qi_mul, qi_and, qi_or, qi_xor, qi_not, qi_shl, qi_shr, qi_and31, qi_nat, qi_inb, qi_eq, qi_lt, qi_le, qi_sub, if_neg k4, if_neg k5, if_neg k1]
          rfl
theorem qpb_4 (n tk : Nat) (ws : List Qt) (k v : Nat) : (qpb n tk ws k v).1 ≤ 4 := by
  unfold qpb
  split
  · split
    · split <;> simp
    · simp
  · split
    · split <;> simp
    · simp
/-- the class holds what the plan's machine holds -/
def qCp (n : Nat) (τ : Qp) (p : Nat) (fa pl dp wm tk : Int32) (sp wa wi : Nat → Int32) : Prop :=
  fa = qi τ.2.1 ∧ pl = τ.2.2.1 ∧ τ.2.1 ≤ 4 ∧ dp = qi (qdp τ.1) ∧ qDok τ.1 p ∧ qdsr wi τ.1 ∧ n ≤ 8 ∧
  (τ.2.1 = 0 → qPok n τ.1 τ.2.2.2.1 τ.2.2.2.2 ∧ wm = qi τ.2.2.2.1.length ∧ tk = qi τ.2.2.2.2 ∧ qwsr wa τ.2.2.2.1 ∧ qspl2 sp τ.2.2.2.1)
theorem L_absorb_q {n : Nat} {ds : List Nat} {ws : List Qt} {tk k v : Nat} (h : qPok n ds ws tk) (hne : ds ≠ []) (hc : qcs ds k = true) (hk : k ≤ 10) (nu : Int32) (hv : k = 1 → nu = qi v ∧ v < 10000000) (sp wa : Nat → Int32) (hw : qwsr wa ws) (hs : qspl2 sp ws) :
    ∃ wm' tk' sp' wa', L_absorb (qi k) nu (qi n) (qi ws.length) (qi tk) sp wa = some (qi (qpb n tk ws k v).1, wm', tk', sp', wa') ∧
      ((qpb n tk ws k v).1 = 0 → wm' = qi (qpb n tk ws k v).2.1.length ∧ tk' = qi (qpb n tk ws k v).2.2 ∧ qwsr wa' (qpb n tk ws k v).2.1 ∧ qspl2 sp' (qpb n tk ws k v).2.1) := by
  obtain ⟨h1, h2, h3, h4, h5⟩ := id h
  have hp8 := q_pow8 h1
  have hlen := qfo_pop ws h2
  by_cases k1 : k = 1
  · obtain ⟨rfl, hv'⟩ := hv k1
    clear hv
    have eb : qpb n tk ws k v = (if v < n then (if tk &&& 2 ^ v = 0 then (0, .var v :: ws, tk ||| 2 ^ v) else (3, ws, tk)) else (2, ws, tk)) := by unfold qpb; rw [if_pos k1]
    rw [eb]
    subst k1
    by_cases c1 : v < n
    · have hand : tk &&& 2 ^ v < 2147483648 := Nat.lt_of_le_of_lt Nat.and_le_left (by omega)
      by_cases c2 : tk &&& 2 ^ v = 0
      · rw [if_pos c1, if_pos c2]
        have hl8 : ws.length < 8 := by
          have h6 : qpop (tk ||| 2 ^ v) = qpop tk + qpop (2 ^ v) := qpop_or c2
          have h7 := qpop_le (tk ||| 2 ^ v)
          have h8 : ∀ r, r < 8 → qpop (2 ^ r) = 1 := by decide
          have h9 := h8 v (by omega)
          rw [h3] at hlen
          omega
        refine ⟨qi (ws.length + 1), qi (tk ||| 2 ^ v), sp, upd wa ws.length (qi (2 ^ v)), ?_, fun _ => ⟨rfl, rfl, ⟨upd_self _ _ _, qwsr_f ws hw (fun i hi => upd_ne _ _ (by omega))⟩, ?_⟩⟩
        · simp (disch := omega) only [L_absorb, L_absorbRelation, qi_lit, qi_m1, qi_add, qi_mul, qi_and, qi_or, qi_xor, qi_not, qi_shl, qi_shr, qi_and31, qi_nat, qi_inb, qi_eq, qi_lt, qi_le, qi_sub, dn, db_some, dk_t, if_neg (show ¬ v < 0 by omega), if_pos c1, if_pos c2, if_pos hl8, if_true]
        · intro u hu x hx
          rcases List.mem_cons.mp hu with rfl | hu
          · cases hx
          · exact hs u hu x hx
      · rw [if_pos c1, if_neg c2]
        refine ⟨qi ws.length, qi tk, sp, wa, ?_, fun h => absurd h (by simp)⟩
        simp (disch := omega) only [L_absorb, L_absorbRelation, qi_lit, qi_m1, qi_add, qi_mul, qi_and, qi_or, qi_xor, qi_not, qi_shl, qi_shr, qi_and31, qi_nat, qi_inb, qi_eq, qi_lt, qi_le, qi_sub, dn, db_some, dk_t, if_neg (show ¬ v < 0 by omega), if_pos c1, if_neg c2, if_true]
    · rw [if_neg c1]
      refine ⟨qi ws.length, qi tk, sp, wa, ?_, fun h => absurd h (by simp)⟩
      simp (disch := omega) only [L_absorb, L_absorbRelation, qi_lit, qi_m1, qi_add, qi_mul, qi_and, qi_or, qi_xor, qi_not, qi_shl, qi_shr, qi_and31, qi_nat, qi_inb, qi_eq, qi_lt, qi_le, qi_sub, dn, db_some, dk_t, if_neg (show ¬ v < 0 by omega), if_neg c1, if_true]
  · by_cases k5 : k = 5
    · have hf0 : (qpb n tk ws k v).1 = 0 := by
        unfold qpb
        rw [if_neg k1, if_pos k5]
        split <;> rfl
      obtain ⟨b, a, r, rfl⟩ := (qPok_step (v := v) h hc hne hf0).2 k5
      have eb : qpb n tk (b :: a :: r) k v = (0, qjo a b :: r, tk) := by
        unfold qpb
        rw [if_neg k1, if_pos k5]
      rw [eb]
      subst k5
      obtain ⟨w1, w2, w3⟩ := hw
      have w1 : wa (r.length + 1) = qi (qts b) := w1
      have ha := qts_lt a (h2.1 a (by simp))
      have hb := qts_lt b (h2.1 b (by simp))
      have p1 := List.pairwise_cons.mp h2.2
      have dab : qts a &&& qts b = 0 := by rw [Nat.and_comm]; exact p1.1 a (by simp)
      obtain ⟨j1, j2, j3⟩ := qjo_q (h2.1 a (by simp)) (h2.1 b (by simp)) dab
      have hor : qts a ||| qts b < 256 := q_or_lt (n := 8) ha.1 hb.1
      have hl : (b :: a :: r).length = r.length + 2 := rfl
      have hr8 : r.length + 2 ≤ 8 := by
        have := qpop_le (qun (b :: a :: r))
        rw [hl] at hlen
        omega
      have ff : (if qlow (qts b) ≤ qlow (qts a) then qts b else qts a) = qfst (qts a) (qts b) := by
        unfold qfst
        rcases qlow_dis _ _ ha.1 hb.1 ha.2 hb.2 dab with ⟨k, _⟩ | ⟨k, _⟩
        · rw [if_neg (by omega), if_pos k]
        · rw [if_pos (by omega), if_neg (by omega)]
      refine ⟨qi (r.length + 1), qi tk, upd sp (qts a ||| qts b) (qi (qfst (qts a) (qts b))), upd wa r.length (qi (qts a ||| qts b)), ?_, fun _ => ⟨rfl, rfl, ⟨?_, ?_⟩, ?_⟩⟩
      · rw [hl]
        have e1 : r.length + 2 - 1 = r.length + 1 := by omega
        simp (disch := omega) only [L_absorb, L_joinLastTwo, qi_lit, qi_m1, qi_add, qi_mul, qi_and, qi_or, qi_xor, qi_not, qi_shl, qi_shr, qi_and31, qi_nat, qi_inb, qi_eq, qi_lt, qi_le, qi_sub, dn, db_some, dk_t, if_neg (show ¬ (5 = 1) by omega), if_pos (show 2 ≤ r.length + 2 by omega), e1, Nat.add_sub_cancel, w1, w2, J_firstOf_q _ _ ha.1 hb.1, ff, if_true]
      · show upd wa r.length (qi (qts a ||| qts b)) r.length = qi (qts (qjo a b))
        rw [upd_self, j2]
      · exact qwsr_f r w3 (fun i hi => upd_ne _ _ (by omega))
      · intro u hu x hx
        rcases List.mem_cons.mp hu with rfl | hu
        · have hpx := qpf_mem _ j1 x hx
          have hsx := qtn_sub _ j1 x hx
          rw [j3 x.1] at hpx
          by_cases z : x.1 = qts a ||| qts b
          · rw [if_pos z] at hpx
            rw [z, upd_self, hpx]
          · rw [if_neg z] at hpx
            rw [upd_ne _ _ z]
            have hx2 : x.2 ≠ 0 := (qparts_all hsx.2.2.1 hsx.2.2.2.1).2.1
            by_cases za : qpf a x.1 = 0
            · have zb : qpf b x.1 ≠ 0 := by omega
              have := hs b (by simp) _ (qpf_mem' b (h2.1 b (by simp)) x.1 zb)
              rw [this]
              congr 1; omega
            · have A := qpf_sub a (h2.1 a (by simp)) x.1 za
              have zb : qpf b x.1 = 0 := qpf_big (h2.1 b (by simp)) (fun e => A.2.1 (q_disj dab A.1 e))
              have := hs a (by simp) _ (qpf_mem' a (h2.1 a (by simp)) x.1 za)
              rw [this]
              congr 1; omega
        · have p2 := List.pairwise_cons.mp p1.2
          have hut := h2.1 u (by simp [hu])
          have hsx := qtn_sub u hut x hx
          have hd : (qts a ||| qts b) &&& qts u = 0 := by rw [Nat.and_or_distrib_right, p2.1 u hu, p1.1 u (by simp [hu])]; rfl
          have hne : x.1 ≠ qts a ||| qts b := by
            intro e
            have := hsx.1
            rw [e] at this
            exact hsx.2.1 (by rw [e]; exact this.symm.trans hd)
          rw [upd_ne _ _ hne]
          exact hs u (by simp [hu]) x hx
    · have eb : qpb n tk ws k v = (0, ws, tk) := by unfold qpb; rw [if_neg k1, if_neg k5]
      rw [eb]
      refine ⟨qi ws.length, qi tk, sp, wa, ?_, fun _ => ⟨rfl, rfl, hw, hs⟩⟩
      simp (disch := omega) only [L_absorb, qi_lit, qi_m1, qi_add, qi_mul, qi_and, qi_or, qi_xor, qi_not, qi_shl, qi_shr, qi_and31, qi_nat, qi_inb, qi_eq, qi_lt, qi_le, qi_sub, if_neg k1, if_neg k5]
def L_abU_32 (f_p1_kind : Int32) (f_p1_start : Int32) (f_p1_number : Int32) (f_fault : Int32) (f_place : Int32) (f_relations : Int32) (f_waitingMany : Int32) (f_taken : Int32) (g_split : Nat → Int32) (g_waiting : Nat → Int32) (z1 : Int32) : Option (Int32 × Int32 × Int32 × Int32 × (Nat → Int32) × (Nat → Int32)) := some (f_fault, z1, f_waitingMany, f_taken, g_split, g_waiting)
def L_abU (f_p1_kind : Int32) (f_p1_start : Int32) (f_p1_number : Int32) (f_fault : Int32) (f_place : Int32) (f_relations : Int32) (f_waitingMany : Int32) (f_taken : Int32) (g_split : Nat → Int32) (g_waiting : Nat → Int32) : Option (Int32 × Int32 × Int32 × Int32 × (Nat → Int32) × (Nat → Int32)) := if f_fault = 0 then (db (L_absorb f_p1_kind f_p1_number f_relations f_waitingMany f_taken g_split g_waiting) fun t2 => if t2.1 = 0 then (L_abU_32 f_p1_kind f_p1_start f_p1_number t2.1 f_place f_relations t2.2.1 t2.2.2.1 t2.2.2.2.1 t2.2.2.2.2 (-1 : Int32)) else (L_abU_32 f_p1_kind f_p1_start f_p1_number t2.1 f_place f_relations t2.2.1 t2.2.2.1 t2.2.2.2.1 t2.2.2.2.2 f_p1_start)) else (some (f_fault, f_place, f_waitingMany, f_taken, g_split, g_waiting))
theorem L_abU_k (N : Nat) (f_p1_length : Int32) (f_p1_kind : Int32) (f_p1_start : Int32) (f_p1_number : Int32) (f_p1_at : Int32) (f_fault : Int32) (f_place : Int32) (f_relations : Int32) (f_depth : Int32) (f_waitingMany : Int32) (f_taken : Int32) (g_p1_bytes : Nat → Int32) (g_split : Nat → Int32) (g_waiting : Nat → Int32) (g_within : Nat → Int32) (x2 : Int32) : (if f_fault = 0 then (db (L_absorb f_p1_kind f_p1_number f_relations f_waitingMany f_taken g_split g_waiting) fun t12 => if t12.1 = 0 then (L_read_88 N f_p1_length f_p1_kind f_p1_start f_p1_number f_p1_at t12.1 f_place f_relations f_depth t12.2.1 t12.2.2.1 g_p1_bytes t12.2.2.2.1 t12.2.2.2.2 g_within x2 (-1 : Int32)) else (L_read_88 N f_p1_length f_p1_kind f_p1_start f_p1_number f_p1_at t12.1 f_place f_relations f_depth t12.2.1 t12.2.2.1 g_p1_bytes t12.2.2.2.1 t12.2.2.2.2 g_within x2 f_p1_start)) else (L_read_91 N f_p1_length f_p1_kind f_p1_start f_p1_number f_p1_at f_fault f_place f_relations f_depth f_waitingMany f_taken g_p1_bytes g_split g_waiting g_within x2)) = (db (L_abU f_p1_kind f_p1_start f_p1_number f_fault f_place f_relations f_waitingMany f_taken g_split g_waiting) fun t9 => L_read_91 N f_p1_length f_p1_kind f_p1_start f_p1_number f_p1_at t9.1 t9.2.1 f_relations f_depth t9.2.2.1 t9.2.2.2.1 g_p1_bytes t9.2.2.2.2.1 t9.2.2.2.2.2 g_within x2) := by
  unfold L_abU
  by_cases c : f_fault = 0
  · rw [if_pos c, if_pos c]
    cases L_absorb f_p1_kind f_p1_number f_relations f_waitingMany f_taken g_split g_waiting with
    | none => rfl
    | some t =>
      rw [db_some, db_some]
      by_cases c3 : t.1 = 0
      · rw [if_pos c3, if_pos c3]
        rfl
      · rw [if_neg c3, if_neg c3]
        rfl
  · rw [if_neg c, if_neg c, db_some]
theorem L_abs_q {n : Nat} {τ : Qp} {p e : Nat} {fa pl dp wm tk : Int32} {sp wa wi : Nat → Int32} (h : qCp n τ p fa pl dp wm tk sp wa wi) (hp : p ≤ 500) (k s v : Nat) (hk : k ≤ 10) (hc : qcs τ.1 k = true) (hpe : p < e ∨ k = 0) (hpe' : p ≤ e) (nu : Int32) (hv : k = 1 → nu = qi v ∧ v < 10000000) :
    ∃ fa' pl' wm' tk' sp' wa' dp' wi', L_abU (qi k) (qi s) nu fa pl (qi n) wm tk sp wa = some (fa', pl', wm', tk', sp', wa') ∧ L_pass dp wi (qi k) = some (dp', wi') ∧
      (k ≠ 0 → qCp n (qpgo (qpab n τ k s v) k) e fa' pl' dp' wm' tk' sp' wa' wi') ∧ fa' = qi (qpab n τ k s v).2.1 ∧ pl' = (qpab n τ k s v).2.2.1 ∧ (qpab n τ k s v).2.1 ≤ 4 ∧
      ((qpab n τ k s v).2.1 = 0 → qwsr wa' (qpab n τ k s v).2.2.2.1 ∧ qspl2 sp' (qpab n τ k s v).2.2.2.1 ∧ qPok n (qpps τ.1 k) (qpab n τ k s v).2.2.2.1 (qpab n τ k s v).2.2.2.2) := by
  obtain ⟨rfl, rfl, h3, rfl, h5, h6, h7, h8⟩ := h
  obtain ⟨wi', ep, hw'⟩ := L_pass_q h5 hp wi h6 hk hc
  by_cases hf : τ.2.1 = 0
  · obtain ⟨g1, rfl, rfl, g4, g5⟩ := h8 hf
    obtain ⟨wm', tk', sp', wa', ea, hq⟩ := L_absorb_q g1 h5.1 hc hk nu hv sp wa g4 g5
    have hb4 := qpb_4 n τ.2.2.2.2 τ.2.2.2.1 k v
    have hst := fun hf => (qPok_step (v := v) g1 hc h5.1 hf).1
    have eab : qpab n τ k s v = (τ.1, (qpb n τ.2.2.2.2 τ.2.2.2.1 k v).1, if (qpb n τ.2.2.2.2 τ.2.2.2.1 k v).1 = 0 then Int32.ofInt (-1) else qi s, (qpb n τ.2.2.2.2 τ.2.2.2.1 k v).2.1, (qpb n τ.2.2.2.2 τ.2.2.2.1 k v).2.2) := by
      unfold qpab
      rw [if_neg (by simp [hf])]
    rw [eab]
    generalize qpb n τ.2.2.2.2 τ.2.2.2.1 k v = X at *
    refine ⟨qi X.1, if X.1 = 0 then Int32.ofInt (-1) else qi s, wm', tk', sp', wa', _, wi', ?_, ep, ?_, rfl, rfl, hb4, ?_⟩
    · unfold L_abU
      rw [hf, if_pos (show qi 0 = (0 : Int32) from rfl), ea, db_some]
      simp only []
      by_cases c : X.1 = 0
      · rw [if_pos (show qi X.1 = (0 : Int32) by rw [c]; rfl), if_pos c]
        rfl
      · rw [if_neg (show ¬ (qi X.1 = (0 : Int32)) from fun h => c ((qi_eq X.1 0 (by omega) (by omega)).mp h)), if_neg c]
        rfl
    · intro k0
      have hlt : p < e := by omega
      exact ⟨rfl, rfl, hb4, rfl, qDok_step h5 hc hlt, hw', h7, fun hz => ⟨hst hz, hq hz⟩⟩
    · intro hz
      exact ⟨(hq hz).2.2.1, (hq hz).2.2.2, hst hz⟩
  · have eab : qpab n τ k s v = τ := by
      unfold qpab
      rw [if_pos hf]
    rw [eab]
    refine ⟨qi τ.2.1, τ.2.2.1, wm, tk, sp, wa, _, wi', ?_, ep, ?_, rfl, rfl, h3, fun hz => absurd hz hf⟩
    · unfold L_abU
      rw [if_neg (show ¬ (qi τ.2.1 = (0 : Int32)) from fun h => hf ((qi_eq τ.2.1 0 (by omega) (by omega)).mp h))]
    · intro k0
      have hlt : p < e := by omega
      exact ⟨rfl, rfl, h3, rfl, qDok_step h5 hc hlt, hw', h7, fun hz => absurd hz hf⟩
def qP0 : Qp := ([0], 0, Int32.ofInt (-1), [], 0)
theorem L_read_q (b : Nat → Nat) (len : Nat) (by' : Nat → Int32) (hb : qby' b len by') (n : Nat) (hn : n ≤ 8) (kd st nu at' fa pl dp wm tk : Int32) (sp wa wi : Nat → Int32) (N : Nat) (hN : 600 < N) :
    ∃ kd' st' nu' at2 fa' pl' dp' wm' tk' sp' wa' wi', L_read N (qi len) kd st nu at' fa pl (qi n) dp wm tk by' sp wa wi = some (kd', st', nu', at2, fa', pl', dp', wm', tk', sp', wa', wi') ∧
      fa' = qi (qPR b len n qP0 0).1 ∧ pl' = (qPR b len n qP0 0).2.1 ∧ (qPR b len n qP0 0).1 ≤ 4 ∧
      ((qPR b len n qP0 0).1 = 0 → ∃ t, (qPR b len n qP0 0).2.2 = [t] ∧ qtok t ∧ qts t < 2 ^ n ∧ wa' 0 = qi (qts t) ∧ ∀ x, x ∈ qtn t → sp' x.1 = qi x.2) := by
  have hb1 := hb.1
  have key := qlp_dn (body := fun x : Int32 × Int32 × Int32 × Int32 × Int32 × Int32 × Int32 × Int32 × Int32 × (Nat → Int32) × (Nat → Int32) × (Nat → Int32) × Int32 =>
      L_read_b20 N (qi len) x.1 x.2.1 x.2.2.1 x.2.2.2.1 x.2.2.2.2.1 x.2.2.2.2.2.1 (qi n) x.2.2.2.2.2.2.1 x.2.2.2.2.2.2.2.1 x.2.2.2.2.2.2.2.2.1 by' x.2.2.2.2.2.2.2.2.2.1 x.2.2.2.2.2.2.2.2.2.2.1 x.2.2.2.2.2.2.2.2.2.2.2.1 x.2.2.2.2.2.2.2.2.2.2.2.2)
    (Inv := fun m x => ∃ τ p i, m = len - p ∧ p ≤ len ∧ i ≤ p ∧ x.2.2.2.1 = qi p ∧ x.2.2.2.2.2.2.2.2.2.2.2.2 = qi i ∧ qPR b len n τ p = qPR b len n qP0 0 ∧
      qCp n τ p x.2.2.2.2.1 x.2.2.2.2.2.1 x.2.2.2.2.2.2.1 x.2.2.2.2.2.2.2.1 x.2.2.2.2.2.2.2.2.1 x.2.2.2.2.2.2.2.2.2.1 x.2.2.2.2.2.2.2.2.2.2.1 x.2.2.2.2.2.2.2.2.2.2.2.1)
    (Q := fun y => ∃ kd' st' nu' at2 fa' pl' dp' wm' tk' sp' wa' wi',
      ((y = .inl (kd', st', nu', at2, fa', pl', dp', wm', tk', sp', wa', wi') ∧ (qPR b len n qP0 0).1 = 1 ∧ st' = (qPR b len n qP0 0).2.1) ∨
       (y = .inr (.inl (kd', st', nu', at2, fa', pl', dp', wm', tk', sp', wa', wi')) ∧ fa' = qi (qPR b len n qP0 0).1 ∧ pl' = (qPR b len n qP0 0).2.1 ∧ (qPR b len n qP0 0).1 ≤ 4 ∧
        ((qPR b len n qP0 0).1 = 0 → ∃ t, (qPR b len n qP0 0).2.2 = [t] ∧ qtok t ∧ qts t < 2 ^ n ∧ wa' 0 = qi (qts t) ∧ ∀ x, x ∈ qtn t → sp' x.1 = qi x.2))))
    ?_ len (kd, st, nu, qi 0, qi 0, Int32.ofInt (-1), qi 0, qi 0, qi 0, sp, wa, upd wi 0 (qi 0), qi 0) ?_ N (by omega)
  · obtain ⟨y, e, kd', st', nu', at2, fa', pl', dp', wm', tk', sp', wa', wi', q⟩ := key
    have pre : L_read N (qi len) kd st nu at' fa pl (qi n) dp wm tk by' sp wa wi = L_read_a20 N (qi len) (qi n) by' y := by
      show L_read_20 N (qi len) kd st nu (0 : Int32) (0 : Int32) (-1 : Int32) (qi n) (0 : Int32) (0 : Int32) (0 : Int32) by' sp wa (upd wi (0 : Int32).toNatClampNeg (0 : Int32)) (0 : Int32) = _
      unfold L_read_20
      rw [show ((kd, st, nu, (0 : Int32), (0 : Int32), (-1 : Int32), (0 : Int32), (0 : Int32), (0 : Int32), sp, wa, upd wi (0 : Int32).toNatClampNeg (0 : Int32), (0 : Int32))) = (kd, st, nu, qi 0, qi 0, Int32.ofInt (-1), qi 0, qi 0, qi 0, sp, wa, upd wi 0 (qi 0), qi 0) from rfl, e]
      rfl
    rw [pre]
    rcases q with ⟨rfl, h1, h2⟩ | ⟨rfl, h1, h2, h3, h4⟩
    · exact ⟨kd', st', nu', at2, (1 : Int32), st', dp', wm', tk', sp', wa', wi', rfl, by rw [h1]; rfl, h2, by omega, fun h => by omega⟩
    · exact ⟨kd', st', nu', at2, fa', pl', dp', wm', tk', sp', wa', wi', rfl, h1, h2, h3, h4⟩
  · rintro m ⟨kd, st, nu, at', fa, pl, dp, wm, tk, sp, wa, wi, ix⟩ ⟨τ, p, i, hm, hp, hip, h1, h2, h3, h4⟩
    simp only at h1 h2 h4
    subst h1
    subst h2
    have htk := qT_q b len p hp
    have hle := qtk_le htk
    have hk := qtk_k htk
    obtain ⟨nu', et, hnu, _⟩ := T_readToken_q b len by' hb p _ _ _ _ htk kd st nu N hN
    have hR := qPR_eq b len n τ p hp
    have hcs := L_canStand_q h4.2.2.2.2.1 (by omega) wi h4.2.2.2.2.2.1 hk.1
    have hdp := h4.2.2.2.1
    generalize hTT : qT b len p = TT at *
    obtain ⟨k, s, v, e⟩ := TT
    simp only at *
    rcases q_dich (qcs τ.1 k) with c1 | c1
    · right
      rw [if_pos c1] at hR
      refine ⟨.inl (qi k, qi s, nu', qi e, fa, pl, dp, wm, tk, sp, wa, wi), ?_, _, _, _, _, _, _, _, _, _, _, _, _, .inl ⟨rfl, by rw [← h3, hR], by rw [← h3, hR]⟩⟩
      unfold L_read_b20
      rw [if_neg (show ¬ ((500 : Int32) < qi i) from fun h => by have := (qi_lt 500 i (by omega) (by omega)).mp h; omega), et, db_some]
      simp only []
      rw [hdp, hcs, db_some, c1, if_pos (show qi false.toNat = (0 : Int32) from rfl)]
    · rw [if_neg (by rw [c1]; decide)] at hR
      obtain ⟨fa', pl', wm', tk', sp', wa', dp', wi', ea, ep, hC, hfa, hpl, h44, hj⟩ := L_abs_q (e := e) h4 (by omega) k s v hk.1 c1 (by
        by_cases c : k = 0
        · exact .inr c
        · left; have := hle.2.2.2.1 c; omega) (by omega) nu' (fun h => ⟨hnu h, hk.2 h⟩)
      have pre : L_read_b20 N (qi len) kd st nu (qi p) fa pl (qi n) dp wm tk by' sp wa wi (qi i) =
          if qi k = 0 then some (.inr (.inr (.inl (qi k, qi s, nu', qi e, fa', pl', dp', wm', tk', sp', wa', wi')))) else some (.inl (qi k, qi s, nu', qi e, fa', pl', dp', wm', tk', sp', wa', wi', qi (i + 1))) := by
        unfold L_read_b20
        rw [if_neg (show ¬ ((500 : Int32) < qi i) from fun h => by have := (qi_lt 500 i (by omega) (by omega)).mp h; omega), et, db_some]
        simp only []
        rw [hdp, hcs, db_some, c1, if_neg (show ¬ (qi true.toNat = (0 : Int32)) by decide), L_abU_k, ea, db_some]
        simp only [L_read_91]
        rw [← hdp, ep, db_some]
        simp only [dn, show (1 : Int32) = qi 1 from rfl, qi_add]
      by_cases c2 : k = 0
      · right
        rw [if_pos c2] at hR
        subst c2
        refine ⟨.inr (.inl (qi 0, qi s, nu', qi e, fa', pl', dp', wm', tk', sp', wa', wi')), by simp only [pre]; rw [if_pos (show qi 0 = 0 from rfl)], _, _, _, _, _, _, _, _, _, _, _, _, .inr ⟨rfl, by rw [← h3, hR]; exact hfa, by rw [← h3, hR]; exact hpl, by rw [← h3, hR]; exact h44, ?_⟩⟩
        rw [← h3, hR]
        intro hz
        obtain ⟨j1, j2, j3⟩ := hj hz
        have hfull : qfl τ.1 = true ∧ qdp τ.1 = 0 := by
          unfold qcs at c1
          simpa using c1
        have hsum : τ.1.sum = 1 := by
          have hne := h4.2.2.2.2.1.1
          have hh := of_decide_eq_true hfull.1
          rw [if_pos hfull.2] at hh
          cases hds : τ.1 with
          | nil => exact absurd hds hne
          | cons c r =>
            rw [hds] at hfull hh
            have : r = [] := by
              cases r with
              | nil => rfl
              | cons x y => have := hfull.2; simp [qdp] at this
            subst this
            have : c = 1 := hh
            simp [this]
        have hl : (qpab n τ 0 s v).2.2.2.1.length = 1 := by
          have := j3.2.2.2.2
          rw [this]
          show (qpps τ.1 0).sum = 1
          exact hsum
        obtain ⟨t, ht⟩ := List.length_eq_one_iff.mp hl
        rw [ht] at j1 j2 j3
        refine ⟨t, ht, j3.2.1.1 t (by simp), ?_, j1.1, j2 t (by simp)⟩
        have := j3.2.2.1
        have e1 : qun [t] = qts t ||| 0 := rfl
        rw [e1, Nat.or_zero] at this
        rw [this]
        exact j3.2.2.2.1
      · left
        rw [if_neg c2] at hR
        have := hle.2.2.2.1 c2
        refine ⟨(qi k, qi s, nu', qi e, fa', pl', dp', wm', tk', sp', wa', wi', qi (i + 1)), len - e, by simp only [pre]; rw [if_neg (show ¬ (qi k = (0 : Int32)) from fun h => c2 ((qi_eq k 0 (by omega) (by omega)).mp h))], ⟨qpgo (qpab n τ k s v) k, e, i + 1, rfl, by omega, by omega, rfl, rfl, by rw [← hR]; exact h3, hC c2⟩, by omega⟩
  · refine ⟨qP0, 0, 0, by omega, by omega, by omega, rfl, rfl, rfl, rfl, rfl, by decide, rfl, ?_, ⟨show upd wi 0 (qi 0) 0 = qi 0 from upd_self _ _ _, trivial⟩, hn, fun _ => ⟨⟨hn, ⟨fun u hu => (by cases hu), List.Pairwise.nil⟩, rfl, Nat.two_pow_pos n, rfl⟩, rfl, rfl, trivial, fun u hu => (by cases hu)⟩⟩
    refine ⟨by decide, by decide, by decide, ?_, by decide, by decide⟩
    intro i c hc hi
    cases i with
    | zero => omega
    | succ i => simp [qP0] at hc
