abbrev Qf : Type := Qc × (Nat × (Nat → Nat)) × Int32 × Int32
def qFJ (φ : Qf) (rel edg lim ro jo len fa pl : Int32) (by' left right rows pt st bytes : Nat → Int32) : Prop :=
  qcok φ.1 ∧ qJc φ.1 rel edg lim rows left right by' ro jo st pt ∧ len = qi φ.2.1.1 ∧ qby' φ.2.1.2 φ.2.1.1 bytes ∧ fa = φ.2.2.1 ∧ pl = φ.2.2.2
def qFR (φ : Qf) (a tx : Nat → Int32) : Prop := qRc φ.1 a ∧ a 316 = qi φ.2.1.1 ∧ a 317 = φ.2.2.1 ∧ a 318 = φ.2.2.2 ∧ qtx' φ.2.1.2 φ.2.1.1 tx
def qpls (x n i : Nat) : Nat := (x + 8 - (n - i)) % 8
def qJh (H : List Qc) (ac nx : Int32) (pr pe pl po pj : Nat → Int32) (pb ple pri pro pp ps : Nat → Nat → Int32) : Prop :=
  ∃ x, x < 8 ∧ nx = qi x ∧ H.length ≤ 8 ∧ ac = qi H.length ∧ ∀ (i : Nat) (c : Qc), H[i]? = some c → qcok c ∧
    qJc c (pr (qpls x H.length i)) (pe (qpls x H.length i)) (pl (qpls x H.length i)) (pro (qpls x H.length i)) (ple (qpls x H.length i)) (pri (qpls x H.length i)) (pb (qpls x H.length i)) (po (qpls x H.length i)) (pj (qpls x H.length i)) (ps (qpls x H.length i)) (pp (qpls x H.length i))
def qJp (g : Qg) (kn pd cn pa : Int32) (ps cs : Nat → Int32) : Prop := pd = qi 0 ∨ (pd = qi 1 ∧ kn = qi 1 ∧ cn = qi (qca g (2 ^ qn g)) ∧ pa = qi (qpa g (2 ^ qn g)) ∧ qPs g ps (2 ^ qn g) ∧ qCs g cs (2 ^ qn g))
def qJb (g : Qg) (lin : Bool) (kn : Int32) (c : Nat → Int64) (x p : Nat → Int32) : Prop := kn = qi 0 ∨ (kn = qi 1 ∧ qBt (qbest g lin) 0 c x p (2 ^ qn g))
def qIJ (o : Option Qf) (kp rel edg lim ro jo len fa pl : Int32) (by' left right rows pt st bytes : Nat → Int32) : Prop :=
  (o = none ∧ kp = qi 0) ∨ ∃ φ, o = some φ ∧ kp = qi 1 ∧ qFJ φ rel edg lim ro jo len fa pl by' left right rows pt st bytes
def qIR (o : Option Qf) (kp : Int32) (a tx : Nat → Int32) : Prop := (o = none ∧ kp = qi 0) ∨ ∃ φ, o = some φ ∧ kp = qi 1 ∧ qcok φ.1 ∧ qFR φ a tx
abbrev Qσ : Type := Qf × List Qc × (Nat → Option Qf)
def qRelJ (σ : Qσ) (s : SJ) : Prop :=
  qFJ σ.1 (s.1 41) (s.1 42) (s.1 43) (s.1 44) (s.1 45) (s.1 46) (s.1 4) (s.1 5) (s.2.1 29) (s.2.1 30) (s.2.1 31) (s.2.1 32) (s.2.1 33) (s.2.1 34) (s.2.1 35) ∧
  qJh σ.2.1 (s.1 0) (s.1 1) (s.2.2.2.1 3) (s.2.2.2.1 4) (s.2.2.2.1 5) (s.2.2.2.1 6) (s.2.2.2.1 7) (s.2.2.2.2 0) (s.2.2.2.2 1) (s.2.2.2.2 2) (s.2.2.2.2 3) (s.2.2.2.2 4) (s.2.2.2.2 5) ∧
  qJs σ.1.1.1 (s.1 21) (s.1 23) (s.1 26) (s.2.1 11) (s.2.1 12) (s.2.1 14) (s.2.2.1 2) ∧
  qJp σ.1.1.1 (s.1 21) (s.1 22) (s.1 24) (s.1 25) (s.2.1 13) (s.2.1 40) ∧
  qJb σ.1.1.1 false (s.1 2) (s.2.2.1 0) (s.2.1 1) (s.2.1 2) ∧
  qJb σ.1.1.1 true (s.1 3) (s.2.2.1 1) (s.2.1 3) (s.2.1 4) ∧
  ∀ k, k < 3 → qIJ (σ.2.2 k) ((s.2.2.2.1 2) k) ((s.2.2.2.1 8) k) ((s.2.2.2.1 9) k) ((s.2.2.2.1 10) k) ((s.2.2.2.1 11) k) ((s.2.2.2.1 12) k) ((s.2.2.2.1 13) k) ((s.2.2.2.1 0) k) ((s.2.2.2.1 1) k) ((s.2.2.2.2 6) k) ((s.2.2.2.2 7) k) ((s.2.2.2.2 8) k) ((s.2.2.2.2 9) k) ((s.2.2.2.2 10) k) ((s.2.2.2.2 11) k) ((s.2.2.2.2 12) k)
def qIRs (M : Nat → Option Qf) (all tx sv : Nat → Int32) : Prop := ∀ k, k < 3 → qIR (M k) (sv k) (fun j => all (319 * (k + 1) + j)) (fun j => tx (500 * (k + 1) + j))
def qRelR (σ : Qσ) (t : SR) : Prop := qFR σ.1 (t.2.1 0) (t.2.1 12) ∧ qRh σ.2.1 (t.1 1) (t.2.1 15) ∧ qIRs σ.2.2 (t.2.1 0) (t.2.1 12) (t.2.1 11)
def qOk {α : Type} (σ : Qσ) (a : Option (α × SJ)) (b : Option (α × SR)) : Prop := ∃ v s' t', a = some (v, s') ∧ b = some (v, t') ∧ qRelJ σ s' ∧ qRelR σ t'
theorem qFR_c {φ : Qf} (hc : qcok φ.1) {a a' tx tx' : Nat → Int32} (h : qFR φ a tx) (e : ∀ j, j < 319 → a' j = a j) (e' : ∀ j, j < 500 → tx' j = tx j) : qFR φ a' tx' := by
  obtain ⟨h1, h2, h3, h4, h5, h6, h7⟩ := h
  refine ⟨qRc_c hc h1 (fun j hj => e j (by omega)), by rw [e 316 (by omega)]; exact h2, by rw [e 317 (by omega)]; exact h3, by rw [e 318 (by omega)]; exact h4, h5, h6, ?_⟩
  intro i hi
  rw [e' i (by omega)]
  exact h7 i hi
theorem qIRs_c {M : Nat → Option Qf} {a a' tx tx' sv : Nat → Int32} (h : qIRs M a tx sv) (e : ∀ j, 319 ≤ j → a' j = a j) (e' : ∀ j, 500 ≤ j → tx' j = tx j) : qIRs M a' tx' sv := by
  intro k hk
  rcases h k hk with h | ⟨φ, h1, h2, h3, h4⟩
  · exact Or.inl h
  · exact Or.inr ⟨φ, h1, h2, h3, qFR_c h3 h4 (fun j hj => e _ (by omega)) (fun j hj => e' _ (by omega))⟩
theorem J_remember_e (ac rel edg lim ro jo : Int32) (pr pe pl po pj by' left right rows pt st : Nat → Int32) (pb ple pri pro pp ps : Nat → Nat → Int32) (x : Nat) (hx : x < 8) :
    J_remember ac (qi x) rel edg lim ro jo pr pe pl po pj by' left right rows pt st pb ple pri pro pp ps =
      some (if (8 : Int32) < ac + 1 then 8 else ac + 1, qi ((x + 1) % 8), va_up pr x rel, va_up pe x edg, va_up pl x lim, va_up po x ro, va_up pj x jo,
        va_up pb x (va_cpy by' (pb x) 0 0 16), va_up ple x (va_cpy left (ple x) 0 0 16), va_up pri x (va_cpy right (pri x) 0 0 16), va_up pro x (va_cpy rows (pro x) 0 0 8), va_up pp x (va_cpy pt (pp x) 0 0 7), va_up ps x (va_cpy st (ps x) 0 0 7)) := by
  match x, hx with
  | 0, _ => rfl
  | 1, _ => rfl
  | 2, _ => rfl
  | 3, _ => rfl
  | 4, _ => rfl
  | 5, _ => rfl
  | 6, _ => rfl
  | 7, _ => rfl
  | n + 8, h => omega
theorem vq_up_self {α : Type} (f : Nat → α) (k : Nat) (v : α) : va_up f k v k = v := by simp [va_up]
theorem vq_up_ne {α : Type} (f : Nat → α) (k j : Nat) (v : α) (h : j ≠ k) : va_up f k v j = f j := by simp [va_up, h]
theorem qJc_cpy {c : Qc} (hc : qcok c) {rel edg lim : Int32} {rows left right by' : Nat → Int32} {ro jo : Int32} {st pt : Nat → Int32} (h : qJc c rel edg lim rows left right by' ro jo st pt) (r2 l2 ri2 b2 s2 p2 : Nat → Int32) :
    qJc c rel edg lim (va_cpy rows r2 0 0 8) (va_cpy left l2 0 0 16) (va_cpy right ri2 0 0 16) (va_cpy by' b2 0 0 16) ro jo (va_cpy st s2 0 0 7) (va_cpy pt p2 0 0 7) := by
  obtain ⟨h1, h2⟩ := h
  refine ⟨?_, ?_⟩
  · obtain ⟨b3, le3, ri3, ro3, e, h⟩ := G_copy_q hc.1 h1 rel edg lim b2 l2 ri2 r2
    have e' : G_copy rel edg lim rel edg lim by' left right rows b2 l2 ri2 r2 = some (rel, edg, lim, va_cpy by' b2 0 0 16, va_cpy left l2 0 0 16, va_cpy right ri2 0 0 16, va_cpy rows r2 0 0 8) := rfl
    rw [e'] at e
    cases e
    exact h
  · refine qJpl_7 hc h2 ?_
    intro i hi
    unfold va_cpy
    rw [if_pos (by omega), if_pos (by omega)]
    simp
theorem J_remember_q {H : List Qc} {ac nx : Int32} {pr pe pl po pj : Nat → Int32} {pb ple pri pro pp ps : Nat → Nat → Int32} (hh : qJh H ac nx pr pe pl po pj pb ple pri pro pp ps) {c : Qc} (hc : qcok c)
    {rel edg lim : Int32} {rows left right by' : Nat → Int32} {ro jo : Int32} {st pt : Nat → Int32} (h : qJc c rel edg lim rows left right by' ro jo st pt) :
    ∃ nx' pr' pe' pl' po' pj' pb' ple' pri' pro' pp' ps', J_remember ac nx rel edg lim ro jo pr pe pl po pj by' left right rows pt st pb ple pri pro pp ps = some (qi (qrem H c).length, nx', pr', pe', pl', po', pj', pb', ple', pri', pro', pp', ps') ∧
      qJh (qrem H c) (qi (qrem H c).length) nx' pr' pe' pl' po' pj' pb' ple' pri' pro' pp' ps' := by
  obtain ⟨x, hx, rfl, hH, rfl, hk⟩ := hh
  have hl := qrem_len H c hH
  have eA : (if (8 : Int32) < qi H.length + 1 then (8 : Int32) else qi H.length + 1) = qi (qrem H c).length := by
    have : (qi H.length + 1 : Int32) = qi (H.length + 1) := by rw [show (1 : Int32) = qi 1 from rfl]; exact qi_add _ _
    rw [this]
    by_cases c8 : H.length = 8
    · rw [if_pos c8] at hl
      rw [hl, c8]
      rfl
    · rw [if_neg c8] at hl
      rw [hl, if_neg (show ¬ (8 : Int32) < qi (H.length + 1) from fun h => absurd ((qi_lt 8 _ (by omega) (by omega)).mp h) (by omega))]
  have E := J_remember_e (qi H.length) rel edg lim ro jo pr pe pl po pj by' left right rows pt st pb ple pri pro pp ps x hx
  rw [eA] at E
  refine ⟨_, _, _, _, _, _, _, _, _, _, _, _, E, ?_⟩
  · refine ⟨(x + 1) % 8, by omega, rfl, by rw [hl]; split <;> omega, rfl, ?_⟩
    intro i d hd
    have hi : i < (qrem H c).length := (List.getElem?_eq_some_iff.mp hd).1
    have new : ∀ p : Nat, p = x → d = c → qcok d ∧ qJc d (va_up pr x rel p) (va_up pe x edg p) (va_up pl x lim p) (va_up pro x (va_cpy rows (pro x) 0 0 8) p) (va_up ple x (va_cpy left (ple x) 0 0 16) p) (va_up pri x (va_cpy right (pri x) 0 0 16) p) (va_up pb x (va_cpy by' (pb x) 0 0 16) p) (va_up po x ro p) (va_up pj x jo p) (va_up ps x (va_cpy st (ps x) 0 0 7) p) (va_up pp x (va_cpy pt (pp x) 0 0 7) p) := by
      intro p ep ed
      subst ep; subst ed
      simp only [vq_up_self]
      exact ⟨hc, qJc_cpy hc h _ _ _ _ _ _⟩
    have old : ∀ p i' : Nat, p ≠ x → H[i']? = some d → p = qpls x H.length i' → qcok d ∧ qJc d (va_up pr x rel p) (va_up pe x edg p) (va_up pl x lim p) (va_up pro x (va_cpy rows (pro x) 0 0 8) p) (va_up ple x (va_cpy left (ple x) 0 0 16) p) (va_up pri x (va_cpy right (pri x) 0 0 16) p) (va_up pb x (va_cpy by' (pb x) 0 0 16) p) (va_up po x ro p) (va_up pj x jo p) (va_up ps x (va_cpy st (ps x) 0 0 7) p) (va_up pp x (va_cpy pt (pp x) 0 0 7) p) := by
      intro p i' ep e1 e2
      simp only [vq_up_ne _ _ _ _ ep]
      rw [e2]
      exact hk i' d e1
    by_cases c8 : H.length = 8
    · rw [if_pos c8] at hl
      have hH' : qrem H c = H.tail ++ [c] := by unfold qrem; rw [if_pos c8]
      rw [hH'] at hd
      by_cases h7 : i < 7
      · rw [List.getElem?_append_left (by simp; omega)] at hd
        have hx' : H[i + 1]? = some d := by
          cases H with
          | nil => simp at c8
          | cons y H => exact hd
        refine old _ (i + 1) ?_ hx' ?_
        · unfold qpls; rw [hl]; omega
        · unfold qpls; rw [hl, c8]; omega
      · have e7 : i = 7 := by omega
        subst e7
        refine new _ (by unfold qpls; rw [hl]; omega) ?_
        rw [List.getElem?_append_right (by simp; omega)] at hd
        have h7 : 7 - H.tail.length = 0 := by simp; omega
        rw [h7] at hd
        simpa using hd.symm
    · rw [if_neg c8] at hl
      have hH' : qrem H c = H ++ [c] := by unfold qrem; rw [if_neg c8]
      rw [hH'] at hd
      by_cases h7 : i < H.length
      · rw [List.getElem?_append_left h7] at hd
        refine old _ i ?_ hd ?_
        · unfold qpls; rw [hl]; omega
        · unfold qpls; rw [hl]; omega
      · have e7 : i = H.length := by omega
        subst e7
        refine new _ (by unfold qpls; rw [hl]; omega) ?_
        simpa using hd.symm
