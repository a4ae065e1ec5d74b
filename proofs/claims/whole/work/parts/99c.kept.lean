def qUn (s : SJ) (p : Nat) : SJ := ((va_up (va_up (va_up (va_up (va_up (va_up (va_up (va_up (va_up (va_up (va_up s.1 0 (s.1 0 - 1)) 1 (qi p)) 2 (0)) 3 (0)) 21 (0)) 22 (0)) 41 (s.2.2.2.1 3 p)) 42 (s.2.2.2.1 4 p)) 43 (s.2.2.2.1 5 p)) 44 (s.2.2.2.1 6 p)) 45 (s.2.2.2.1 7 p)), (va_up (va_up (va_up (va_up (va_up (va_up s.2.1 29 (va_cpy (s.2.2.2.2 0 p) (s.2.1 29) 0 0 16)) 30 (va_cpy (s.2.2.2.2 1 p) (s.2.1 30) 0 0 16)) 31 (va_cpy (s.2.2.2.2 2 p) (s.2.1 31) 0 0 16)) 32 (va_cpy (s.2.2.2.2 3 p) (s.2.1 32) 0 0 8)) 33 (va_cpy (s.2.2.2.2 4 p) (s.2.1 33) 0 0 7)) 34 (va_cpy (s.2.2.2.2 5 p) (s.2.1 34) 0 0 7)), s.2.2.1, s.2.2.2.1, s.2.2.2.2)
def sJu (x : Nat) (s : SJ) : Option (Int32 × SJ) := match x with
  | 0 => sJ_undo0 s
  | 1 => sJ_undo1 s
  | 2 => sJ_undo2 s
  | 3 => sJ_undo3 s
  | 4 => sJ_undo4 s
  | 5 => sJ_undo5 s
  | 6 => sJ_undo6 s
  | _ => sJ_undo7 s
theorem sJ_undo0_e (s : SJ) (h : ¬ s.1 0 = 0) : sJ_undo0 s = some (s.1 0 - 1, qUn s 7) := by
  unfold sJ_undo0 J_undo0
  rw [if_neg h]
  rfl
theorem sJ_undo0_z (s : SJ) (h : s.1 0 = 0) : ∃ s', sJ_undo0 s = some (-1, s') ∧ ∀ σ, s.1 1 = qi 0 → qRelJ σ s → qRelJ σ s' := by
  unfold sJ_undo0 J_undo0
  rw [if_pos h]
  refine ⟨_, rfl, ?_⟩
  intro σ hx hJ
  obtain ⟨⟨hc, hj, hl, hb, hf, hp⟩, hh, hs, hpp, hb0, hb1, hi⟩ := id hJ
  rw [hx] at hh
  exact ⟨⟨hc, hj, hl, hb, hf, hp⟩, hh, hs, hpp, hb0, hb1, hi⟩
theorem sJ_undo1_e (s : SJ) (h : ¬ s.1 0 = 0) : sJ_undo1 s = some (s.1 0 - 1, qUn s 0) := by
  unfold sJ_undo1 J_undo1
  rw [if_neg h]
  rfl
theorem sJ_undo1_z (s : SJ) (h : s.1 0 = 0) : ∃ s', sJ_undo1 s = some (-1, s') ∧ ∀ σ, s.1 1 = qi 1 → qRelJ σ s → qRelJ σ s' := by
  unfold sJ_undo1 J_undo1
  rw [if_pos h]
  refine ⟨_, rfl, ?_⟩
  intro σ hx hJ
  obtain ⟨⟨hc, hj, hl, hb, hf, hp⟩, hh, hs, hpp, hb0, hb1, hi⟩ := id hJ
  rw [hx] at hh
  exact ⟨⟨hc, hj, hl, hb, hf, hp⟩, hh, hs, hpp, hb0, hb1, hi⟩
theorem sJ_undo2_e (s : SJ) (h : ¬ s.1 0 = 0) : sJ_undo2 s = some (s.1 0 - 1, qUn s 1) := by
  unfold sJ_undo2 J_undo2
  rw [if_neg h]
  rfl
theorem sJ_undo2_z (s : SJ) (h : s.1 0 = 0) : ∃ s', sJ_undo2 s = some (-1, s') ∧ ∀ σ, s.1 1 = qi 2 → qRelJ σ s → qRelJ σ s' := by
  unfold sJ_undo2 J_undo2
  rw [if_pos h]
  refine ⟨_, rfl, ?_⟩
  intro σ hx hJ
  obtain ⟨⟨hc, hj, hl, hb, hf, hp⟩, hh, hs, hpp, hb0, hb1, hi⟩ := id hJ
  rw [hx] at hh
  exact ⟨⟨hc, hj, hl, hb, hf, hp⟩, hh, hs, hpp, hb0, hb1, hi⟩
theorem sJ_undo3_e (s : SJ) (h : ¬ s.1 0 = 0) : sJ_undo3 s = some (s.1 0 - 1, qUn s 2) := by
  unfold sJ_undo3 J_undo3
  rw [if_neg h]
  rfl
theorem sJ_undo3_z (s : SJ) (h : s.1 0 = 0) : ∃ s', sJ_undo3 s = some (-1, s') ∧ ∀ σ, s.1 1 = qi 3 → qRelJ σ s → qRelJ σ s' := by
  unfold sJ_undo3 J_undo3
  rw [if_pos h]
  refine ⟨_, rfl, ?_⟩
  intro σ hx hJ
  obtain ⟨⟨hc, hj, hl, hb, hf, hp⟩, hh, hs, hpp, hb0, hb1, hi⟩ := id hJ
  rw [hx] at hh
  exact ⟨⟨hc, hj, hl, hb, hf, hp⟩, hh, hs, hpp, hb0, hb1, hi⟩
theorem sJ_undo4_e (s : SJ) (h : ¬ s.1 0 = 0) : sJ_undo4 s = some (s.1 0 - 1, qUn s 3) := by
  unfold sJ_undo4 J_undo4
  rw [if_neg h]
  rfl
theorem sJ_undo4_z (s : SJ) (h : s.1 0 = 0) : ∃ s', sJ_undo4 s = some (-1, s') ∧ ∀ σ, s.1 1 = qi 4 → qRelJ σ s → qRelJ σ s' := by
  unfold sJ_undo4 J_undo4
  rw [if_pos h]
  refine ⟨_, rfl, ?_⟩
  intro σ hx hJ
  obtain ⟨⟨hc, hj, hl, hb, hf, hp⟩, hh, hs, hpp, hb0, hb1, hi⟩ := id hJ
  rw [hx] at hh
  exact ⟨⟨hc, hj, hl, hb, hf, hp⟩, hh, hs, hpp, hb0, hb1, hi⟩
theorem sJ_undo5_e (s : SJ) (h : ¬ s.1 0 = 0) : sJ_undo5 s = some (s.1 0 - 1, qUn s 4) := by
  unfold sJ_undo5 J_undo5
  rw [if_neg h]
  rfl
theorem sJ_undo5_z (s : SJ) (h : s.1 0 = 0) : ∃ s', sJ_undo5 s = some (-1, s') ∧ ∀ σ, s.1 1 = qi 5 → qRelJ σ s → qRelJ σ s' := by
  unfold sJ_undo5 J_undo5
  rw [if_pos h]
  refine ⟨_, rfl, ?_⟩
  intro σ hx hJ
  obtain ⟨⟨hc, hj, hl, hb, hf, hp⟩, hh, hs, hpp, hb0, hb1, hi⟩ := id hJ
  rw [hx] at hh
  exact ⟨⟨hc, hj, hl, hb, hf, hp⟩, hh, hs, hpp, hb0, hb1, hi⟩
theorem sJ_undo6_e (s : SJ) (h : ¬ s.1 0 = 0) : sJ_undo6 s = some (s.1 0 - 1, qUn s 5) := by
  unfold sJ_undo6 J_undo6
  rw [if_neg h]
  rfl
theorem sJ_undo6_z (s : SJ) (h : s.1 0 = 0) : ∃ s', sJ_undo6 s = some (-1, s') ∧ ∀ σ, s.1 1 = qi 6 → qRelJ σ s → qRelJ σ s' := by
  unfold sJ_undo6 J_undo6
  rw [if_pos h]
  refine ⟨_, rfl, ?_⟩
  intro σ hx hJ
  obtain ⟨⟨hc, hj, hl, hb, hf, hp⟩, hh, hs, hpp, hb0, hb1, hi⟩ := id hJ
  rw [hx] at hh
  exact ⟨⟨hc, hj, hl, hb, hf, hp⟩, hh, hs, hpp, hb0, hb1, hi⟩
theorem sJ_undo7_e (s : SJ) (h : ¬ s.1 0 = 0) : sJ_undo7 s = some (s.1 0 - 1, qUn s 6) := by
  unfold sJ_undo7 J_undo7
  rw [if_neg h]
  rfl
theorem sJ_undo7_z (s : SJ) (h : s.1 0 = 0) : ∃ s', sJ_undo7 s = some (-1, s') ∧ ∀ σ, s.1 1 = qi 7 → qRelJ σ s → qRelJ σ s' := by
  unfold sJ_undo7 J_undo7
  rw [if_pos h]
  refine ⟨_, rfl, ?_⟩
  intro σ hx hJ
  obtain ⟨⟨hc, hj, hl, hb, hf, hp⟩, hh, hs, hpp, hb0, hb1, hi⟩ := id hJ
  rw [hx] at hh
  exact ⟨⟨hc, hj, hl, hb, hf, hp⟩, hh, hs, hpp, hb0, hb1, hi⟩
theorem sJu_e (x : Nat) (hx : x < 8) (s : SJ) (h : ¬ s.1 0 = 0) : sJu x s = some (s.1 0 - 1, qUn s ((x + 7) % 8)) := by
  match x, hx with
  | 0, _ => exact sJ_undo0_e s h
  | 1, _ => exact sJ_undo1_e s h
  | 2, _ => exact sJ_undo2_e s h
  | 3, _ => exact sJ_undo3_e s h
  | 4, _ => exact sJ_undo4_e s h
  | 5, _ => exact sJ_undo5_e s h
  | 6, _ => exact sJ_undo6_e s h
  | 7, _ => exact sJ_undo7_e s h
  | n + 8, h => omega
theorem sJu_z (x : Nat) (hx : x < 8) (s : SJ) (h : s.1 0 = 0) : ∃ s', sJu x s = some (-1, s') ∧ ∀ σ, s.1 1 = qi x → qRelJ σ s → qRelJ σ s' := by
  match x, hx with
  | 0, _ => exact sJ_undo0_z s h
  | 1, _ => exact sJ_undo1_z s h
  | 2, _ => exact sJ_undo2_z s h
  | 3, _ => exact sJ_undo3_z s h
  | 4, _ => exact sJ_undo4_z s h
  | 5, _ => exact sJ_undo5_z s h
  | 6, _ => exact sJ_undo6_z s h
  | 7, _ => exact sJ_undo7_z s h
  | n + 8, h => omega
theorem qq_undo (σ : Qσ) (s : SJ) (t : SR) (hJ : qRelJ σ s) (hR : qRelR σ t) (N : Nat) (hN : 200000 < N) : ∃ x σ', x < 8 ∧ (s.1 1) = qi x ∧ qOk σ' (sJu x s) (sR_undo N t) := by
  obtain ⟨⟨hc, hj, hl, hb, hf, hp⟩, hh, hs, hpp, hb0, hb1, hi⟩ := id hJ
  obtain ⟨⟨rc, r1, r2, r3, r4⟩, rh, ri⟩ := id hR
  obtain ⟨x, hx, hx2, hx3, hx4, hx5⟩ := id hh
  rcases List.eq_nil_or_concat σ.2.1 with hnil | ⟨H, c, hcc⟩
  · obtain ⟨σ', h⟩ : ∃ σ', qOk σ' (sJu x s) (sR_undo N t) := by
      have ha : (s.1 0) = 0 := by rw [hx4, hnil]; rfl
      have hu : (t.1 1) = 0 := by rw [rh.2.1, hnil]; rfl
      refine qYesJ σ (-1) ?_ ?_
      · obtain ⟨s', e1, e2⟩ := sJu_z x hx s ha
        exact ⟨s', e1, e2 σ hx2 hJ⟩
      · unfold sR_undo R_undo
        rw [if_pos hu]
        exact ⟨_, rfl, hR⟩
    exact ⟨x, σ', hx, hx2, h⟩
  · rw [List.concat_eq_append] at hcc
    obtain ⟨σ', h⟩ : ∃ σ', qOk σ' (sJu x s) (sR_undo N t) := by
      have hlen : σ.2.1.length = H.length + 1 := by rw [hcc]; simp
      have ha : ¬ (s.1 0) = 0 := by rw [hx4]; exact fun h => absurd (qi_inj (b := 0) (by omega) (by omega) h) (by omega)
      have ea : (s.1 0) - 1 = qi H.length := by rw [hx4, hlen, show (1 : Int32) = qi 1 from rfl, qi_sub _ _ (by omega)]; rfl
      have hcl : σ.2.1[H.length]? = some c := by rw [hcc]; simp
      obtain ⟨c1, c2⟩ := hx5 H.length c hcl
      have ep : qpls x σ.2.1.length H.length = (x + 7) % 8 := by unfold qpls; rw [hlen]; omega
      rw [ep] at c2
      refine qYesJ ((c, σ.1.2), H, σ.2.2) (qi H.length) ?_ ?_
      · rw [sJu_e x hx s ha, ea]
        refine ⟨_, rfl, ⟨c1, qJc_cpy c1 c2 _ _ _ _ _ _, hl, hb, hf, hp⟩, ⟨(x + 7) % 8, by omega, rfl, (show H.length ≤ 8 by omega), ea, ?_⟩, Or.inl rfl, Or.inl rfl, Or.inl rfl, Or.inl rfl, hi⟩
        intro i d hd
        have hil : i < H.length := (List.getElem?_eq_some_iff.mp hd).1
        have hd' : σ.2.1[i]? = some d := by rw [hcc, List.getElem?_append_left hil]; exact hd
        have e2 : qpls ((x + 7) % 8) H.length i = qpls x σ.2.1.length i := by unfold qpls; rw [hlen]; omega
        rw [e2]
        exact hx5 i d hd'
      · rw [hcc] at rh
        obtain ⟨a', k1, k2, k3, k4, k5⟩ := R_undo_q H c _ (t.1 0) _ (t.2.1 0) rh N (by omega)
        unfold sR_undo
        rw [k1, db_some]
        exact ⟨_, rfl, ⟨k2, (k4 316 (by omega)).trans r1, (k4 317 (by omega)).trans r2, (k4 318 (by omega)).trans r3, r4⟩, k5, qIRs_c ri (fun j hj => k4 j (by omega)) (fun _ _ => rfl)⟩
    exact ⟨x, σ', hx, hx2, h⟩
def qIm (s : SJ) (k : Nat) : SJ := (s.1, s.2.1, s.2.2.1, (va_up (va_up (va_up (va_up (va_up (va_up (va_up (va_up (va_up s.2.2.2.1 0 (va_up (s.2.2.2.1 0) k (s.1 4))) 1 (va_up (s.2.2.2.1 1) k (s.1 5))) 2 (va_up (s.2.2.2.1 2) k (1))) 8 (va_up (s.2.2.2.1 8) k (s.1 41))) 9 (va_up (s.2.2.2.1 9) k (s.1 42))) 10 (va_up (s.2.2.2.1 10) k (s.1 43))) 11 (va_up (s.2.2.2.1 11) k (s.1 44))) 12 (va_up (s.2.2.2.1 12) k (s.1 45))) 13 (va_up (s.2.2.2.1 13) k (s.1 46))), (va_up (va_up (va_up (va_up (va_up (va_up (va_up s.2.2.2.2 6 (va_up (s.2.2.2.2 6) k (va_cpy (s.2.1 29) (s.2.2.2.2 6 k) 0 0 16))) 7 (va_up (s.2.2.2.2 7) k (va_cpy (s.2.1 30) (s.2.2.2.2 7 k) 0 0 16))) 8 (va_up (s.2.2.2.2 8) k (va_cpy (s.2.1 31) (s.2.2.2.2 8 k) 0 0 16))) 9 (va_up (s.2.2.2.2 9) k (va_cpy (s.2.1 32) (s.2.2.2.2 9 k) 0 0 8))) 10 (va_up (s.2.2.2.2 10) k (va_cpy (s.2.1 33) (s.2.2.2.2 10 k) 0 0 7))) 11 (va_up (s.2.2.2.2 11) k (va_cpy (s.2.1 34) (s.2.2.2.2 11 k) 0 0 7))) 12 (va_up (s.2.2.2.2 12) k (va_cpy (s.2.1 35) (s.2.2.2.2 12 k) 0 0 500))))
theorem sJ_image0_e (s : SJ) : sJ_image0 s = some (1, qIm s 0) := rfl
theorem sJ_image1_e (s : SJ) : sJ_image1 s = some (1, qIm s 1) := rfl
theorem sJ_image2_e (s : SJ) : sJ_image2 s = some (1, qIm s 2) := rfl
def sJi (x : Nat) (s : SJ) : Option (Int32 × SJ) := match x with
  | 0 => sJ_image0 s
  | 1 => sJ_image1 s
  | _ => sJ_image2 s
theorem sJi_e (x : Nat) (hx : x < 3) (s : SJ) : sJi x s = some (1, qIm s x) := by
  match x, hx with
  | 0, _ => exact sJ_image0_e s
  | 1, _ => exact sJ_image1_e s
  | 2, _ => exact sJ_image2_e s
  | n + 3, h => omega
def qAg (s : SJ) (k : Nat) : SJ := ((va_up (va_up (va_up (va_up (va_up (va_up (va_up (va_up (va_up (va_up (va_up (va_up (va_up s.1 0 (0)) 2 (0)) 3 (0)) 4 (s.2.2.2.1 0 k)) 5 (s.2.2.2.1 1 k)) 21 (0)) 22 (0)) 41 (s.2.2.2.1 8 k)) 42 (s.2.2.2.1 9 k)) 43 (s.2.2.2.1 10 k)) 44 (s.2.2.2.1 11 k)) 45 (s.2.2.2.1 12 k)) 46 (s.2.2.2.1 13 k)), (va_up (va_up (va_up (va_up (va_up (va_up (va_up s.2.1 29 (va_cpy (s.2.2.2.2 6 k) (s.2.1 29) 0 0 16)) 30 (va_cpy (s.2.2.2.2 7 k) (s.2.1 30) 0 0 16)) 31 (va_cpy (s.2.2.2.2 8 k) (s.2.1 31) 0 0 16)) 32 (va_cpy (s.2.2.2.2 9 k) (s.2.1 32) 0 0 8)) 33 (va_cpy (s.2.2.2.2 10 k) (s.2.1 33) 0 0 7)) 34 (va_cpy (s.2.2.2.2 11 k) (s.2.1 34) 0 0 7)) 35 (va_cpy (s.2.2.2.2 12 k) (s.2.1 35) 0 0 500)), s.2.2.1, s.2.2.2.1, s.2.2.2.2)
theorem sJ_again0_e (s : SJ) (h : ¬ s.2.2.2.1 2 0 = 0) : sJ_again0 s = some (1, qAg s 0) := by
  unfold sJ_again0 J_again0
  rw [if_neg h]
  rfl
theorem sJ_again0_z (s : SJ) (h : s.2.2.2.1 2 0 = 0) : ∃ s', sJ_again0 s = some (0, s') ∧ ∀ σ, qRelJ σ s → qRelJ σ s' := by
  unfold sJ_again0 J_again0
  rw [if_pos h]
  exact ⟨_, rfl, fun σ hJ => hJ⟩
theorem sJ_again1_e (s : SJ) (h : ¬ s.2.2.2.1 2 1 = 0) : sJ_again1 s = some (1, qAg s 1) := by
  unfold sJ_again1 J_again1
  rw [if_neg h]
  rfl
theorem sJ_again1_z (s : SJ) (h : s.2.2.2.1 2 1 = 0) : ∃ s', sJ_again1 s = some (0, s') ∧ ∀ σ, qRelJ σ s → qRelJ σ s' := by
  unfold sJ_again1 J_again1
  rw [if_pos h]
  exact ⟨_, rfl, fun σ hJ => hJ⟩
theorem sJ_again2_e (s : SJ) (h : ¬ s.2.2.2.1 2 2 = 0) : sJ_again2 s = some (1, qAg s 2) := by
  unfold sJ_again2 J_again2
  rw [if_neg h]
  rfl
theorem sJ_again2_z (s : SJ) (h : s.2.2.2.1 2 2 = 0) : ∃ s', sJ_again2 s = some (0, s') ∧ ∀ σ, qRelJ σ s → qRelJ σ s' := by
  unfold sJ_again2 J_again2
  rw [if_pos h]
  exact ⟨_, rfl, fun σ hJ => hJ⟩
def sJa (x : Nat) (s : SJ) : Option (Int32 × SJ) := match x with
  | 0 => sJ_again0 s
  | 1 => sJ_again1 s
  | _ => sJ_again2 s
theorem sJa_e (x : Nat) (hx : x < 3) (s : SJ) (h : ¬ s.2.2.2.1 2 x = 0) : sJa x s = some (1, qAg s x) := by
  match x, hx with
  | 0, _ => exact sJ_again0_e s h
  | 1, _ => exact sJ_again1_e s h
  | 2, _ => exact sJ_again2_e s h
  | n + 3, h => omega
theorem sJa_z (x : Nat) (hx : x < 3) (s : SJ) (h : s.2.2.2.1 2 x = 0) : ∃ s', sJa x s = some (0, s') ∧ ∀ σ, qRelJ σ s → qRelJ σ s' := by
  match x, hx with
  | 0, _ => exact sJ_again0_z s h
  | 1, _ => exact sJ_again1_z s h
  | 2, _ => exact sJ_again2_z s h
  | n + 3, h => omega
theorem q_nar255 (v : Int32) : vp_nar .byte v &&& (255 : Int32) = v &&& (255 : Int32) := by
  show v.toInt8.toInt32 &&& (255 : Int32) = _
  rw [q_and255, q_and255, Int8.toBitVec_toInt32, q_sext _ (by omega) (by omega), Int32.toBitVec_toInt8, q_sext _ (by omega) (by omega)]
theorem qFR_c2 {φ : Qf} (hc : qcok φ.1) {a a' tx tx' : Nat → Int32} (h : qFR φ a tx) (e : ∀ j, j < 319 → a' j = a j) (e' : ∀ j, j < 500 → tx' j &&& (255 : Int32) = tx j &&& (255 : Int32)) : qFR φ a' tx' := by
  obtain ⟨h1, h2, h3, h4, h5, h6, h7⟩ := h
  refine ⟨qRc_c hc h1 (fun j hj => e j (by omega)), by rw [e 316 (by omega)]; exact h2, by rw [e 317 (by omega)]; exact h3, by rw [e 318 (by omega)]; exact h4, h5, h6, ?_⟩
  intro i hi
  rw [e' i (by omega)]
  exact h7 i hi
theorem R_copiesText_q (all tx : Nat → Int32) (f g : Nat) (hf : f ≤ 3) (hg : g ≤ 3) (hfg : f ≠ g) (N : Nat) (hN : 3000 < N) :
    ∃ a' tx', R_copiesText N all tx (qi f) (qi g) = some (a', tx') ∧ (∀ j, j < 319 → a' (319 * g + j) = all (319 * f + j)) ∧ (∀ j, j < 319 * g ∨ 319 * g + 319 ≤ j → a' j = all j) ∧
      (∀ j, j < 500 → tx' (500 * g + j) = vp_nar .byte (tx (500 * f + j))) ∧ (∀ j, j < 500 * g ∨ 500 * g + 500 ≤ j → tx' j = tx j) := by
  have key := qlp_rel (body := fun x : (Nat → Int32) × Int32 => R_copies_b2 N x.1 (qi f) (qi g) x.2)
    (Inv := fun i x => x.2 = qi i ∧ (∀ j, j < i → x.1 (319 * g + j) = all (319 * f + j)) ∧ ∀ j, j < 319 * g ∨ 319 * g + i ≤ j → x.1 j = all j) 319
    (Q := fun y => (∀ j, j < 319 → y (319 * g + j) = all (319 * f + j)) ∧ ∀ j, j < 319 * g ∨ 319 * g + 319 ≤ j → y j = all j)
    (by
      rintro i ⟨y, x⟩ hi ⟨rfl, k1, k2⟩
      simp only at k1 k2
      have e1 : y (319 * f + i) = all (319 * f + i) := k2 _ (by omega)
      refine ⟨(upd y (319 * g + i) (all (319 * f + i)), qi (i + 1)), ?_, rfl, ?_, ?_⟩
      · simp (disch := omega) only [R_copies_b2, qi_lit, qi_m1, qi_add, qi_mul, qi_and, qi_or, qi_xor, qi_not, qi_shl, qi_shr, qi_and31, qi_nat, qi_inb, qi_eq, qi_lt, qi_le, qi_sub, dn, db_some, dk_t, if_neg (show ¬ 319 ≤ i by omega), e1]
      · intro j hj
        show upd y (319 * g + i) _ (319 * g + j) = _
        by_cases e : j = i
        · subst e; exact upd_self _ _ _
        · rw [upd_ne _ _ (by omega)]; exact k1 j (by omega)
      · intro j hj
        show upd y (319 * g + i) _ j = _
        rw [upd_ne _ _ (by omega)]; exact k2 j (by omega))
    (by
      rintro ⟨y, x⟩ ⟨rfl, k⟩
      exact ⟨y, by simp (disch := omega) only [R_copies_b2, qi_lit, qi_m1, qi_add, qi_mul, qi_and, qi_or, qi_xor, qi_not, qi_shl, qi_shr, qi_and31, qi_nat, qi_inb, qi_eq, qi_lt, qi_le, qi_sub]; simp, k⟩)
    (all, qi 0) ⟨rfl, by intro j h; omega, fun j _ => rfl⟩ N (by omega)
  obtain ⟨a', e1, q1, q2⟩ := key
  have key2 := qlp_rel (body := fun x : (Nat → Int32) × Int32 => R_copiesText_b8 N a' x.1 (qi f) (qi g) x.2)
    (Inv := fun i x => x.2 = qi i ∧ (∀ j, j < i → x.1 (500 * g + j) = vp_nar .byte (tx (500 * f + j))) ∧ ∀ j, j < 500 * g ∨ 500 * g + i ≤ j → x.1 j = tx j) 500
    (Q := fun y => (∀ j, j < 500 → y (500 * g + j) = vp_nar .byte (tx (500 * f + j))) ∧ ∀ j, j < 500 * g ∨ 500 * g + 500 ≤ j → y j = tx j)
    (by
      rintro i ⟨y, x⟩ hi ⟨rfl, k1, k2⟩
      simp only at k1 k2
      have e1 : y (500 * f + i) = tx (500 * f + i) := k2 _ (by omega)
      refine ⟨(upd y (500 * g + i) (vp_nar .byte (tx (500 * f + i))), qi (i + 1)), ?_, rfl, ?_, ?_⟩
      · simp (disch := omega) only [R_copiesText_b8, qi_lit, qi_m1, qi_add, qi_mul, qi_and, qi_or, qi_xor, qi_not, qi_shl, qi_shr, qi_and31, qi_nat, qi_inb, qi_eq, qi_lt, qi_le, qi_sub, dn, db_some, dk_t, if_neg (show ¬ 500 ≤ i by omega), e1]
      · intro j hj
        show upd y (500 * g + i) _ (500 * g + j) = _
        by_cases e : j = i
        · subst e; exact upd_self _ _ _
        · rw [upd_ne _ _ (by omega)]; exact k1 j (by omega)
      · intro j hj
        show upd y (500 * g + i) _ j = _
        rw [upd_ne _ _ (by omega)]; exact k2 j (by omega))
    (by
      rintro ⟨y, x⟩ ⟨rfl, k⟩
      exact ⟨y, by simp (disch := omega) only [R_copiesText_b8, qi_lit, qi_m1, qi_add, qi_mul, qi_and, qi_or, qi_xor, qi_not, qi_shl, qi_shr, qi_and31, qi_nat, qi_inb, qi_eq, qi_lt, qi_le, qi_sub]; simp, k⟩)
    (tx, qi 0) ⟨rfl, by intro j h; omega, fun j _ => rfl⟩ N (by omega)
  obtain ⟨tx', e2, q3, q4⟩ := key2
  refine ⟨a', tx', ?_, q1, q2, q3, q4⟩
  unfold R_copiesText R_copies R_copies_2
  have e1' : lp (fun x : (Nat → Int32) × Int32 => R_copies_b2 N x.1 (qi f) (qi g) x.2) N (all, (0 : Int32)) = some a' := e1
  have e2' : lp (fun x : (Nat → Int32) × Int32 => R_copiesText_b8 N a' x.1 (qi f) (qi g) x.2) N (tx, (0 : Int32)) = some tx' := e2
  rw [e1', db_some]
  unfold R_copies_a2 R_copies_39
  rw [db_some]
  unfold R_copiesText_8
  rw [e2', db_some]
  rfl
theorem qq_image_no (σ : Qσ) (s : SJ) (t : SR) (hJ : qRelJ σ s) (hR : qRelR σ t) (N : Nat) (hN : 200000 < N) (x1 : Int32) (hx : qin 0 2 x1 = false) : ∃ σ', qOk σ' (sJ_imageR s x1) (sR_image N t x1) := by
  have e1 : R_in x1.toInt64 0 2 = 0 := by rw [R_in_x, show (0 : Int64).toInt = 0 from rfl, show (2 : Int64).toInt = 2 from rfl, hx]; rfl
  refine qYesJ σ 0 ?_ ?_
  · have e2 : J_imageR x1 = some 0 := by
      unfold J_imageR
      by_cases c : x1 < 0
      · rw [if_pos c]
      · rw [if_neg c]
        unfold qin at hx
        have h0 : ¬ x1.toInt < 0 := fun h => c (Int32.lt_iff_toInt_lt.mpr h)
        rw [decide_eq_true (by omega), Bool.true_and] at hx
        have := of_decide_eq_false hx
        rw [if_neg (show ¬ x1 < 3 from fun h => by have := Int32.lt_iff_toInt_lt.mp h; rw [show (3 : Int32).toInt = 3 from rfl] at this; omega)]
    unfold sJ_imageR
    rw [e2, db_some]
    exact ⟨_, rfl, hJ⟩
  · unfold sR_image R_image
    rw [if_pos e1]
    exact ⟨_, rfl, hR⟩
theorem qq_again_no (σ : Qσ) (s : SJ) (t : SR) (hJ : qRelJ σ s) (hR : qRelR σ t) (N : Nat) (hN : 200000 < N) (x1 : Int32) (hx : qin 0 2 x1 = false) : ∃ σ', qOk σ' (sJ_againR s x1) (sR_again N t x1) := by
  have e1 : R_in x1.toInt64 0 2 = 0 := by rw [R_in_x, show (0 : Int64).toInt = 0 from rfl, show (2 : Int64).toInt = 2 from rfl, hx]; rfl
  refine qYesJ σ 0 ?_ ?_
  · have e2 : J_againR x1 = some 0 := by
      unfold J_againR
      by_cases c : x1 < 0
      · rw [if_pos c]
      · rw [if_neg c]
        unfold qin at hx
        have h0 : ¬ x1.toInt < 0 := fun h => c (Int32.lt_iff_toInt_lt.mpr h)
        rw [decide_eq_true (by omega), Bool.true_and] at hx
        have := of_decide_eq_false hx
        rw [if_pos (show (3 : Int32) ≤ x1 from Int32.le_iff_toInt_le.mpr (by rw [show (3 : Int32).toInt = 3 from rfl]; omega))]
    unfold sJ_againR
    rw [e2, db_some]
    exact ⟨_, rfl, hJ⟩
  · unfold sR_again R_again
    rw [if_pos e1]
    exact ⟨_, rfl, hR⟩
theorem qFJ_cpy {φ : Qf} {rel edg lim ro jo len fa pl : Int32} {by' left right rows pt st bytes : Nat → Int32} (h : qFJ φ rel edg lim ro jo len fa pl by' left right rows pt st bytes) (b2 l2 r2 w2 p2 s2 y2 : Nat → Int32) :
    qFJ φ rel edg lim ro jo len fa pl (va_cpy by' b2 0 0 16) (va_cpy left l2 0 0 16) (va_cpy right r2 0 0 16) (va_cpy rows w2 0 0 8) (va_cpy pt p2 0 0 7) (va_cpy st s2 0 0 7) (va_cpy bytes y2 0 0 500) := by
  obtain ⟨h1, h2, h3, ⟨h4, h5, h6⟩, h7, h8⟩ := h
  refine ⟨h1, qJc_cpy h1 h2 _ _ _ _ _ _, h3, ⟨h4, h5, ?_⟩, h7, h8⟩
  intro i hi
  unfold va_cpy
  rw [if_pos (by omega)]
  simpa using h6 i hi
theorem qq_image (σ : Qσ) (s : SJ) (t : SR) (hJ : qRelJ σ s) (hR : qRelR σ t) (N : Nat) (hN : 200000 < N) (k : Nat) (hk : k < 3) : ∃ σ', qOk σ' (sJi k s) (sR_image N t (qi k)) := by
  obtain ⟨⟨hc, hj, hl, hb, hf, hp⟩, hh, hs, hpp, hb0, hb1, hi⟩ := id hJ
  obtain ⟨⟨rc, r1, r2, r3, r4⟩, rh, ri⟩ := id hR
  refine qYesJ (σ.1, σ.2.1, va_up σ.2.2 k (some σ.1)) 1 ?_ ?_
  · rw [sJi_e k hk s]
    refine ⟨_, rfl, ⟨hc, hj, hl, hb, hf, hp⟩, hh, hs, hpp, hb0, hb1, ?_⟩
    intro j hj3
    by_cases e : j = k
    · subst e
      refine Or.inr ⟨σ.1, vq_up_self _ _ _, ?_, ?_⟩
      · exact vq_up_self (s.2.2.2.1 2) j 1
      · have := qFJ_cpy ⟨hc, hj, hl, hb, hf, hp⟩ (s.2.2.2.2 6 j) (s.2.2.2.2 7 j) (s.2.2.2.2 8 j) (s.2.2.2.2 9 j) (s.2.2.2.2 10 j) (s.2.2.2.2 11 j) (s.2.2.2.2 12 j)
        show qFJ σ.1 (va_up (s.2.2.2.1 8) j (s.1 41) j) (va_up (s.2.2.2.1 9) j (s.1 42) j) (va_up (s.2.2.2.1 10) j (s.1 43) j) (va_up (s.2.2.2.1 11) j (s.1 44) j) (va_up (s.2.2.2.1 12) j (s.1 45) j) (va_up (s.2.2.2.1 13) j (s.1 46) j) (va_up (s.2.2.2.1 0) j (s.1 4) j) (va_up (s.2.2.2.1 1) j (s.1 5) j)
          (va_up (s.2.2.2.2 6) j _ j) (va_up (s.2.2.2.2 7) j _ j) (va_up (s.2.2.2.2 8) j _ j) (va_up (s.2.2.2.2 9) j _ j) (va_up (s.2.2.2.2 10) j _ j) (va_up (s.2.2.2.2 11) j _ j) (va_up (s.2.2.2.2 12) j _ j)
        simp only [vq_up_self]
        exact this
    · have := hi j hj3
      show qIJ (va_up σ.2.2 k (some σ.1) j) (va_up (s.2.2.2.1 2) k 1 j) (va_up (s.2.2.2.1 8) k (s.1 41) j) (va_up (s.2.2.2.1 9) k (s.1 42) j) (va_up (s.2.2.2.1 10) k (s.1 43) j) (va_up (s.2.2.2.1 11) k (s.1 44) j) (va_up (s.2.2.2.1 12) k (s.1 45) j) (va_up (s.2.2.2.1 13) k (s.1 46) j) (va_up (s.2.2.2.1 0) k (s.1 4) j) (va_up (s.2.2.2.1 1) k (s.1 5) j)
          (va_up (s.2.2.2.2 6) k _ j) (va_up (s.2.2.2.2 7) k _ j) (va_up (s.2.2.2.2 8) k _ j) (va_up (s.2.2.2.2 9) k _ j) (va_up (s.2.2.2.2 10) k _ j) (va_up (s.2.2.2.2 11) k _ j) (va_up (s.2.2.2.2 12) k _ j)
      simp only [vq_up_ne _ _ _ _ e]
      exact this
  · obtain ⟨a', tx', c1, c2, c3, c4, c5⟩ := R_copiesText_q (t.2.1 0) (t.2.1 12) 0 (k + 1) (by omega) (by omega) (by omega) N (by omega)
    have e1 : ¬ R_in (qi k).toInt64 0 2 = 0 := by
      rw [R_in_x, show (0 : Int64).toInt = 0 from rfl, show (2 : Int64).toInt = 2 from rfl, qin_i _ _ _ (by omega), decide_eq_true (by omega), decide_eq_true (by omega)]; decide
    unfold sR_image R_image
    have c1' : R_copiesText N (t.2.1 0) (t.2.1 12) (0 : Int32) (qi k + 1) = some (a', tx') := by
      rw [show (1 : Int32) = qi 1 from rfl, qi_add]; exact c1
    rw [if_neg e1, c1', db_some, dk_t ((qi_inb _ 3 (by omega)).mpr hk), qi_nat _ (by omega)]
    refine ⟨_, rfl, qFR_c hc ⟨rc, r1, r2, r3, r4⟩ (fun j hj => c3 j (by omega)) (fun j hj => c5 j (by omega)), rh, ?_⟩
    intro j hj3
    by_cases e : j = k
    · subst e
      refine Or.inr ⟨σ.1, vq_up_self _ _ _, ?_, hc, ?_⟩
      · exact upd_self _ _ _
      · refine qFR_c2 hc (a := (t.2.1 0)) (tx := (t.2.1 12)) ⟨rc, r1, r2, r3, r4⟩ ?_ ?_
        · intro i hi
          have := c2 i hi
          rw [Nat.mul_zero, Nat.zero_add] at this
          exact this
        · intro i hi
          have := c4 i hi
          rw [Nat.mul_zero, Nat.zero_add] at this
          show tx' (500 * (j + 1) + i) &&& _ = _
          rw [this, q_nar255]
    · have hq : qIR (va_up σ.2.2 k (some σ.1) j) (upd (t.2.1 11) k (vp_nar .boolean 1) j) (fun i => a' (319 * (j + 1) + i)) (fun i => tx' (500 * (j + 1) + i)) := by
        rw [vq_up_ne _ _ _ _ e, upd_ne _ _ e]
        rcases ri j hj3 with h | ⟨φ, h1, h2, h3, h4⟩
        · exact Or.inl h
        · exact Or.inr ⟨φ, h1, h2, h3, qFR_c h3 h4 (fun i hi => c3 _ (by omega)) (fun i hi => c5 _ (by omega))⟩
      exact hq
theorem qq_again (σ : Qσ) (s : SJ) (t : SR) (hJ : qRelJ σ s) (hR : qRelR σ t) (N : Nat) (hN : 200000 < N) (k : Nat) (hk : k < 3) : ∃ σ', qOk σ' (sJa k s) (sR_again N t (qi k)) := by
  obtain ⟨⟨hc, hj, hl, hb, hf, hp⟩, hh, hs, hpp, hb0, hb1, hi⟩ := id hJ
  obtain ⟨⟨rc, r1, r2, r3, r4⟩, rh, ri⟩ := id hR
  have e1 : ¬ R_in (qi k).toInt64 0 2 = 0 := by
    rw [R_in_x, show (0 : Int64).toInt = 0 from rfl, show (2 : Int64).toInt = 2 from rfl, qin_i _ _ _ (by omega), decide_eq_true (by omega), decide_eq_true (by omega)]; decide
  have ib : inb (qi k) 3 := (qi_inb _ 3 (by omega)).mpr hk
  rcases hi k hk with ⟨m1, m2⟩ | ⟨φ, m1, m2, m3⟩
  · have rs : (t.2.1 11) k = 0 := by
      rcases ri k hk with ⟨_, h⟩ | ⟨φ, h1, _⟩
      · exact h
      · rw [m1] at h1; exact absurd h1 (by simp)
    refine qYesJ σ 0 ?_ ?_
    · obtain ⟨s', z1, z2⟩ := sJa_z k hk s m2
      exact ⟨s', z1, z2 σ hJ⟩
    · unfold sR_again R_again
      rw [if_neg e1, dk_t ib, qi_nat _ (by omega), if_pos rs]
      exact ⟨_, rfl, hR⟩
  · rcases ri k hk with ⟨h, _⟩ | ⟨φ', h1, h2, h3, h4⟩
    · rw [m1] at h; exact absurd h (by simp)
    · have : φ' = φ := by rw [m1] at h1; exact (Option.some.inj h1).symm
      subst this
      have rs : ¬ (t.2.1 11) k = 0 := by rw [h2]; decide
      refine qYesJ (φ', [], σ.2.2) 1 ?_ ?_
      · rw [sJa_e k hk s (by rw [m2]; decide)]
        obtain ⟨x, hx1, hx2, _⟩ := hh
        exact ⟨_, rfl, qFJ_cpy m3 _ _ _ _ _ _ _, ⟨x, hx1, hx2, Nat.zero_le _, rfl, fun i c h => by simp at h⟩, Or.inl rfl, Or.inl rfl, Or.inl rfl, Or.inl rfl, hi⟩
      · obtain ⟨a', tx', c1, c2, c3, c4, c5⟩ := R_copiesText_q (t.2.1 0) (t.2.1 12) (k + 1) 0 (by omega) (by omega) (by omega) N (by omega)
        unfold sR_again R_again
        have c1' : R_copiesText N (t.2.1 0) (t.2.1 12) (qi k + 1) (0 : Int32) = some (a', tx') := by
          rw [show (1 : Int32) = qi 1 from rfl, qi_add]; exact c1
        rw [if_neg e1, dk_t ib, qi_nat _ (by omega), if_neg rs, c1', db_some]
        refine ⟨_, rfl, ?_, ⟨Nat.zero_le _, rfl, fun i c h => by simp at h⟩, qIRs_c ri (fun j hj => c3 j (by omega)) (fun j hj => c5 j (by omega))⟩
        refine qFR_c2 h3 h4 ?_ ?_
        · intro i hi
          have := c2 i hi
          rw [Nat.mul_zero, Nat.zero_add] at this
          exact this
        · intro i hi
          have := c4 i hi
          rw [Nat.mul_zero, Nat.zero_add] at this
          show tx' i &&& _ = _
          rw [this, q_nar255]
