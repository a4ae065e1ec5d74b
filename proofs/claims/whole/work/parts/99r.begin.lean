def g0 : Qg := (0, 0, 1000, fun _ => 0, fun _ => 0, fun _ => 0, fun _ => 0)
def σ0 : Qσ := (((g0, none), (0, fun _ => 0), 0, -1), [], fun _ => none)
theorem c0_ok : qcok (g0, none) := ⟨⟨Nat.le_of_ble_eq_true rfl, Nat.le_of_ble_eq_true rfl, Nat.le_of_ble_eq_true rfl, fun r h => absurd h (Nat.not_lt_zero r), fun e h => absurd h (Nat.not_lt_zero e)⟩, fun t h => by cases h⟩
theorem rel0J : qRelJ σ0 s0J := by
  refine ⟨⟨c0_ok, ⟨⟨rfl, rfl, rfl, fun r h => absurd h (Nat.not_lt_zero r), fun e h => absurd h (Nat.not_lt_zero e)⟩, rfl⟩, rfl, ⟨Nat.zero_le _, fun _ => Nat.le_of_ble_eq_true rfl, fun i h => absurd h (Nat.not_lt_zero i)⟩, rfl, rfl⟩, ⟨0, by decide, rfl, Nat.zero_le _, rfl, fun i c h => ?_⟩, Or.inl rfl, Or.inl rfl, Or.inl rfl, Or.inl rfl, fun k hk => Or.inl ⟨rfl, rfl⟩⟩
  have h : ([] : List Qc)[i]? = some c := h
  simp at h
theorem t0a (j : Nat) : t0R.2.1 0 j = if j = 318 then -1 else if j = 58 then 1000 else 0 := by
  have e : t0R.2.1 0 j = upd (upd (fun _ => 0) (58 : Int32).toNatClampNeg 1000) (318 : Int32).toNatClampNeg (-1) j := rfl
  rw [e, show (58 : Int32).toNatClampNeg = 58 from by decide, show (318 : Int32).toNatClampNeg = 318 from by decide, upd_q, upd_q]
theorem rel0R : qRelR σ0 t0R := by
  refine ⟨⟨⟨⟨?_, ?_, ?_, fun r h => absurd h (Nat.not_lt_zero r), fun e h => absurd h (Nat.not_lt_zero e)⟩, ?_, fun s hs => ?_⟩, ?_, ?_, ?_, Nat.zero_le _, fun _ => Nat.le_of_ble_eq_true rfl, fun i h => absurd h (Nat.not_lt_zero i)⟩, ⟨Nat.zero_le _, rfl, fun i c h => ?_⟩, fun k hk => Or.inl ⟨rfl, rfl⟩⟩
  · rw [t0a]; rfl
  · rw [t0a]; rfl
  · rw [t0a]; rfl
  · rw [t0a]; rfl
  · rw [t0a]
    by_cases h1 : 60 + s = 318
    · omega
    · rw [if_neg h1, if_neg (by omega)]
      rfl
  · rw [t0a]; rfl
  · rw [t0a]; rfl
  · rw [t0a]; rfl
  · have h : ([] : List Qc)[i]? = some c := h
    simp at h
theorem lw_re {A : Nat → Prop} {D : va_G} {cl : List vw_C} {x : Nat × va_E} {r j : va_W} {H : Heap} (hP : va_P D cl (x :: (r ++ j)) H) (hD : va_D A (x :: (r ++ j))) : va_P D cl (j ++ (r ++ [x])) H ∧ va_D A (j ++ (r ++ [x])) := by
  have at1 : ∀ (k : Nat) (q : Nat × va_E), (j ++ (r ++ [x]))[k]? = some q → ∃ k' : Nat, (x :: (r ++ j))[k']? = some q ∧ ((k < j.length ∧ k' = 1 + r.length + k) ∨ (j.length ≤ k ∧ k < j.length + r.length ∧ k' = 1 + (k - j.length)) ∨ (k = j.length + r.length ∧ k' = 0)) := by
    intro k q h
    rcases ap_split h with ⟨h1, h2⟩ | ⟨i, rfl, h2⟩ | ⟨i, rfl, h2⟩
    · refine ⟨1 + r.length + k, ?_, Or.inl ⟨h1, rfl⟩⟩
      rw [show 1 + r.length + k = (r.length + k) + 1 by omega, List.getElem?_cons_succ, List.getElem?_append_right (by omega), show r.length + k - r.length = k by omega]
      exact h2
    · have hi : i < r.length := (List.getElem?_eq_some_iff.mp h2).1
      refine ⟨1 + i, ?_, Or.inr (Or.inl ⟨by omega, by omega, by omega⟩)⟩
      rw [show 1 + i = i + 1 by omega, List.getElem?_cons_succ, List.getElem?_append_left hi]
      exact h2
    · have hi : i < 1 := by
        have := (List.getElem?_eq_some_iff.mp h2).1
        simpa using this
      have e0 : i = 0 := by omega
      subst e0
      exact ⟨0, by simpa using h2, Or.inr (Or.inr ⟨by omega, rfl⟩)⟩
  refine ⟨fun k q h => ?_, fun i k p q hi hk e => ?_, fun k q h => ?_⟩
  · obtain ⟨k', h1, -⟩ := at1 k q h
    exact hP k' q h1
  · obtain ⟨i', h1, h2⟩ := at1 i p hi
    obtain ⟨k', h3, h4⟩ := at1 k q hk
    have := hD.1 i' k' p q h1 h3 e
    omega
  · obtain ⟨k', h1, -⟩ := at1 k q h
    exact hD.2 k' q h1
theorem lp_gt {L i : Nat} (hL : L ≤ 2048) (hi : i ≤ L) (h : ¬ (qi L - (4 : Int32) < qi i)) : i + 4 ≤ L := by
  by_cases h4 : 4 ≤ L
  · have e : qi L - (4 : Int32) = qi (L - 4) := qi_sub L 4 h4
    rw [e] at h
    have := mt (qi_lt (L - 4) i (by omega) (by omega)).mpr h
    omega
  · refine absurd ?_ h
    have h3 : L = 0 ∨ L = 1 ∨ L = 2 ∨ L = 3 := by omega
    have h5 : i = 0 ∨ i = 1 ∨ i = 2 ∨ i = 3 := by omega
    rcases h3 with rfl | rfl | rfl | rfl <;> rcases h5 with rfl | rfl | rfl | rfl <;> decide
