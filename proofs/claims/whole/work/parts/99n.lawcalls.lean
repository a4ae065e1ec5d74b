theorem ap_get (u wc v : va_W) {k : Nat} {q : Nat × va_E} (h : wc[k]? = some q) : (u ++ (wc ++ v))[u.length + k]? = some q := by
  have hk : k < wc.length := (List.getElem?_eq_some_iff.mp h).1
  rw [List.getElem?_append_right (by omega), show u.length + k - u.length = k by omega, List.getElem?_append_left hk]
  exact h
theorem ap_P {D : va_G} {cl : List vw_C} {u wc v : va_W} {H : Heap} (h : va_P D cl (u ++ (wc ++ v)) H) : va_P D cl wc H := fun k q hk => h _ q (ap_get u wc v hk)
theorem ap_D {A : Nat → Prop} {u wc v : va_W} (h : va_D A (u ++ (wc ++ v))) : va_D A wc :=
  ⟨fun i j x y hi hj e => by
    have := h.1 _ _ x y (ap_get u wc v hi) (ap_get u wc v hj) e
    omega, fun k q hk => h.2 _ q (ap_get u wc v hk)⟩
theorem ap_A {A : Nat → Prop} {wc : va_W} (h : va_D A wc) : ∀ q, cA wc q → A q := fun q ⟨k, e, hk⟩ => h.2 k (q, e) hk
theorem ap_split {u wc v : va_W} {k : Nat} {q : Nat × va_E} (h : (u ++ (wc ++ v))[k]? = some q) : (k < u.length ∧ u[k]? = some q) ∨ (∃ j, k = u.length + j ∧ wc[j]? = some q) ∨ (∃ j, k = u.length + wc.length + j ∧ v[j]? = some q) := by
  by_cases h1 : k < u.length
  · rw [List.getElem?_append_left h1] at h
    exact Or.inl ⟨h1, h⟩
  · rw [List.getElem?_append_right (by omega)] at h
    by_cases h2 : k - u.length < wc.length
    · rw [List.getElem?_append_left h2] at h
      exact Or.inr (Or.inl ⟨k - u.length, by omega, h⟩)
    · rw [List.getElem?_append_right (by omega)] at h
      exact Or.inr (Or.inr ⟨k - u.length - wc.length, by omega, h⟩)
theorem ap_u {u wc v : va_W} {k : Nat} (h : k < u.length) : (u ++ (wc ++ v))[k]? = u[k]? := List.getElem?_append_left h
theorem ap_v {u wc v : va_W} (k : Nat) : (u ++ (wc ++ v))[u.length + wc.length + k]? = v[k]? := by
  rw [List.getElem?_append_right (by omega), List.getElem?_append_right (by omega), show u.length + wc.length + k - u.length - wc.length = k by omega]
theorem ap_join {A : Nat → Prop} {D : va_G} {cl : List vw_C} {u wc w1 v : va_W} {H H1 : Heap} (hP : va_P D cl (u ++ (wc ++ v)) H) (hD : va_D A (u ++ (wc ++ v))) (hadr : w1.map Prod.fst = wc.map Prod.fst) (hk : ∀ q : Nat, q < H.size → ¬ cA wc q → H1[q]? = H[q]?) (hP1 : va_P D cl w1 H1) : va_P D cl (u ++ (w1 ++ v)) H1 ∧ va_D A (u ++ (w1 ++ v)) := by
  have hlen : w1.length = wc.length := by
    have := congrArg List.length hadr
    simpa using this
  have at1 : ∀ (j : Nat) (q : Nat × va_E), w1[j]? = some q → ∃ q0, wc[j]? = some q0 ∧ q0.1 = q.1 := by
    intro j q hq
    have h1 : (w1.map Prod.fst)[j]? = some q.1 := by rw [List.getElem?_map, hq]; rfl
    rw [hadr, List.getElem?_map] at h1
    cases hi : wc[j]? with
    | none => rw [hi] at h1; cases h1
    | some q0 => rw [hi] at h1; exact ⟨q0, rfl, Option.some.inj h1⟩
  have old : ∀ (k : Nat) (q : Nat × va_E), (u ++ (w1 ++ v))[k]? = some q → ∃ q0, (u ++ (wc ++ v))[k]? = some q0 ∧ q0.1 = q.1 := by
    intro k q hq
    rcases ap_split hq with ⟨h1, h2⟩ | ⟨j, rfl, h2⟩ | ⟨j, rfl, h2⟩
    · exact ⟨q, by rw [ap_u h1]; exact h2, rfl⟩
    · obtain ⟨q0, h3, h4⟩ := at1 j q h2
      exact ⟨q0, ap_get u wc v h3, h4⟩
    · exact ⟨q, by rw [hlen, ap_v]; exact h2, rfl⟩
  refine ⟨fun k q hq => ?_, fun i j x y hi hj e => ?_, fun k q hq => ?_⟩
  · rcases ap_split hq with ⟨h1, h2⟩ | ⟨j, rfl, h2⟩ | ⟨j, rfl, h2⟩
    · have h3 : (u ++ (wc ++ v))[k]? = some q := by rw [ap_u h1]; exact h2
      refine (hP k q h3).kept (hk q.1 (hP k q h3).lt (fun ⟨j, e, hj⟩ => ?_))
      have := hD.1 _ _ q (q.1, e) h3 (ap_get u wc v hj) rfl
      omega
    · exact hP1 j q h2
    · have h3 : (u ++ (wc ++ v))[u.length + wc.length + j]? = some q := by rw [ap_v]; exact h2
      refine (hP _ q h3).kept (hk q.1 (hP _ q h3).lt (fun ⟨i, e, hi⟩ => ?_))
      have h4 : i < wc.length := (List.getElem?_eq_some_iff.mp hi).1
      have := hD.1 _ _ q (q.1, e) h3 (ap_get u wc v hi) rfl
      omega
  · obtain ⟨x0, h1, h2⟩ := old i x hi
    obtain ⟨y0, h3, h4⟩ := old j y hj
    exact hD.1 i j x0 y0 h1 h3 (h2.trans (e.trans h4.symm))
  · obtain ⟨q0, h1, h2⟩ := old k q hq
    rw [← h2]
    exact hD.2 k q0 h1
section LAWC
variable {p : Program} {l : Launch} {e : Env} {R : Room} {s : State} {m : MethodId} {args : Array Value} {below : List Frame} {meth : Method} {c : Code} {H : Heap} {locs : List Loc} {cells slots : Nat} {Q : State → Prop} {cc : ByteArray} {D : va_G} {cl : List vw_C} {ty : List (ClassId × FieldType)} {Y : (Nat → Nat) × (Nat → Nat)} {A : Nat → Prop} {u wc w1 v : va_W} {pc : Nat} {ls : Array Slot} {rest st0 As : List Value} {y : MethodName} {b : ByteArray} {n nL k idx ci q0 x NN : Nat} {r : Option FieldType} {rm : Room} {own C : String} {T : u_T} {fs : List Value}
theorem ap_pc (hK : va_K D cl ty s) (hsk : sK Y A s s.heap) (hS : va_S A s.heap H locs) (hP : va_P D cl (u ++ (wc ++ v)) H) (hD : va_D A (u ++ (wc ++ v))) {av : List Value} : ∀ U : State, U.heap = H → s.WarmedH U.vm → va_Pc av (cP D cl ty Y wc) av.toArray U :=
  fun U hU hW => ⟨rfl, by rw [hU]; exact ap_P hP, va_K.moved hW.alike hK, (ap_D hD).weaken (fun _ _ _ _ => trivial), by rw [hU]; exact hsk.sub hS (ap_A (ap_D hD)) hW⟩
theorem ap_run {Qc : Array Value → State → Outcome → State → Prop} {free : Addr → Prop} (hx : p.tables.exec = Jvm.exec) (hb : c.code = cc) (hml : c.maxLocals = nL) (hown : s.vm.findClass own = some m.cls) (htl : ∀ w ∈ lg_w, w.before args s = true) (hM : Met l y (wl y b n r) rm (va_Pc (.ref x :: As) (cP D cl ty Y wc)) Qc 0 0 free)
    (hm : mV y b n r C k) (hl : Cond.methodLink own idx y ∈ lg_w) (hR : rm.cells = 0 ∧ rm.slots = 0 ∧ rm.frames + 1 ≤ R.frames ∧ 8 + (n + 11) + rm.locals ≤ R.locals ∧ cells ≤ R.cells ∧ slots ≤ R.slots) (hK : va_K D cl ty s) (hsk : sK Y A s s.heap) (hS : va_S A s.heap H locs) (hP : va_P D cl (u ++ (wc ++ v)) H) (hD : va_D A (u ++ (wc ++ v)))
    (hc : cl[ci]? = some (C, T, NN)) (he : (u ++ (wc ++ v))[q0]? = some (x, .inr (ci, fs))) (hk : As.length = k) (hsize : ls.size = nL) (hst : st0 = As.reverse ++ .ref x :: rest) (hW : 2 * (F0 m pc ls st0).monitorRoom + (rest.map fun v => v.category).sum ≤ 8) (hdg : decode cc pc = .ok (.invokevirtual idx, 3)) :
    va_Run p l e R s m args below meth c H locs cells slots 0 0 (F0 m pc ls st0) rest (Qc (Value.ref x :: As).toArray) free := by
  obtain ⟨m1, m2, m3, m4, m5⟩ := hm
  have hcw : CallW R s args own C idx y b n r (wl y b n r) rm 0 0 k := by
    refine ⟨callB_of k htl (gI m1) rfl hR.1 hR.2.1 (htl _ (by rw [m5.1]; exact m4)) (htl _ hl) m5.2 ⟨hR.2.2.1, hR.2.2.2.1⟩, htl _ m2, htl _ m3⟩
  exact va_runV (As := As) (rest := rest) ⟨hx, hb, hml, hown, htl⟩ hM hcw ⟨cP_blind, va_recv hK hP hc he, ap_pc hK hsk hS hP hD⟩ rfl hk hsize hst hW hdg ⟨hR.2.2.2.2.1, hR.2.2.2.2.2⟩
theorem ap_i {z : Int32} (hx : p.tables.exec = Jvm.exec) (hb : c.code = cc) (hml : c.maxLocals = nL) (hown : s.vm.findClass own = some m.cls) (htl : ∀ w ∈ lg_w, w.before args s = true) (hM : Ci l cl y b n r rm D ty Y (.ref x :: As) wc w1 z)
    (hm : mV y b n r C k) (hl : Cond.methodLink own idx y ∈ lg_w) (hR : rm.cells = 0 ∧ rm.slots = 0 ∧ rm.frames + 1 ≤ R.frames ∧ 8 + (n + 11) + rm.locals ≤ R.locals ∧ cells ≤ R.cells ∧ slots ≤ R.slots) (hK : va_K D cl ty s) (hsk : sK Y A s s.heap) (hS : va_S A s.heap H locs) (hP : va_P D cl (u ++ (wc ++ v)) H) (hD : va_D A (u ++ (wc ++ v)))
    (hc : cl[ci]? = some (C, T, NN)) (he : (u ++ (wc ++ v))[q0]? = some (x, .inr (ci, fs))) (hadr : w1.map Prod.fst = wc.map Prod.fst) (hk : As.length = k) (hsize : ls.size = nL) (hst : st0 = As.reverse ++ .ref x :: rest) (hW : 2 * (F0 m pc ls st0).monitorRoom + (rest.map fun v => v.category).sum ≤ 8) (hdg : decode cc pc = .ok (.invokevirtual idx, 3))
    (kk : ∀ (H1 : Heap) (locs1 : List Loc), va_P D cl (u ++ (w1 ++ v)) H1 → va_D A (u ++ (w1 ++ v)) → va_S A s.heap H1 locs1 → W p l e R s m args below meth c H1 locs1 cells slots Q (F0 m (pc + 3) ls (.int z :: rest))) : W p l e R s m args below meth c H locs cells slots Q (F0 m pc ls st0) := by
  refine va_calli (ap_run hx hb hml hown htl hM hm hl hR hK hsk hS hP hD hc he hk hsize hst hW hdg) hS (fun q _ h => ap_A (ap_D hD) q h) (ap_A (ap_D hD)) (fun r u t H1 locs1 ht hvm hw hB hz hk hS1 => ?_)
  subst ht
  subst hw
  obtain ⟨h1, h2⟩ := ap_join hP hD hadr hk hB
  exact kk _ _ h1 h2 hS1
theorem ap_l {z : Int64} (hx : p.tables.exec = Jvm.exec) (hb : c.code = cc) (hml : c.maxLocals = nL) (hown : s.vm.findClass own = some m.cls) (htl : ∀ w ∈ lg_w, w.before args s = true) (hM : Cl l cl y b n r rm D ty Y (.ref x :: As) wc w1 z)
    (hm : mV y b n r C k) (hl : Cond.methodLink own idx y ∈ lg_w) (hR : rm.cells = 0 ∧ rm.slots = 0 ∧ rm.frames + 1 ≤ R.frames ∧ 8 + (n + 11) + rm.locals ≤ R.locals ∧ cells ≤ R.cells ∧ slots ≤ R.slots) (hK : va_K D cl ty s) (hsk : sK Y A s s.heap) (hS : va_S A s.heap H locs) (hP : va_P D cl (u ++ (wc ++ v)) H) (hD : va_D A (u ++ (wc ++ v)))
    (hc : cl[ci]? = some (C, T, NN)) (he : (u ++ (wc ++ v))[q0]? = some (x, .inr (ci, fs))) (hadr : w1.map Prod.fst = wc.map Prod.fst) (hk : As.length = k) (hsize : ls.size = nL) (hst : st0 = As.reverse ++ .ref x :: rest) (hW : 2 * (F0 m pc ls st0).monitorRoom + (rest.map fun v => v.category).sum ≤ 8) (hdg : decode cc pc = .ok (.invokevirtual idx, 3))
    (kk : ∀ (H1 : Heap) (locs1 : List Loc), va_P D cl (u ++ (w1 ++ v)) H1 → va_D A (u ++ (w1 ++ v)) → va_S A s.heap H1 locs1 → W p l e R s m args below meth c H1 locs1 cells slots Q (F0 m (pc + 3) ls (.long z :: rest))) : W p l e R s m args below meth c H locs cells slots Q (F0 m pc ls st0) := by
  refine va_calll (ap_run hx hb hml hown htl hM hm hl hR hK hsk hS hP hD hc he hk hsize hst hW hdg) hS (fun q _ h => ap_A (ap_D hD) q h) (ap_A (ap_D hD)) (fun r u t H1 locs1 ht hvm hw hB hz hk hS1 => ?_)
  subst ht
  subst hw
  obtain ⟨h1, h2⟩ := ap_join hP hD hadr hk hB
  exact kk _ _ h1 h2 hS1
end LAWC
