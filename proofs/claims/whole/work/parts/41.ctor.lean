theorem vp_rot {D : va_G} {cl : List vw_C} {ws : va_W} {x : Nat × va_E} {H : Heap} (h : va_P D cl (ws ++ [x]) H) : va_P D cl (x :: ws) H := by
  intro k q hk
  have hm : q ∈ ws ++ [x] := by
    rcases List.mem_cons.mp (List.mem_of_getElem? hk) with h | h
    · exact List.mem_append_right _ (by rw [h]; exact List.mem_cons_self)
    · exact List.mem_append_left _ h
  obtain ⟨i, hi⟩ := List.getElem?_of_mem hm
  exact h i q hi
theorem vd_inj {A : Nat → Prop} {ws : va_W} (h : va_D A ws) : (ws.map Prod.fst).Nodup ∧ ∀ q ∈ ws, A q.1 := by
  refine ⟨List.pairwise_iff_getElem.mpr (fun i j hi hj hij he => ?_), fun q hq => ?_⟩
  · rw [List.length_map] at hi hj
    rw [List.getElem_map, List.getElem_map] at he
    have := h.1 i j _ _ (List.getElem?_eq_getElem hi) (List.getElem?_eq_getElem hj) he
    omega
  · obtain ⟨i, hi⟩ := List.getElem?_of_mem hq
    exact h.2 i q hi
theorem vd_of {A : Nat → Prop} {ws : va_W} (h1 : (ws.map Prod.fst).Nodup) (h2 : ∀ q ∈ ws, A q.1) : va_D A ws := by
  refine ⟨fun i j p q hi hj he => ?_, fun k q hk => h2 q (List.mem_of_getElem? hk)⟩
  obtain ⟨li, ei⟩ := List.getElem?_eq_some_iff.mp hi
  obtain ⟨lj, ej⟩ := List.getElem?_eq_some_iff.mp hj
  have h3 := List.pairwise_iff_getElem.mp h1
  rcases Nat.lt_trichotomy i j with h | h | h
  · exact absurd (by rw [List.getElem_map, List.getElem_map, ei, ej, he]) (h3 i j (by simpa using li) (by simpa using lj) h)
  · exact h
  · exact absurd (by rw [List.getElem_map, List.getElem_map, ei, ej, he]) (h3 j i (by simpa using lj) (by simpa using li) h)
theorem vd_rot {A : Nat → Prop} {ws : va_W} {x : Nat × va_E} (h : va_D A (ws ++ [x])) : va_D A (x :: ws) := by
  obtain ⟨h1, h2⟩ := vd_inj h
  refine vd_of ?_ (fun q hq => h2 q ?_)
  · have hp : ((x :: ws).map Prod.fst).Perm ((ws ++ [x]).map Prod.fst) := by
      refine List.Perm.map _ ?_
      exact (List.perm_append_singleton x ws).symm
    exact hp.symm.nodup_iff.mp h1
  · rcases List.mem_cons.mp hq with h | h
    · exact List.mem_append_right _ (by rw [h]; exact List.mem_cons_self)
    · exact List.mem_append_left _ h
theorem vp_mid {D : va_G} {cl : List vw_C} {a b c : va_W} {H : Heap} (h : va_P D cl (a ++ (b ++ c)) H) : va_P D cl (b ++ (a ++ c)) H := by
  intro k q hk
  have hm : q ∈ a ++ (b ++ c) := by
    have := List.mem_of_getElem? hk
    simp only [List.mem_append] at this ⊢
    rcases this with h | h | h
    · exact Or.inr (Or.inl h)
    · exact Or.inl h
    · exact Or.inr (Or.inr h)
  obtain ⟨i, hi⟩ := List.getElem?_of_mem hm
  exact h i q hi
theorem vd_mid {A : Nat → Prop} {a b c : va_W} (h : va_D A (a ++ (b ++ c))) : va_D A (b ++ (a ++ c)) := by
  obtain ⟨h1, h2⟩ := vd_inj h
  have hp : (b ++ (a ++ c)).Perm (a ++ (b ++ c)) := by
    rw [← List.append_assoc, ← List.append_assoc]
    exact List.Perm.append_right c List.perm_append_comm
  exact vd_of ((hp.map Prod.fst).symm.nodup_iff.mp h1) (fun q hq => h2 q (hp.mem_iff.mp hq))
/-- behind a constructor: its object's cell has become a world -/
theorem joinH {A : Nat → Prop} {D : va_G} {cl : List vw_C} {x : Nat × va_E} {ws w1 : va_W} {H H1 : Heap} (hP : va_P D cl (x :: ws) H) (hD : va_D A (x :: ws)) (hF : ∀ q, va_A [x] H.size q → A q) (hk : ∀ q : Nat, q < H.size → ¬ va_A [x] H.size q → H1[q]? = H[q]?) (hP1 : va_P D cl w1 H1) (hD1 : va_D (va_A [x] H.size) w1) : va_P D cl (w1 ++ ws) H1 ∧ va_D A (w1 ++ ws) := by
  have out : ∀ (k : Nat) (q : Nat × va_E), ws[k]? = some q → q.1 < H.size ∧ ¬ va_A [x] H.size q.1 := by
    intro k q hq
    have hq' : (x :: ws)[k + 1]? = some q := by simpa using hq
    refine ⟨(hP (k + 1) q hq').lt, fun h => ?_⟩
    rcases h with ⟨j, e, h⟩ | h
    · have hj : j = 0 := by
        have := (List.getElem?_eq_some_iff.mp h).1
        simpa using this
      subst hj
      have hx : x = (q.1, e) := by simpa using h
      have := hD.1 0 (k + 1) x q (by simp) hq' (by rw [hx])
      omega
    · have := (hP (k + 1) q hq').lt
      omega
  have hwsD : va_D A ws := ⟨fun i j p q hi hj he => by
      have := hD.1 (i + 1) (j + 1) p q (by simpa using hi) (by simpa using hj) he
      omega, fun k q hk => hD.2 (k + 1) q (by simpa using hk)⟩
  refine ⟨va_P.app hP1 (fun k q hq => ?_), va_D.app (hD1.weaken (fun k q _ h => hF q.1 h)) hwsD (fun i j p q hp hq he => ?_)⟩
  · have hq' : (x :: ws)[k + 1]? = some q := by simpa using hq
    exact (hP (k + 1) q hq').kept (hk q.1 (out k q hq).1 (out k q hq).2)
  · exact (out j q hq).2 (by rw [← he]; exact hD1.2 i p hp)
def consF (h0 : Nat) (q : Nat → Nat) : Nat → Nat
  | 0 => h0
  | n + 1 => q n
abbrev rmc (k mc ms : Nat) : Room := { frames := k, cells := mc, slots := ms, locals := 40 * k }
/-- a constructor: from the object's bare cell to its world -/
def Cn (l : Launch) (cl : List vw_C) (y : MethodName) (b : ByteArray) (n : Nat) (rm : Room) (D : va_G) (ty : List (ClassId × FieldType)) (X : State → Prop) (E0 : va_E) (wf : (Nat → Nat) → va_W) (mc ms : Nat) : Prop :=
  ∀ (h0 sz : Nat), Met l y (wl y b n none) rm (va_Pc [.ref h0] (fun U => U.heap.size = sz ∧ va_P D cl [(h0, E0)] U.heap ∧ va_K D cl ty U ∧ va_D (fun _ => True) [(h0, E0)] ∧ X U)) (va_Qv (S := Nat → Nat) (fun _ => True) (fun q t => va_P D cl (wf (consF h0 q)) t.heap ∧ va_D (va_A [(h0, E0)] sz) (wf (consF h0 q))) (va_A [(h0, E0)] sz)) mc ms (va_A [(h0, E0)] sz)
def xB (X : State → Prop) : Prop := (∀ (s U : State), s.WarmedH U.vm → X s → X U) ∧ ∀ (U V : State), U.vm = V.vm → X U → X V
theorem entC {l : Launch} {cl : List vw_C} {y : MethodName} {b : ByteArray} {n : Nat} {rm : Room} {D : va_G} {ty : List (ClassId × FieldType)} {X : State → Prop} {E0 : va_E} {wf : (Nat → Nat) → va_W} {mc ms : Nat} (hy : plainName y.cls = true) (hyn : y.name = "<init>") (hle : 1 ≤ n)
    (body : ∀ (h0 : Nat) (p : Program) (e : Env) (s : State) (m : MethodId) (args : Array Value) (below : List Frame) (meth : Method) (c : Code) (ls : Array Slot) (A : Nat → Prop) (Q : State → Prop), p.tables.exec = Jvm.exec → c.code = b → c.maxLocals = n → s.vm.findClass y.cls = some m.cls → (∀ w ∈ lg_w, w.before args s = true) → va_K D cl ty s → X s → meth.name = "<init>" → (∀ q : Nat, s.heap.size ≤ q → A q) → va_P D cl [(h0, E0)] s.heap → va_D A [(h0, E0)] → va_S A s.heap s.heap [] → lv_has ls n [(0, .ref h0)] →
      (∀ (pc : Nat) (ls : Array Slot) (H : Heap) (locs : List Loc) (q : Nat → Nat), va_P D cl (wf (consF h0 q)) H → va_D A (wf (consF h0 q)) → va_S A s.heap H locs → decode b pc = .ok (.return_, 1) → W p l e rm s m args below meth c H locs mc ms Q (F0 m pc ls [])) →
      W p l e rm s m args below meth c s.heap [] 0 0 Q (F0 m 0 ls [])) : Cn l cl y b n rm D ty X E0 wf mc ms := by
  intro h0 sz
  refine Met.ofW (cc := b) (maxL := n) (ret := none) hy rfl ?_
  intro p e s m args below meth c s₁ B hml hv
  obtain ⟨rfl, hsz, hP, hK, hD0, hX⟩ := hv
  have hts := atoms_spec (ws := wl y b n none) B.pre
  have hl := lv_entry [.ref h0] (n := n) hle
  rw [lg_entry_eq]
  generalize (lg_sl [.ref h0] ++ List.replicate (n - (lg_sl [.ref h0]).length) Slot.unset).toArray = ls at hl ⊢
  subst hsz
  refine body h0 p e s m _ below meth c ls (va_A [(h0, E0)] s.heap.size) _ B.exec B.bytes hml (findClass_of_methodNamed B.named) (fun w hw => hts w (List.mem_cons_of_mem _ hw)) hK hX ((name_of_methodNamed B.named B.method).1.trans hyn) (fun q h => Or.inr h) hP (hD0.self (sz := s.heap.size)) va_S.rf hl ?_
  intro pc ls H locs q hP1 hD1 hS hd
  exact W.vret B.exec B.bytes B.returns (fun t ht _ => ⟨⟨q, rfl, trivial, by subst ht; exact ⟨hP1, hD1⟩⟩, hS.F ht⟩) hS.2.2 hd (hlocks := B.notSynchronized)
section CTOR
variable {p : Program} {l : Launch} {e : Env} {R : Room} {s : State} {m : MethodId} {args : Array Value} {below : List Frame} {meth : Method} {c : Code} {H : Heap} {locs : List Loc} {cells slots : Nat} {Q : State → Prop} {cc : ByteArray} {D : va_G} {cl : List vw_C} {ty : List (ClassId × FieldType)} {A : Nat → Prop} {ws : va_W} {pc : Nat} {ls : Array Slot} {rest : List Value}
/-- what a call of a constructor asks -/
def mI (y : MethodName) (b : ByteArray) (n : Nat) : Prop := Cond.code y b n none ∈ lg_w ∧ Cond.instanceMethod y ∈ lg_w ∧ Cond.initialized y.cls ∈ lg_w ∧ y.name = "<init>" ∧ (y.cls ≠ "java/lang/invoke/MethodHandle" ∧ y.cls ≠ "java/lang/invoke/VarHandle" ∧ (parseMethodDescriptor y.desc).map (fun d => d.parameters.length) = some 0)
theorem callC {y : MethodName} {b : ByteArray} {n nL idx x mc ms : Nat} {rm : Room} {own : String} {X : State → Prop} {E0 : va_E} {wf : (Nat → Nat) → va_W} (hx : p.tables.exec = Jvm.exec) (hb : c.code = cc) (hml : c.maxLocals = nL) (hown : s.vm.findClass own = some m.cls) (htl : ∀ w ∈ lg_w, w.before args s = true) (hM : Cn l cl y b n rm D ty X E0 wf mc ms) (hXb : xB X) (hX : X s)
    (hm : mI y b n) (hl : Cond.methodLink own idx y ∈ lg_w) (hR : rm.cells = mc ∧ rm.slots = ms ∧ rm.frames + 1 ≤ R.frames ∧ 8 + (n + 11) + rm.locals ≤ R.locals ∧ cells + mc ≤ R.cells ∧ slots + ms ≤ R.slots) (hK : va_K D cl ty s) (hA : ∀ q : Nat, s.heap.size ≤ q → A q) (hS : va_S A s.heap H locs) (hP : va_P D cl ((x, E0) :: ws) H) (hD : va_D A ((x, E0) :: ws))
    (hsize : ls.size = nL) (hW : 2 * (F0 m pc ls (.ref x :: rest)).monitorRoom + (rest.map fun v => v.category).sum ≤ 8) (hdg : decode cc pc = .ok (.invokespecial idx, 3))
    (kk : ∀ (H1 : Heap) (locs1 : List Loc) (q : Nat → Nat), va_P D cl (wf (consF x q) ++ ws) H1 → va_D A (wf (consF x q) ++ ws) → va_S A s.heap H1 locs1 → W p l e R s m args below meth c H1 locs1 (cells + mc) (slots + ms) Q (F0 m (pc + 3) ls rest)) : W p l e R s m args below meth c H locs cells slots Q (F0 m pc ls (.ref x :: rest)) := by
  obtain ⟨m1, m2, m3, m4, m5⟩ := hm
  have hPx : va_P D cl [(x, E0)] H := fun k q h => by
    have hk : k = 0 := by
      have := (List.getElem?_eq_some_iff.mp h).1
      simpa using this
    subst hk
    exact hP 0 q (by simpa using h)
  have hDx : va_D (fun _ => True) [(x, E0)] := ⟨fun i j p q hi hj _ => by
    have h1 := (List.getElem?_eq_some_iff.mp hi).1
    have h2 := (List.getElem?_eq_some_iff.mp hj).1
    simp at h1 h2
    omega, fun _ _ _ => trivial⟩
  have hF : ∀ q, va_A [(x, E0)] H.size q → A q := by
    intro q h
    rcases h with ⟨j, e, h⟩ | h
    · have hj : j = 0 := by
        have := (List.getElem?_eq_some_iff.mp h).1
        simpa using this
      subst hj
      exact hD.2 0 (q, e) (by simpa using h)
    · exact hA q (Nat.le_trans hS.1 h)
  refine va_callv (va_runI (As := []) (rest := rest) ⟨hx, hb, hml, hown, htl⟩ (hM x H.size) ⟨callB_of 0 htl (gI m1) rfl hR.1 hR.2.1 (htl _ m3) (htl _ hl) m5 ⟨hR.2.2.1, hR.2.2.2.1⟩, m4, htl _ m2⟩ ⟨fun a U g mk q => ⟨q.1, q.2.1, q.2.2.1, va_K.moved (u := U) (U := U.calling g mk a) (Vm.Alike.refl U.vm) q.2.2.2.1, q.2.2.2.2.1, hXb.2 U (U.calling g mk a) rfl q.2.2.2.2.2⟩, fun U hU hW' => ⟨rfl, by rw [hU], by rw [hU]; exact hPx, va_K.moved hW'.alike hK, hDx, hXb.1 s U hW' hX⟩⟩ rfl rfl hsize rfl hW hdg ⟨hR.2.2.2.2.1, hR.2.2.2.2.2⟩) hS (fun q _ h => hF q h) hF (fun u t H1 locs1 ht hvm hw hB hz hk hS1 => ?_)
  subst ht
  obtain ⟨h1, h2⟩ := joinH hP hD hF hk hB.1 hB.2
  exact kk _ _ u h1 h2 hS1
theorem ra_inj {U : State} {c1 c2 : ClassId} {t : FieldType} (h1 : va_RA U c1 t) (h2 : va_RA U c2 t) : c1 = c2 := by
  cases t with
  | object C =>
    obtain ⟨_, _, _, _, _, a⟩ := h1
    obtain ⟨_, _, _, _, _, b⟩ := h2
    rw [a] at b
    exact Option.some.inj b
  | _ => exact Option.some.inj (Eq.trans (Eq.symm h1) h2)
theorem newA {atype : ArrayType} (hx : p.tables.exec = Jvm.exec) (hb : c.code = cc) (harr : (Cond.arrayClass (newarray.typeOf atype)).before args s = true) {t : FieldType} (hty : newarray.typeOf atype = t) (hK : va_K D cl ty s) (t0 : Nat) {cA : ClassId} (ht : ty[t0]? = some (cA, t)) (hP : va_P D cl ws H) (hD : va_D A ws) (hS : va_S A s.heap H locs) (hA : ∀ q : Nat, s.heap.size ≤ q → A q) {n : Int32} {N' : Nat} {a0 : vp_A} (ha : ∀ cA : ClassId, vp_cell cA a0 = arrV cA N' (fun _ => defaultValue t)) (hn : ¬ n < 0) (hN : n.toNatClampNeg = N') (hbytes : N' * componentBytes t ≤ 536870912) (hcells : cells + 1 ≤ R.cells) (hslots : slots + N' ≤ R.slots) (hdg : decode cc pc = .ok (.newarray atype, 2))
    (kk : ∀ (q : Nat) (H1 : Heap), va_P D cl ((q, .inl (cA, a0)) :: ws) H1 → va_D A ((q, .inl (cA, a0)) :: ws) → va_S A s.heap H1 locs → W p l e R s m args below meth c H1 locs (cells + 1) (slots + N') Q (F0 m (pc + 2) ls (.ref q :: rest))) : W p l e R s m args below meth c H locs cells slots Q (F0 m pc ls (.int n :: rest)) := by
  refine va_newa hx hb harr hty hK hP hD hS hA ha hn hN hbytes hcells hslots hdg (fun q cB H1 hK1 hP1 hD1 hS1 => ?_)
  have e1 : cB = cA := ra_inj (hK1.2 ty.length (cB, t) (by simp)).2 (hK.2 t0 (cA, t) ht).2
  subst e1
  exact kk q H1 (vp_rot hP1) (vd_rot hD1) hS1
theorem newR {own C : String} {index : Nat} (hx : p.tables.exec = Jvm.exec) (hb : c.code = cc) (hown : s.vm.findClass own = some m.cls) (hclink : (Cond.classLink own index C).before args s = true) (hover : va_AO C s) (hK : va_K D cl ty s) (t0 : Nat) {cA : ClassId} (ht : ty[t0]? = some (cA, .object C)) (hP : va_P D cl ws H) (hD : va_D A ws) (hS : va_S A s.heap H locs) (hA : ∀ q : Nat, s.heap.size ≤ q → A q) {n : Int32} {N' : Nat} (hn : ¬ n < 0) (hN : n.toNatClampNeg = N') (hbytes : N' * 4 ≤ 536870912) (hcells : cells + 1 ≤ R.cells) (hslots : slots + N' ≤ R.slots) (hdg : decode cc pc = .ok (.anewarray index, 3))
    (kk : ∀ (q : Nat) (H1 : Heap), va_P D cl ((q, .inl (cA, N', .inr (.inr (.inr (.inr (fun _ => none)))))) :: ws) H1 → va_D A ((q, .inl (cA, N', .inr (.inr (.inr (.inr (fun _ => none)))))) :: ws) → va_S A s.heap H1 locs → W p l e R s m args below meth c H1 locs (cells + 1) (slots + N') Q (F0 m (pc + 3) ls (.ref q :: rest))) : W p l e R s m args below meth c H locs cells slots Q (F0 m pc ls (.int n :: rest)) := by
  refine va_newq hx hb hown hclink hover hK hP hD hS hA hn hN hbytes hcells hslots hdg (fun q cB H1 hK1 hP1 hD1 hS1 => ?_)
  have e1 : cB = cA := ra_inj (hK1.2 ty.length (cB, .object C) (by simp)).2 (hK.2 t0 (cA, .object C) ht).2
  subst e1
  exact kk q H1 (vp_rot hP1) (vd_rot hD1) hS1
theorem callRd {y : MethodName} {b : ByteArray} {n nL idx x : Nat} {rm : Room} {own host : String} {E0 : va_E} (hx : p.tables.exec = Jvm.exec) (hb : c.code = cc) (hml : c.maxLocals = nL) (hown : s.vm.findClass own = some m.cls) (htl : ∀ w ∈ lg_w, w.before args s = true) (hM : Cn l cl y b n rm D ty (fun _ => True) E0 (fun a => [(a 0, E0)]) 0 0) (hN : ∀ w ∈ nsW, va_Nw w s)
    (hm : mI y b n) (hl : Cond.methodLinkNest own idx y host ∈ nsW) (hR : rm.cells = 0 ∧ rm.slots = 0 ∧ rm.frames + 1 ≤ R.frames ∧ 8 + (n + 11) + rm.locals ≤ R.locals ∧ cells ≤ R.cells ∧ slots ≤ R.slots) (hK : va_K D cl ty s) (hA : ∀ q : Nat, s.heap.size ≤ q → A q) (hS : va_S A s.heap H locs) (hP : va_P D cl ((x, E0) :: ws) H) (hD : va_D A ((x, E0) :: ws))
    (hsize : ls.size = nL) (hW : 2 * (F0 m pc ls (.ref x :: rest)).monitorRoom + (rest.map fun v => v.category).sum ≤ 8) (hdg : decode cc pc = .ok (.invokespecial idx, 3))
    (kk : ∀ (H1 : Heap) (locs1 : List Loc), va_P D cl ((x, E0) :: ws) H1 → va_D A ((x, E0) :: ws) → va_S A s.heap H1 locs1 → W p l e R s m args below meth c H1 locs1 cells slots Q (F0 m (pc + 3) ls rest)) : W p l e R s m args below meth c H locs cells slots Q (F0 m pc ls (.ref x :: rest)) := by
  obtain ⟨m1, m2, m3, m4, m5⟩ := hm
  have hPx : va_P D cl [(x, E0)] H := fun k q h => by
    have hk : k = 0 := by
      have := (List.getElem?_eq_some_iff.mp h).1
      simpa using this
    subst hk
    exact hP 0 q (by simpa using h)
  have hDx : va_D (fun _ => True) [(x, E0)] := ⟨fun i j p q hi hj _ => by
    have h1 := (List.getElem?_eq_some_iff.mp hi).1
    have h2 := (List.getElem?_eq_some_iff.mp hj).1
    simp at h1 h2
    omega, fun _ _ _ => trivial⟩
  have hF : ∀ q, va_A [(x, E0)] H.size q → A q := by
    intro q h
    rcases h with ⟨j, e, h⟩ | h
    · have hj : j = 0 := by
        have := (List.getElem?_eq_some_iff.mp h).1
        simpa using this
      subst hj
      exact hD.2 0 (q, e) (by simpa using h)
    · exact hA q (Nat.le_trans hS.1 h)
  refine va_callv (va_runIN (As := []) (rest := rest) (host := host) ⟨hx, hb, hml, hown, htl⟩ (hM x H.size) ⟨va_cnB 0 htl (gI m1) rfl hR.1 hR.2.1 (hN _ hl) (htl _ m3) m5 ⟨hR.2.2.1, hR.2.2.2.1⟩, m4, htl _ m2⟩ ⟨fun a U g mk q => ⟨q.1, q.2.1, q.2.2.1, va_K.moved (u := U) (U := U.calling g mk a) (Vm.Alike.refl U.vm) q.2.2.2.1, q.2.2.2.2.1, trivial⟩, fun U hU hW' => ⟨rfl, by rw [hU], by rw [hU]; exact hPx, va_K.moved hW'.alike hK, hDx, trivial⟩⟩ rfl rfl hsize rfl hW hdg ⟨hR.2.2.2.2.1, hR.2.2.2.2.2⟩) hS (fun q _ h => hF q h) hF (fun u t H1 locs1 ht hvm hw hB hz hk hS1 => ?_)
  subst ht
  obtain ⟨h1, h2⟩ := joinH hP hD hF hk hB.1 hB.2
  exact kk _ _ h1 h2 hS1
end CTOR
def xN (U : State) : Prop := ∀ w ∈ nsW, va_Nw w U
def xJ (U : State) : Prop := va_AO "JoinOrders$State" U ∧ va_AO "JoinOrders$Graph" U ∧ va_AO "JoinOrders$Plan" U ∧ xN U
theorem xb_t : xB (fun _ => True) := ⟨fun _ _ _ _ => trivial, fun _ _ _ _ => trivial⟩
theorem xb_n : xB xN := ⟨fun s U hW h w hw => nsW_warm hw hW (h w hw), fun U V hv h w hw => (h w hw).same (nsW_tab hw) hv⟩
theorem alike_eq {u U : State} (h : u.vm = U.vm) : u.vm.Alike U.vm := by rw [h]; exact Vm.Alike.refl _
theorem xb_j : xB xJ := ⟨fun s U hW h => ⟨h.1.moved hW.alike, h.2.1.moved hW.alike, h.2.2.1.moved hW.alike, xb_n.1 s U hW h.2.2.2⟩, fun U V hv h => ⟨h.1.moved (alike_eq hv), h.2.1.moved (alike_eq hv), h.2.2.1.moved (alike_eq hv), xb_n.2 U V hv h.2.2.2⟩⟩
theorem fo3 (q0 q1 q2 : Nat) : (va_up (va_up (va_up (fun _ => none) (0 : Int32).toNatClampNeg (some q0)) (1 : Int32).toNatClampNeg (some q1)) (2 : Int32).toNatClampNeg (some q2)) = (fun i => [q0, q1, q2][i]? : Nat → Option Nat) := by
  funext i
  match i with
  | 0 => rfl
  | 1 => rfl
  | 2 => rfl
  | k + 3 => rfl
theorem fo8 (q0 q1 q2 q3 q4 q5 q6 q7 : Nat) : (va_up (va_up (va_up (va_up (va_up (va_up (va_up (va_up (fun _ => none) (0 : Int32).toNatClampNeg (some q0)) (1 : Int32).toNatClampNeg (some q1)) (2 : Int32).toNatClampNeg (some q2)) (3 : Int32).toNatClampNeg (some q3)) (4 : Int32).toNatClampNeg (some q4)) (5 : Int32).toNatClampNeg (some q5)) (6 : Int32).toNatClampNeg (some q6)) (7 : Int32).toNatClampNeg (some q7)) = (fun i => [q0, q1, q2, q3, q4, q5, q6, q7][i]? : Nat → Option Nat) := by
  funext i
  match i with
  | 0 => rfl
  | 1 => rfl
  | 2 => rfl
  | 3 => rfl
  | 4 => rfl
  | 5 => rfl
  | 6 => rfl
  | 7 => rfl
  | k + 8 => rfl

