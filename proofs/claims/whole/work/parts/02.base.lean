/-! BASE: contracts over worlds that stay in their places; calls; loops as functions with fuel -/
def lg_w : List Cond := lw_tbl.filter goodWord
theorem inG {w : Cond} (h : w ∈ lw_tbl) (hg : goodWord w = true) : w ∈ lg_w := List.mem_filter.mpr ⟨h, hg⟩
theorem lg_good {w : Cond} (h : w ∈ lg_w) : goodWord w = true := (List.mem_filter.mp h).2
/-- the strings of the words, and what their reading asks of statics -/
def sIdx : List Nat := [58, 64, 66, 68]
def sTxt : List String := ["relation", "edge", "limit", "by"]
def sByt : List (List Int32) := [[114, 101, 108, 97, 116, 105, 111, 110], [101, 100, 103, 101], [108, 105, 109, 105, 116], [98, 121]]
def sLen : List Nat := [8, 4, 5, 2]
def xIdx : List Nat := [277, 288, 326, 335]
def xTxt : List String := ["no such edge", "an edge has no such number", "no such node", "a node has no such number"]
/-- words that the tables keep by a warmer law -/
def nsq : Cond → Bool
  | .methodLinkNest .. => true
  | .fieldLinkNest .. => true
  | .declares _ => true
  | _ => false
def nsW : List Cond := lw_tbl.filter nsq
theorem inN {w : Cond} (h : w ∈ lw_tbl) (hg : nsq w = true) : w ∈ nsW := List.mem_filter.mpr ⟨h, hg⟩
theorem nsW_warm {w : Cond} (h : w ∈ nsW) {s U : State} (hW : s.WarmedH U.vm) (hZ : va_Nw w s) : va_Nw w U := by
  have hq := (List.mem_filter.mp h).2
  cases w <;> first | exact va_Nw.warmM hW hZ | exact va_Nw.warmF hW hZ | exact va_Nw.warmD hW hZ | (exact absurd hq (by simp [nsq]))
theorem nsW_tab {w : Cond} (h : w ∈ nsW) : w.onTables = true := by
  have hq := (List.mem_filter.mp h).2
  cases w <;> first | rfl | (exact absurd hq (by simp [nsq]))
def sK (Y : (Nat → Nat) × (Nat → Nat)) (A : Nat → Prop) (U : State) (H : Heap) : Prop :=
  vk_S 4 sLen sByt Y.1 Y.2 A U H ∧ (∀ i : Nat, i < 4 → vk_R "JoinOrders$Text" (sIdx.getD i 0) (sTxt.getD i "") (Y.1 i) U) ∧ (∀ i : Nat, i < 4 → ∃ a : Nat, vk_R "JoinOrders" (xIdx.getD i 0) (xTxt.getD i "") a U) ∧ va_Z "java/lang/String" "COMPACT_STRINGS" "Z" (.int 1) A U H ∧ va_Zq "jdk/internal/util/Preconditions" "SIOOBE_FORMATTER" "Ljava/util/function/BiFunction;" A U H ∧ ∀ w ∈ nsW, va_Nw w U
theorem sK.sub {Y : (Nat → Nat) × (Nat → Nat)} {A B : Nat → Prop} {s U : State} {H : Heap} {locs : List Loc} (h : sK Y A s s.heap) (hS : va_S A s.heap H locs) (hAB : ∀ q, B q → A q) (hW : s.WarmedH U.vm) : sK Y B U H :=
  ⟨((h.1.kept hS.2.1).narrow hAB).moved hW.alike, fun i hi => (h.2.1 i hi).warm hW, fun i hi => (h.2.2.1 i hi).imp (fun _ q => q.warm hW), ((h.2.2.2.1.kept hS.2.1).narrow hAB).moved hW.alike, ((h.2.2.2.2.1.kept hS.2.1).narrow hAB).moved hW.alike, fun w hw => nsW_warm hw hW (h.2.2.2.2.2 w hw)⟩
def wl (y : MethodName) (b : ByteArray) (n : Nat) (r : Option FieldType) : List Cond := .code y b n r :: lg_w
theorem gI {y : MethodName} {b : ByteArray} {n : Nat} {r : Option FieldType} (h : Cond.code y b n r ∈ lg_w) : GoodIn lg_w (wl y b n r) := by
  intro w hw
  have hm : w ∈ lg_w := (List.mem_cons.mp hw).elim (fun e => e ▸ h) id
  exact ⟨hm, good_of_word (lg_good hm)⟩
/-- the addresses of a world -/
def cA (ws : va_W) : Nat → Prop := fun q => ∃ (k : Nat) (e : va_E), ws[k]? = some (q, e)
def cP (D : va_G) (cl : List vw_C) (ty : List (ClassId × FieldType)) (Y : (Nat → Nat) × (Nat → Nat)) (ws : va_W) (U : State) : Prop := va_P D cl ws U.heap ∧ va_K D cl ty U ∧ va_D (fun _ => True) ws ∧ sK Y (cA ws) U U.heap
theorem sK.same {Y : (Nat → Nat) × (Nat → Nat)} {A : Nat → Prop} {u U : State} {H : Heap} (h : sK Y A u H) (hv : U.vm = u.vm) : sK Y A U H := by
  have hal : u.vm.Alike U.vm := by rw [hv]; exact Vm.Alike.refl _
  exact ⟨h.1.moved hal, fun i hi => (h.2.1 i hi).same hv, fun i hi => (h.2.2.1 i hi).imp (fun _ q => q.same hv), h.2.2.2.1.moved hal, h.2.2.2.2.1.moved hal, fun w hw => (h.2.2.2.2.2 w hw).same (nsW_tab hw) hv.symm⟩
theorem cP_blind {D : va_G} {cl : List vw_C} {ty : List (ClassId × FieldType)} {Y : (Nat → Nat) × (Nat → Nat)} {ws : va_W} {av : List Value} : FrameBlind (va_Pc av (cP D cl ty Y ws)) :=
  fun a U g mk q => ⟨q.1, q.2.1, va_K.moved (u := U) (U := U.calling g mk a) (Vm.Alike.refl U.vm) q.2.2.1, q.2.2.2.1, sK.same (u := U) (U := U.calling g mk a) q.2.2.2.2 rfl⟩
def va_sets : va_W → List Nat → va_W → va_W
  | ws, i :: is, q :: w1 => va_sets (ws.set i q) is w1
  | ws, [], _ => ws
  | ws, _ :: _, [] => ws
theorem va_sets_get : ∀ (is : List Nat) (w1 ws : va_W) (k : Nat) (q : Nat × va_E), is.length = w1.length → (va_sets ws is w1)[k]? = some q → (∃ j : Nat, is[j]? = some k ∧ w1[j]? = some q) ∨ (k ∉ is ∧ ws[k]? = some q)
  | [], w1, ws, k, q, _, h => Or.inr ⟨List.not_mem_nil, by simpa [va_sets] using h⟩
  | i :: is, [], ws, k, q, hl, _ => by simp at hl
  | i :: is, q0 :: w1, ws, k, q, hl, h => by
    rcases va_sets_get is w1 (ws.set i q0) k q (by simpa using hl) (by simpa [va_sets] using h) with ⟨j, h1, h2⟩ | ⟨h1, h2⟩
    · exact Or.inl ⟨j + 1, by simpa using h1, by simpa using h2⟩
    · by_cases hk : k = i
      · subst hk
        have hlt : k < ws.length := by
          have := (List.getElem?_eq_some_iff.mp h2).1
          simpa using this
        rw [List.getElem?_set_self hlt] at h2
        exact Or.inl ⟨0, by simp, by simpa using h2⟩
      · rw [List.getElem?_set_ne (Ne.symm hk)] at h2
        exact Or.inr ⟨by simp [hk, h1], h2⟩
theorem va_joinS {A0 : Nat → Prop} {D : va_G} {cl : List vw_C} {ws wc w1 : va_W} {H H1 : Heap} (hP : va_P D cl ws H) (hD : va_D A0 ws) {isC : List Nat} (hC : isC.map (fun i => ws[i]?) = wc.map some) (hadr : w1.map Prod.fst = wc.map Prod.fst)
    (hk : ∀ q : Nat, q < H.size → ¬ cA wc q → H1[q]? = H[q]?) (hP1 : va_P D cl w1 H1) : va_P D cl (va_sets ws isC w1) H1 ∧ va_D A0 (va_sets ws isC w1) := by
  have hlen : isC.length = w1.length := by
    have h1 := congrArg List.length hC
    have h2 := congrArg List.length hadr
    simp only [List.length_map] at h1 h2
    omega
  have atC : ∀ (j : Nat) (q : Nat × va_E), wc[j]? = some q → ∃ i, isC[j]? = some i ∧ ws[i]? = some q := by
    intro j q hq
    have h1 : (isC.map (fun i => ws[i]?))[j]? = some (some q) := by rw [hC, List.getElem?_map, hq]; rfl
    rw [List.getElem?_map] at h1
    cases hi : isC[j]? with
    | none => rw [hi] at h1; cases h1
    | some i => rw [hi] at h1; exact ⟨i, rfl, Option.some.inj h1⟩
  have at1 : ∀ (j : Nat) (q : Nat × va_E), w1[j]? = some q → ∃ q0, wc[j]? = some q0 ∧ q0.1 = q.1 := by
    intro j q hq
    have h1 : (w1.map Prod.fst)[j]? = some q.1 := by rw [List.getElem?_map, hq]; rfl
    rw [hadr, List.getElem?_map] at h1
    cases hi : wc[j]? with
    | none => rw [hi] at h1; cases h1
    | some q0 => rw [hi] at h1; exact ⟨q0, rfl, Option.some.inj h1⟩
  have adr : ∀ (k : Nat) (q : Nat × va_E), (va_sets ws isC w1)[k]? = some q → ∃ q0, ws[k]? = some q0 ∧ q0.1 = q.1 := by
    intro k q hq
    rcases va_sets_get isC w1 ws k q hlen hq with ⟨j, h1, h2⟩ | ⟨-, h2⟩
    · obtain ⟨q0, h3, h4⟩ := at1 j q h2
      obtain ⟨i, h5, h6⟩ := atC j q0 h3
      rw [h1] at h5
      cases h5
      exact ⟨q0, h6, h4⟩
    · exact ⟨q, h2, rfl⟩
  refine ⟨fun k q hq => ?_, fun i j x y hi hj hxy => ?_, fun k q hq => ?_⟩
  · rcases va_sets_get isC w1 ws k q hlen hq with ⟨j, h1, h2⟩ | ⟨h1, h2⟩
    · exact hP1 j q h2
    · refine (hP k q h2).kept (hk q.1 (hP k q h2).lt (fun hc => ?_))
      obtain ⟨j, e, h3⟩ := hc
      obtain ⟨i, h5, h6⟩ := atC j _ h3
      have := hD.1 k i q _ h2 h6 rfl
      subst this
      exact h1 (List.mem_of_getElem? h5)
  · obtain ⟨x0, h1, h2⟩ := adr i x hi
    obtain ⟨y0, h3, h4⟩ := adr j y hj
    exact hD.1 i j x0 y0 h1 h3 (h2.trans (hxy.trans h4.symm))
  · obtain ⟨q0, h1, h2⟩ := adr k q hq
    rw [← h2]
    exact hD.2 k q0 h1
theorem cA_free {A0 : Nat → Prop} {ws wc : va_W} (hD : va_D A0 ws) {isC : List Nat} (hC : isC.map (fun i => ws[i]?) = wc.map some) : ∀ q, cA wc q → A0 q := by
  rintro q ⟨j, e, hq⟩
  have h1 : (isC.map (fun i => ws[i]?))[j]? = some (some (q, e)) := by rw [hC, List.getElem?_map, hq]; rfl
  rw [List.getElem?_map] at h1
  cases hi : isC[j]? with
  | none => rw [hi] at h1; cases h1
  | some i => rw [hi] at h1; exact hD.2 i (q, e) (Option.some.inj h1)
theorem wc_P {D : va_G} {cl : List vw_C} {ws wc : va_W} {H : Heap} (hP : va_P D cl ws H) {isC : List Nat} (hC : isC.map (fun i => ws[i]?) = wc.map some) : va_P D cl wc H := by
  intro j q hq
  have h1 : (isC.map (fun i => ws[i]?))[j]? = some (some q) := by rw [hC, List.getElem?_map, hq]; rfl
  rw [List.getElem?_map] at h1
  cases hi : isC[j]? with
  | none => rw [hi] at h1; cases h1
  | some i => rw [hi] at h1; exact hP i q (Option.some.inj h1)
-- contracts: void, int, long, reference
def Cv (l : Launch) (cl : List vw_C) (y : MethodName) (b : ByteArray) (n : Nat) (r : Option FieldType) (rm : Room) (D : va_G) (ty : List (ClassId × FieldType)) (Y : (Nat → Nat) × (Nat → Nat)) (av : List Value) (w0 w1 : va_W) : Prop :=
  Met l y (wl y b n r) rm (va_Pc av (cP D cl ty Y w0)) (va_Qv (S := Unit) (fun _ => True) (fun _ t => va_P D cl w1 t.heap) (cA w0)) 0 0 (cA w0)
def Ci (l : Launch) (cl : List vw_C) (y : MethodName) (b : ByteArray) (n : Nat) (r : Option FieldType) (rm : Room) (D : va_G) (ty : List (ClassId × FieldType)) (Y : (Nat → Nat) × (Nat → Nat)) (av : List Value) (w0 w1 : va_W) (v : Int32) : Prop :=
  Met l y (wl y b n r) rm (va_Pc av (cP D cl ty Y w0)) (va_Qi (S := Unit) (fun x _ => x = v) (fun _ t => va_P D cl w1 t.heap) (cA w0)) 0 0 (cA w0)
def Cl (l : Launch) (cl : List vw_C) (y : MethodName) (b : ByteArray) (n : Nat) (r : Option FieldType) (rm : Room) (D : va_G) (ty : List (ClassId × FieldType)) (Y : (Nat → Nat) × (Nat → Nat)) (av : List Value) (w0 w1 : va_W) (v : Int64) : Prop :=
  Met l y (wl y b n r) rm (va_Pc av (cP D cl ty Y w0)) (va_Ql (S := Unit) (fun x _ => x = v) (fun _ t => va_P D cl w1 t.heap) (cA w0)) 0 0 (cA w0)
def Cr (l : Launch) (cl : List vw_C) (y : MethodName) (b : ByteArray) (n : Nat) (r : Option FieldType) (rm : Room) (D : va_G) (ty : List (ClassId × FieldType)) (Y : (Nat → Nat) × (Nat → Nat)) (av : List Value) (w0 w1 : va_W) (v : Nat) : Prop :=
  Met l y (wl y b n r) rm (va_Pc av (cP D cl ty Y w0)) (va_Qr (S := Unit) (fun _ => True) (fun _ a t => a = v ∧ va_P D cl w1 t.heap) (cA w0)) 0 0 (cA w0)
/-- into a method -/
theorem ent {l : Launch} {cl : List vw_C} {y : MethodName} {b : ByteArray} {n : Nat} {r : Option FieldType} {rm : Room} {D : va_G} {ty : List (ClassId × FieldType)} {Y : (Nat → Nat) × (Nat → Nat)} {av : List Value} {w0 : va_W} {Qc : Array Value → State → Outcome → State → Prop} (hy : plainName y.cls = true) (hle : (lg_sl av).length ≤ n)
    (body : ∀ (p : Program) (e : Env) (s : State) (m : MethodId) (below : List Frame) (meth : Method) (c : Code) (ls : Array Slot), p.tables.exec = Jvm.exec → c.code = b → meth.sig.returnType = r → meth.locks = false → c.maxLocals = n → s.vm.findClass y.cls = some m.cls → (∀ w ∈ lg_w, w.before av.toArray s = true) → va_K D cl ty s → sK Y (cA w0) s s.heap → va_P D cl w0 s.heap → va_D (cA w0) w0 → lv_has ls n (lv_args 0 av) →
      W p l e rm s m av.toArray below meth c s.heap [] 0 0 (MQ below Qc av.toArray s 0 0 (cA w0)) (F0 m 0 ls [])) : Met l y (wl y b n r) rm (va_Pc av (cP D cl ty Y w0)) Qc 0 0 (cA w0) := by
  refine Met.ofW (cc := b) (maxL := n) (ret := r) hy rfl ?_
  intro p e s m args below meth c s₁ B hml hv
  obtain ⟨rfl, hP, hK, hD, hsk⟩ := hv
  have hts := atoms_spec (ws := wl y b n r) B.pre
  have hl := lv_entry av (n := n) hle
  rw [lg_entry_eq]
  generalize (lg_sl av ++ List.replicate (n - (lg_sl av).length) Slot.unset).toArray = ls at hl ⊢
  exact body p e s m below meth c ls B.exec B.bytes B.returns B.notSynchronized hml (findClass_of_methodNamed B.named) (fun w hw => hts w (List.mem_cons_of_mem _ hw)) hK hsk hP ⟨hD.1, fun k q hk => ⟨k, q.2, hk⟩⟩ hl
section RET
variable {p : Program} {l : Launch} {e : Env} {R : Room} {s : State} {m : MethodId} {args : Array Value} {below : List Frame} {meth : Method} {c : Code} {H : Heap} {locs : List Loc} {cc : ByteArray} {D : va_G} {cl : List vw_C} {w0 w1 : va_W} {pc : Nat} {ls : Array Slot}
theorem ret_v (hx : p.tables.exec = Jvm.exec) (hb : c.code = cc) (hr : meth.sig.returnType = none) (hlocks : meth.locks = false) (hP : va_P D cl w1 H) (hS : va_S (cA w0) s.heap H locs) (hdg : decode cc pc = .ok (.return_, 1)) :
    W p l e R s m args below meth c H locs 0 0 (MQ below (va_Qv (S := Unit) (fun _ => True) (fun _ t => va_P D cl w1 t.heap) (cA w0)) args s 0 0 (cA w0)) (F0 m pc ls []) :=
  W.vret hx hb hr (fun t ht _ => ⟨⟨(), rfl, trivial, by subst ht; exact hP⟩, hS.F ht⟩) hS.2.2 hdg (hlocks := hlocks)
theorem ret_i {v : Int32} (hx : p.tables.exec = Jvm.exec) (hb : c.code = cc) (hr : meth.sig.returnType = some .int) (hlocks : meth.locks = false) (hP : va_P D cl w1 H) (hS : va_S (cA w0) s.heap H locs) (hdg : decode cc pc = .ok (.ireturn, 1)) :
    W p l e R s m args below meth c H locs 0 0 (MQ below (va_Qi (S := Unit) (fun x _ => x = v) (fun _ t => va_P D cl w1 t.heap) (cA w0)) args s 0 0 (cA w0)) (F0 m pc ls [.int v]) :=
  W.iret hx hb hr (fun t ht _ => ⟨⟨v, (), rfl, rfl, by subst ht; exact hP⟩, hS.F ht⟩) hS.2.2 hdg (hlocks := hlocks)
theorem nar_z {v : Int32} (h : v &&& 1 = v) : narrow .boolean (.int v) = .int v := by
  show Value.int (v &&& 1) = Value.int v
  rw [h]
theorem ret_z {v : Int32} (hx : p.tables.exec = Jvm.exec) (hb : c.code = cc) (hr : meth.sig.returnType = some .boolean) (hlocks : meth.locks = false) (hn : v &&& 1 = v) (hP : va_P D cl w1 H) (hS : va_S (cA w0) s.heap H locs) (hdg : decode cc pc = .ok (.ireturn, 1)) :
    W p l e R s m args below meth c H locs 0 0 (MQ below (va_Qi (S := Unit) (fun x _ => x = v) (fun _ t => va_P D cl w1 t.heap) (cA w0)) args s 0 0 (cA w0)) (F0 m pc ls [.int v]) :=
  W.zret hx hb hr (nar_z hn) (fun t ht _ => ⟨⟨v, (), rfl, rfl, by subst ht; exact hP⟩, hS.F ht⟩) hS.2.2 hdg (hlocks := hlocks)
theorem ret_l {v : Int64} (hx : p.tables.exec = Jvm.exec) (hb : c.code = cc) (hr : meth.sig.returnType = some .long) (hlocks : meth.locks = false) (hP : va_P D cl w1 H) (hS : va_S (cA w0) s.heap H locs) (hdg : decode cc pc = .ok (.lreturn, 1)) :
    W p l e R s m args below meth c H locs 0 0 (MQ below (va_Ql (S := Unit) (fun x _ => x = v) (fun _ t => va_P D cl w1 t.heap) (cA w0)) args s 0 0 (cA w0)) (F0 m pc ls [.long v]) :=
  W.lret hx hb hr (fun t ht _ => ⟨⟨v, (), rfl, rfl, by subst ht; exact hP⟩, hS.F ht⟩) hS.2.2 hdg (hlocks := hlocks)
theorem ret_r {v : Nat} {rt : FieldType} (hx : p.tables.exec = Jvm.exec) (hb : c.code = cc) (hr : meth.sig.returnType = some rt) (hrt : ∃ n, rt = .object n) (hlocks : meth.locks = false) (hP : va_P D cl w1 H) (hS : va_S (cA w0) s.heap H locs) (hdg : decode cc pc = .ok (.areturn, 1)) :
    W p l e R s m args below meth c H locs 0 0 (MQ below (va_Qr (S := Unit) (fun _ => True) (fun _ a t => a = v ∧ va_P D cl w1 t.heap) (cA w0)) args s 0 0 (cA w0)) (F0 m pc ls [.ref v]) :=
  W.aret hx hb hr (Or.inl hrt) (Or.inr ⟨v, rfl⟩) (fun t ht _ => ⟨⟨(), v, rfl, trivial, rfl, by subst ht; exact hP⟩, hS.F ht⟩) hS.2.2 hdg (hlocks := hlocks)
end RET
section CALLS
variable {p : Program} {l : Launch} {e : Env} {R : Room} {s : State} {m : MethodId} {args : Array Value} {below : List Frame} {meth : Method} {c : Code} {H : Heap} {locs : List Loc} {cells slots : Nat} {Q : State → Prop} {cc : ByteArray} {D : va_G} {cl : List vw_C} {ty : List (ClassId × FieldType)} {Y : (Nat → Nat) × (Nat → Nat)} {A : Nat → Prop} {ws wc w1 : va_W} {isC : List Nat} {pc : Nat} {ls : Array Slot} {st0 rest : List Value} {a : Array Value} {H0 : Heap}
theorem call_v (hr : va_Run p l e R s m args below meth c H locs cells slots 0 0 (F0 m pc ls st0) rest (va_Qv (S := Unit) (fun _ => True) (fun _ t => va_P D cl w1 t.heap) (cA wc) a) (cA wc)) (hP : va_P D cl ws H) (hD : va_D A ws) (hS : va_S A H0 H locs) (hC : isC.map (fun i => ws[i]?) = wc.map some) (hadr : w1.map Prod.fst = wc.map Prod.fst)
    (kk : ∀ (H1 : Heap) (locs1 : List Loc), va_P D cl (va_sets ws isC w1) H1 → va_D A (va_sets ws isC w1) → va_S A H0 H1 locs1 → W p l e R s m args below meth c H1 locs1 cells slots Q (F0 m (pc + 3) ls rest)) : W p l e R s m args below meth c H locs cells slots Q (F0 m pc ls st0) := by
  refine va_callv hr hS (fun q _ h => cA_free hD hC q h) (cA_free hD hC) (fun u t H1 locs1 ht hvm hw hB hz hk hS1 => ?_)
  subst ht
  obtain ⟨h1, h2⟩ := va_joinS hP hD hC hadr hk hB
  exact kk _ _ h1 h2 hS1
theorem call_i {v : Int32} (hr : va_Run p l e R s m args below meth c H locs cells slots 0 0 (F0 m pc ls st0) rest (va_Qi (S := Unit) (fun x _ => x = v) (fun _ t => va_P D cl w1 t.heap) (cA wc) a) (cA wc)) (hP : va_P D cl ws H) (hD : va_D A ws) (hS : va_S A H0 H locs) (hC : isC.map (fun i => ws[i]?) = wc.map some) (hadr : w1.map Prod.fst = wc.map Prod.fst)
    (kk : ∀ (H1 : Heap) (locs1 : List Loc), va_P D cl (va_sets ws isC w1) H1 → va_D A (va_sets ws isC w1) → va_S A H0 H1 locs1 → W p l e R s m args below meth c H1 locs1 cells slots Q (F0 m (pc + 3) ls (.int v :: rest))) : W p l e R s m args below meth c H locs cells slots Q (F0 m pc ls st0) := by
  refine va_calli hr hS (fun q _ h => cA_free hD hC q h) (cA_free hD hC) (fun r u t H1 locs1 ht hvm hw hB hz hk hS1 => ?_)
  subst ht
  subst hw
  obtain ⟨h1, h2⟩ := va_joinS hP hD hC hadr hk hB
  exact kk _ _ h1 h2 hS1
theorem call_l {v : Int64} (hr : va_Run p l e R s m args below meth c H locs cells slots 0 0 (F0 m pc ls st0) rest (va_Ql (S := Unit) (fun x _ => x = v) (fun _ t => va_P D cl w1 t.heap) (cA wc) a) (cA wc)) (hP : va_P D cl ws H) (hD : va_D A ws) (hS : va_S A H0 H locs) (hC : isC.map (fun i => ws[i]?) = wc.map some) (hadr : w1.map Prod.fst = wc.map Prod.fst)
    (kk : ∀ (H1 : Heap) (locs1 : List Loc), va_P D cl (va_sets ws isC w1) H1 → va_D A (va_sets ws isC w1) → va_S A H0 H1 locs1 → W p l e R s m args below meth c H1 locs1 cells slots Q (F0 m (pc + 3) ls (.long v :: rest))) : W p l e R s m args below meth c H locs cells slots Q (F0 m pc ls st0) := by
  refine va_calll hr hS (fun q _ h => cA_free hD hC q h) (cA_free hD hC) (fun r u t H1 locs1 ht hvm hw hB hz hk hS1 => ?_)
  subst ht
  subst hw
  obtain ⟨h1, h2⟩ := va_joinS hP hD hC hadr hk hB
  exact kk _ _ h1 h2 hS1
theorem call_r {v : Nat} (hr : va_Run p l e R s m args below meth c H locs cells slots 0 0 (F0 m pc ls st0) rest (va_Qr (S := Unit) (fun _ => True) (fun _ x t => x = v ∧ va_P D cl w1 t.heap) (cA wc) a) (cA wc)) (hP : va_P D cl ws H) (hD : va_D A ws) (hS : va_S A H0 H locs) (hC : isC.map (fun i => ws[i]?) = wc.map some) (hadr : w1.map Prod.fst = wc.map Prod.fst)
    (kk : ∀ (H1 : Heap) (locs1 : List Loc), va_P D cl (va_sets ws isC w1) H1 → va_D A (va_sets ws isC w1) → va_S A H0 H1 locs1 → W p l e R s m args below meth c H1 locs1 cells slots Q (F0 m (pc + 3) ls (.ref v :: rest))) : W p l e R s m args below meth c H locs cells slots Q (F0 m pc ls st0) := by
  refine va_callr hr hS (fun q _ h => cA_free hD hC q h) (cA_free hD hC) (fun u x t H1 locs1 ht hvm hw hB hz hk hS1 => ?_)
  subst ht
  obtain ⟨rfl, hB⟩ := hB
  obtain ⟨h1, h2⟩ := va_joinS hP hD hC hadr hk hB
  exact kk _ _ h1 h2 hS1
variable {y : MethodName} {b : ByteArray} {n nL idx k ci q0 x : Nat} {r : Option FieldType} {rm : Room} {Qc : Array Value → State → Outcome → State → Prop} {free : Addr → Prop} {own C host : String} {As : List Value} {T : u_T} {NN : Nat} {fs : List Value}
/-- what a method's words are: by program, once a method -/
def mV (y : MethodName) (b : ByteArray) (n : Nat) (r : Option FieldType) (C : String) (k : Nat) : Prop :=
  Cond.code y b n r ∈ lg_w ∧ Cond.instanceMethod y ∈ lg_w ∧ Cond.selects C y y ∈ lg_w ∧ Cond.initialized C ∈ lg_w ∧ (y.cls = C ∧ y.cls ≠ "java/lang/invoke/MethodHandle" ∧ y.cls ≠ "java/lang/invoke/VarHandle" ∧ (parseMethodDescriptor y.desc).map (fun d => d.parameters.length) = some k)
def mS (y : MethodName) (b : ByteArray) (n : Nat) (r : Option FieldType) (k : Nat) : Prop :=
  Cond.code y b n r ∈ lg_w ∧ Cond.static y ∈ lg_w ∧ Cond.initialized y.cls ∈ lg_w ∧ (y.cls ≠ "java/lang/invoke/MethodHandle" ∧ y.cls ≠ "java/lang/invoke/VarHandle" ∧ (parseMethodDescriptor y.desc).map (fun d => d.parameters.length) = some k)
theorem pcP (hK : va_K D cl ty s) (hsk : sK Y A s s.heap) (hS : va_S A s.heap H locs) (hP : va_P D cl ws H) (hD : va_D A ws) (hC : isC.map (fun i => ws[i]?) = wc.map some) (hn : va_nd isC = true) {av : List Value} : ∀ U : State, U.heap = H → s.WarmedH U.vm → va_Pc av (cP D cl ty Y wc) av.toArray U :=
  fun U hU hW => ⟨rfl, by rw [hU]; exact wc_P hP hC, va_K.moved hW.alike hK, (hD.sub isC hn hC).weaken (fun _ _ _ _ => trivial), by rw [hU]; exact hsk.sub hS (cA_free hD hC) hW⟩
theorem run_V (hx : p.tables.exec = Jvm.exec) (hb : c.code = cc) (hml : c.maxLocals = nL) (hown : s.vm.findClass own = some m.cls) (htl : ∀ w ∈ lg_w, w.before args s = true) (hM : Met l y (wl y b n r) rm (va_Pc (.ref x :: As) (cP D cl ty Y wc)) Qc 0 0 free)
    (hm : mV y b n r C k) (hl : Cond.methodLink own idx y ∈ lg_w) (hR : rm.cells = 0 ∧ rm.slots = 0 ∧ rm.frames + 1 ≤ R.frames ∧ 8 + (n + 11) + rm.locals ≤ R.locals ∧ cells ≤ R.cells ∧ slots ≤ R.slots) (hK : va_K D cl ty s) (hsk : sK Y A s s.heap) (hS : va_S A s.heap H locs) (hP : va_P D cl ws H) (hD : va_D A ws) (hC : isC.map (fun i => ws[i]?) = wc.map some) (hn : va_nd isC = true)
    (hc : cl[ci]? = some (C, T, NN)) (he : ws[q0]? = some (x, .inr (ci, fs))) (hk : As.length = k) (hsize : ls.size = nL) (hst : st0 = As.reverse ++ .ref x :: rest) (hW : 2 * (F0 m pc ls st0).monitorRoom + (rest.map fun v => v.category).sum ≤ 8) (hdg : decode cc pc = .ok (.invokevirtual idx, 3)) :
    va_Run p l e R s m args below meth c H locs cells slots 0 0 (F0 m pc ls st0) rest (Qc (Value.ref x :: As).toArray) free := by
  obtain ⟨m1, m2, m3, m4, m5⟩ := hm
  have hcw : CallW R s args own C idx y b n r (wl y b n r) rm 0 0 k := by
    refine ⟨callB_of k htl (gI m1) rfl hR.1 hR.2.1 (htl _ (by rw [m5.1]; exact m4)) (htl _ hl) m5.2 ⟨hR.2.2.1, hR.2.2.2.1⟩, htl _ m2, htl _ m3⟩
  exact va_runV (As := As) (rest := rest) ⟨hx, hb, hml, hown, htl⟩ hM hcw ⟨cP_blind, va_recv hK hP hc he, pcP hK hsk hS hP hD hC hn⟩ rfl hk hsize hst hW hdg ⟨hR.2.2.2.2.1, hR.2.2.2.2.2⟩
theorem run_VN (hx : p.tables.exec = Jvm.exec) (hb : c.code = cc) (hml : c.maxLocals = nL) (hown : s.vm.findClass own = some m.cls) (htl : ∀ w ∈ lg_w, w.before args s = true) (hM : Met l y (wl y b n r) rm (va_Pc (.ref x :: As) (cP D cl ty Y wc)) Qc 0 0 free)
    (hm : mV y b n r C k) (hl : Cond.methodLinkNest own idx y host ∈ nsW) (hR : rm.cells = 0 ∧ rm.slots = 0 ∧ rm.frames + 1 ≤ R.frames ∧ 8 + (n + 11) + rm.locals ≤ R.locals ∧ cells ≤ R.cells ∧ slots ≤ R.slots) (hK : va_K D cl ty s) (hsk : sK Y A s s.heap) (hS : va_S A s.heap H locs) (hP : va_P D cl ws H) (hD : va_D A ws) (hC : isC.map (fun i => ws[i]?) = wc.map some) (hn : va_nd isC = true)
    (hc : cl[ci]? = some (C, T, NN)) (he : ws[q0]? = some (x, .inr (ci, fs))) (hk : As.length = k) (hsize : ls.size = nL) (hst : st0 = As.reverse ++ .ref x :: rest) (hW : 2 * (F0 m pc ls st0).monitorRoom + (rest.map fun v => v.category).sum ≤ 8) (hdg : decode cc pc = .ok (.invokevirtual idx, 3)) :
    va_Run p l e R s m args below meth c H locs cells slots 0 0 (F0 m pc ls st0) rest (Qc (Value.ref x :: As).toArray) free := by
  obtain ⟨m1, m2, m3, m4, m5⟩ := hm
  have hcw : va_CN R s args own idx y host b n r (wl y b n r) rm 0 0 k := va_cnB k htl (gI m1) rfl hR.1 hR.2.1 (hsk.2.2.2.2.2 _ hl) (htl _ (by rw [m5.1]; exact m4)) m5.2 ⟨hR.2.2.1, hR.2.2.2.1⟩
  exact va_runVN (As := As) (rest := rest) ⟨hx, hb, hml, hown, htl⟩ hM ⟨hcw, htl _ m2, htl _ m3⟩ ⟨cP_blind, va_recv hK hP hc he, pcP hK hsk hS hP hD hC hn⟩ rfl hk hsize hst hW hdg ⟨hR.2.2.2.2.1, hR.2.2.2.2.2⟩
theorem run_S (hx : p.tables.exec = Jvm.exec) (hb : c.code = cc) (hml : c.maxLocals = nL) (hown : s.vm.findClass own = some m.cls) (htl : ∀ w ∈ lg_w, w.before args s = true) (hM : Met l y (wl y b n r) rm (va_Pc As (cP D cl ty Y wc)) Qc 0 0 free)
    (hm : mS y b n r k) (hl : Cond.methodLink own idx y ∈ lg_w) (hR : rm.cells = 0 ∧ rm.slots = 0 ∧ rm.frames + 1 ≤ R.frames ∧ 8 + (n + 11) + rm.locals ≤ R.locals ∧ cells ≤ R.cells ∧ slots ≤ R.slots) (hK : va_K D cl ty s) (hsk : sK Y A s s.heap) (hS : va_S A s.heap H locs) (hP : va_P D cl ws H) (hD : va_D A ws) (hC : isC.map (fun i => ws[i]?) = wc.map some) (hn : va_nd isC = true)
    (hk : As.length = k) (hsize : ls.size = nL) (hst : st0 = As.reverse ++ rest) (hW : 2 * (F0 m pc ls st0).monitorRoom + (rest.map fun v => v.category).sum ≤ 8) (hdg : decode cc pc = .ok (.invokestatic idx, 3)) :
    va_Run p l e R s m args below meth c H locs cells slots 0 0 (F0 m pc ls st0) rest (Qc As.toArray) free := by
  obtain ⟨m1, m2, m3, m4⟩ := hm
  exact va_runS (As := As) (rest := rest) ⟨hx, hb, hml, hown, htl⟩ hM ⟨callB_of k htl (gI m1) rfl hR.1 hR.2.1 (htl _ m3) (htl _ hl) m4 ⟨hR.2.2.1, hR.2.2.2.1⟩, htl _ m2⟩ ⟨cP_blind, pcP hK hsk hS hP hD hC hn⟩ rfl hk hsize hst hW hdg ⟨hR.2.2.2.2.1, hR.2.2.2.2.2⟩
theorem run_SN (hx : p.tables.exec = Jvm.exec) (hb : c.code = cc) (hml : c.maxLocals = nL) (hown : s.vm.findClass own = some m.cls) (htl : ∀ w ∈ lg_w, w.before args s = true) (hM : Met l y (wl y b n r) rm (va_Pc As (cP D cl ty Y wc)) Qc 0 0 free)
    (hm : mS y b n r k) (hl : Cond.methodLinkNest own idx y host ∈ nsW) (hR : rm.cells = 0 ∧ rm.slots = 0 ∧ rm.frames + 1 ≤ R.frames ∧ 8 + (n + 11) + rm.locals ≤ R.locals ∧ cells ≤ R.cells ∧ slots ≤ R.slots) (hK : va_K D cl ty s) (hsk : sK Y A s s.heap) (hS : va_S A s.heap H locs) (hP : va_P D cl ws H) (hD : va_D A ws) (hC : isC.map (fun i => ws[i]?) = wc.map some) (hn : va_nd isC = true)
    (hk : As.length = k) (hsize : ls.size = nL) (hst : st0 = As.reverse ++ rest) (hW : 2 * (F0 m pc ls st0).monitorRoom + (rest.map fun v => v.category).sum ≤ 8) (hdg : decode cc pc = .ok (.invokestatic idx, 3)) :
    va_Run p l e R s m args below meth c H locs cells slots 0 0 (F0 m pc ls st0) rest (Qc As.toArray) free := by
  obtain ⟨m1, m2, m3, m4⟩ := hm
  have hcw : va_CN R s args own idx y host b n r (wl y b n r) rm 0 0 k := va_cnB k htl (gI m1) rfl hR.1 hR.2.1 (hsk.2.2.2.2.2 _ hl) (htl _ m3) m4 ⟨hR.2.2.1, hR.2.2.2.1⟩
  exact va_runSN (As := As) (rest := rest) ⟨hx, hb, hml, hown, htl⟩ hM ⟨hcw, htl _ m2, trivial⟩ ⟨cP_blind, pcP hK hsk hS hP hD hC hn⟩ rfl hk hsize hst hW hdg ⟨hR.2.2.2.2.1, hR.2.2.2.2.2⟩
/-- what a call asks that names another method than it runs -/
def mU (x y : MethodName) (b : ByteArray) (n : Nat) (r : Option FieldType) (C : String) (k : Nat) : Prop :=
  Cond.code y b n r ∈ lg_w ∧ Cond.instanceMethod y ∈ lg_w ∧ Cond.selects C x y ∈ lg_w ∧ Cond.initialized y.cls ∈ lg_w ∧ Cond.sameMethod x.cls x.cls x.name x.desc ∈ lg_w ∧ (x = y ∨ Cond.declares x ∈ nsW) ∧ (x.cls ≠ "java/lang/invoke/MethodHandle" ∧ x.cls ≠ "java/lang/invoke/VarHandle" ∧ (parseMethodDescriptor x.desc).map (fun d => d.parameters.length) = some k)
theorem run_U {x' : MethodName} (hx : p.tables.exec = Jvm.exec) (hb : c.code = cc) (hml : c.maxLocals = nL) (hown : s.vm.findClass own = some m.cls) (htl : ∀ w ∈ lg_w, w.before args s = true) (hM : Met l y (wl y b n r) rm (va_Pc (.ref x :: As) (cP D cl ty Y wc)) Qc 0 0 free)
    (hm : mU x' y b n r C k) (hl : Cond.methodLink own idx x' ∈ lg_w) (hR : rm.cells = 0 ∧ rm.slots = 0 ∧ rm.frames + 1 ≤ R.frames ∧ 8 + (n + 11) + rm.locals ≤ R.locals ∧ cells ≤ R.cells ∧ slots ≤ R.slots) (hK : va_K D cl ty s) (hsk : sK Y A s s.heap) (hS : va_S A s.heap H locs) (hP : va_P D cl ws H) (hD : va_D A ws) (hC : isC.map (fun i => ws[i]?) = wc.map some) (hn : va_nd isC = true)
    (hc : cl[ci]? = some (C, T, NN)) (he : ws[q0]? = some (x, .inr (ci, fs))) (hk : As.length = k) (hsize : ls.size = nL) (hst : st0 = As.reverse ++ .ref x :: rest) (hW : 2 * (F0 m pc ls st0).monitorRoom + (rest.map fun v => v.category).sum ≤ 8) (hdg : decode cc pc = .ok (.invokevirtual idx, 3)) :
    va_Run p l e R s m args below meth c H locs cells slots 0 0 (F0 m pc ls st0) rest (Qc (Value.ref x :: As).toArray) free := by
  obtain ⟨m1, m2, m3, m4, m5, m6, m7⟩ := hm
  have hcw : va_CU R s args own C x'.cls idx x' y b n r (wl y b n r) rm 0 0 k := by
    have hc1 : Cond.code y b n r ∈ wl y b n r := List.mem_cons_self
    refine ⟨⟨hR.1, hR.2.1, hR.2.2.1, hR.2.2.2.1, pay_in htl (gI m1), hc1⟩, htl _ m1, htl _ m4, ⟨m7.1, m7.2.1⟩, fun sig h => ?_, htl _ hl, htl _ m5, ?_, htl _ m3, htl _ m2⟩
    · have h2 := m7.2.2
      rw [h] at h2
      exact (Option.some.inj h2).symm
    · rcases m6 with rfl | h6
      · exact va_Decl.of (htl _ m2) (htl _ m1)
      · exact va_Decl.abs (hsk.2.2.2.2.2 _ h6)
  exact va_runU (As := As) (rest := rest) ⟨hx, hb, hml, hown, htl⟩ hM hcw ⟨cP_blind, va_recv hK hP hc he, pcP hK hsk hS hP hD hC hn⟩ rfl hk hsize hst hW hdg ⟨hR.2.2.2.2.1, hR.2.2.2.2.2⟩
end CALLS
-- functions of methods: answers as options, loops with fuel
def dn {α β : Type} (t : α) (f : α → β) : β := f t
theorem dn_e {α β : Type} {x t : α} {f : α → β} {r : β} (e : x = t) (h : dn t f = r) : f x = r := by subst e; exact h
theorem di_t {β : Type} {c : Prop} {_ : Decidable c} {a b : β} {r : β} (hc : c) (h : (if c then a else b) = r) : a = r := by rw [if_pos hc] at h; exact h
theorem di_f {β : Type} {c : Prop} {_ : Decidable c} {a b : β} {r : β} (hc : ¬ c) (h : (if c then a else b) = r) : b = r := by rw [if_neg hc] at h; exact h
def dk {β : Type} (c : Prop) [Decidable c] (a : Option β) : Option β := if c then a else none
theorem dk_e {β : Type} {c : Prop} {_ : Decidable c} {a : Option β} {r : β} (h : dk c a = some r) : c ∧ a = some r := by
  unfold dk at h
  by_cases hc : c
  · rw [if_pos hc] at h; exact ⟨hc, h⟩
  · rw [if_neg hc] at h; cases h
def db {α β : Type} (x : Option α) (f : α → Option β) : Option β := x.bind f
theorem db_e {α β : Type} {x : Option α} {f : α → Option β} {r : β} (h : db x f = some r) : ∃ v, x = some v ∧ f v = some r := by
  cases x with
  | none => cases h
  | some v => exact ⟨v, rfl, h⟩
abbrev inb (i : Int32) (n : Nat) : Prop := ¬ (i < 0 ∨ n ≤ i.toNatClampNeg)
def lp {α β : Type} (body : α → Option (α ⊕ β)) : Nat → α → Option β
  | 0, _ => none
  | n + 1, x => match body x with
    | none => none
    | some (.inl x') => lp body n x'
    | some (.inr y) => some y
def lpk {α β : Type} (body : α → Option (α ⊕ β)) (n : Nat) (y : β) : α ⊕ β → Prop
  | .inl x' => lp body n x' = some y
  | .inr y' => y' = y
theorem lp_s {α β : Type} {body : α → Option (α ⊕ β)} {n : Nat} {x : α} {y : β} (h : lp body (n + 1) x = some y) : ∃ r, body x = some r ∧ lpk body n y r := by
  rw [lp] at h
  cases hb : body x with
  | none => rw [hb] at h; cases h
  | some r =>
    rw [hb] at h
    cases r with
    | inl x' => exact ⟨_, rfl, h⟩
    | inr y' => exact ⟨_, rfl, Option.some.inj h⟩
theorem lp_0 {α β : Type} {body : α → Option (α ⊕ β)} {x : α} {y : β} {P : Prop} (h : lp body 0 x = some y) : P := by rw [lp] at h; cases h
theorem lpk_i {α β : Type} {body : α → Option (α ⊕ β)} {n : Nat} {x' : α} {y : β} {r : α ⊕ β} (h : some (Sum.inl x') = some r) (hk : lpk body n y r) : lp body n x' = some y := by cases h; exact hk
theorem lpk_x {α β : Type} {body : α → Option (α ⊕ β)} {n : Nat} {y' y : β} {r : α ⊕ β} (h : some (Sum.inr y') = some r) (hk : lpk body n y r) : y' = y := by cases h; exact hk
section LCM
variable {p : Program} {l : Launch} {e : Env} {R : Room} {s : State} {m : MethodId} {args : Array Value} {below : List Frame} {meth : Method} {c : Code} {H : Heap} {locs : List Loc} {cells slots : Nat} {Q : State → Prop} {cc : ByteArray} {pc : Nat} {ls : Array Slot} {rest : List Value} {x y : Int64} {off : Int} {tgt : Nat}
theorem cmp_lt : lg_cmp x y < 0 ↔ x < y := by
  unfold lg_cmp
  by_cases h1 : y < x
  · rw [if_pos h1]
    exact ⟨fun h => absurd h (by decide), fun h => absurd (Int64.lt_trans h h1) Int64.lt_irrefl⟩
  · by_cases h2 : x = y
    · subst h2
      rw [if_neg h1, if_pos rfl]
      exact ⟨fun h => absurd h (by decide), fun h => absurd h h1⟩
    · rw [if_neg h1, if_neg h2]
      exact ⟨fun _ => (Int64.lt_or_eq_of_le (Int64.not_lt.mp h1)).elim id (fun h => absurd h h2), fun _ => by decide⟩
theorem cmp_eq : lg_cmp x y = 0 ↔ x = y := by
  unfold lg_cmp
  by_cases h1 : y < x
  · rw [if_pos h1]
    exact ⟨fun h => absurd h (by decide), fun h => by subst h; exact absurd h1 Int64.lt_irrefl⟩
  · by_cases h2 : x = y
    · rw [if_neg h1, if_pos h2]
      exact ⟨fun _ => h2, fun _ => rfl⟩
    · rw [if_neg h1, if_neg h2]
      exact ⟨fun h => absurd h (by decide), fun h => absurd h h2⟩
theorem cmp_gt : 0 < lg_cmp x y ↔ y < x := by
  unfold lg_cmp
  by_cases h1 : y < x
  · rw [if_pos h1]
    exact ⟨fun _ => h1, fun _ => by decide⟩
  · by_cases h2 : x = y
    · rw [if_neg h1, if_pos h2]
      exact ⟨fun h => absurd h (by decide), fun h => absurd h h1⟩
    · rw [if_neg h1, if_neg h2]
      exact ⟨fun h => absurd h (by decide), fun h => absurd h h1⟩
theorem lx_eq (hx : p.tables.exec = Jvm.exec) (hb : c.code = cc) (hd1 : decode cc pc = .ok (.lcmp, 1)) (hd2 : decode cc (pc + 1) = .ok (.ifCond .eq off, 3)) (ht : ((pc + 1 : Nat) : Int) + off = (tgt : Int)) (kt : x = y → W p l e R s m args below meth c H locs cells slots Q (F0 m tgt ls rest)) (kf : ¬ x = y → W p l e R s m args below meth c H locs cells slots Q (F0 m (pc + 4) ls rest)) : W p l e R s m args below meth c H locs cells slots Q (F0 m pc ls (.long y :: .long x :: rest)) :=
  W.lcmp hx hb hd1 (lv_if_eq hx hb hd2 ht (fun h => kt (cmp_eq.mp h)) (fun h => kf (fun q => h (cmp_eq.mpr q))))
theorem lx_ne (hx : p.tables.exec = Jvm.exec) (hb : c.code = cc) (hd1 : decode cc pc = .ok (.lcmp, 1)) (hd2 : decode cc (pc + 1) = .ok (.ifCond .ne off, 3)) (ht : ((pc + 1 : Nat) : Int) + off = (tgt : Int)) (kt : ¬ x = y → W p l e R s m args below meth c H locs cells slots Q (F0 m tgt ls rest)) (kf : x = y → W p l e R s m args below meth c H locs cells slots Q (F0 m (pc + 4) ls rest)) : W p l e R s m args below meth c H locs cells slots Q (F0 m pc ls (.long y :: .long x :: rest)) :=
  W.lcmp hx hb hd1 (lv_if_ne hx hb hd2 ht (fun h => kt (fun q => h (cmp_eq.mpr q))) (fun h => kf (cmp_eq.mp h)))
theorem lx_lt (hx : p.tables.exec = Jvm.exec) (hb : c.code = cc) (hd1 : decode cc pc = .ok (.lcmp, 1)) (hd2 : decode cc (pc + 1) = .ok (.ifCond .lt off, 3)) (ht : ((pc + 1 : Nat) : Int) + off = (tgt : Int)) (kt : x < y → W p l e R s m args below meth c H locs cells slots Q (F0 m tgt ls rest)) (kf : ¬ x < y → W p l e R s m args below meth c H locs cells slots Q (F0 m (pc + 4) ls rest)) : W p l e R s m args below meth c H locs cells slots Q (F0 m pc ls (.long y :: .long x :: rest)) :=
  W.lcmp hx hb hd1 (lv_if_lt hx hb hd2 ht (fun h => kt (cmp_lt.mp h)) (fun h => kf (fun q => h (cmp_lt.mpr q))))
theorem lx_ge (hx : p.tables.exec = Jvm.exec) (hb : c.code = cc) (hd1 : decode cc pc = .ok (.lcmp, 1)) (hd2 : decode cc (pc + 1) = .ok (.ifCond .ge off, 3)) (ht : ((pc + 1 : Nat) : Int) + off = (tgt : Int)) (kt : ¬ x < y → W p l e R s m args below meth c H locs cells slots Q (F0 m tgt ls rest)) (kf : x < y → W p l e R s m args below meth c H locs cells slots Q (F0 m (pc + 4) ls rest)) : W p l e R s m args below meth c H locs cells slots Q (F0 m pc ls (.long y :: .long x :: rest)) :=
  W.lcmp hx hb hd1 (lv_if_ge hx hb hd2 ht (fun h => kt (fun q => absurd (cmp_lt.mpr q) (Int32.not_lt.mpr h))) (fun h => kf (cmp_lt.mp (Int32.not_le.mp h))))
theorem lx_gt (hx : p.tables.exec = Jvm.exec) (hb : c.code = cc) (hd1 : decode cc pc = .ok (.lcmp, 1)) (hd2 : decode cc (pc + 1) = .ok (.ifCond .gt off, 3)) (ht : ((pc + 1 : Nat) : Int) + off = (tgt : Int)) (kt : y < x → W p l e R s m args below meth c H locs cells slots Q (F0 m tgt ls rest)) (kf : ¬ y < x → W p l e R s m args below meth c H locs cells slots Q (F0 m (pc + 4) ls rest)) : W p l e R s m args below meth c H locs cells slots Q (F0 m pc ls (.long y :: .long x :: rest)) :=
  W.lcmp hx hb hd1 (lv_if_gt hx hb hd2 ht (fun h => kt (cmp_gt.mp h)) (fun h => kf (fun q => h (cmp_gt.mpr q))))
theorem lx_le (hx : p.tables.exec = Jvm.exec) (hb : c.code = cc) (hd1 : decode cc pc = .ok (.lcmp, 1)) (hd2 : decode cc (pc + 1) = .ok (.ifCond .le off, 3)) (ht : ((pc + 1 : Nat) : Int) + off = (tgt : Int)) (kt : ¬ y < x → W p l e R s m args below meth c H locs cells slots Q (F0 m tgt ls rest)) (kf : y < x → W p l e R s m args below meth c H locs cells slots Q (F0 m (pc + 4) ls rest)) : W p l e R s m args below meth c H locs cells slots Q (F0 m pc ls (.long y :: .long x :: rest)) :=
  W.lcmp hx hb hd1 (lv_if_le hx hb hd2 ht (fun h => kt (fun q => absurd (cmp_gt.mpr q) (Int32.not_lt.mpr h))) (fun h => kf (cmp_gt.mp (Int32.not_le.mp h))))
end LCM
def rmk (k : Nat) : Room := { frames := k, cells := 0, slots := 0, locals := 40 * k }
theorem hRk {i j n : Nat} (h : i < j) (hn : n ≤ 21) : (rmk i).cells = 0 ∧ (rmk i).slots = 0 ∧ (rmk i).frames + 1 ≤ (rmk j).frames ∧ 8 + (n + 11) + (rmk i).locals ≤ (rmk j).locals ∧ 0 ≤ (rmk j).cells ∧ 0 ≤ (rmk j).slots := by
  refine ⟨rfl, rfl, h, ?_, Nat.zero_le _, Nat.zero_le _⟩
  show 8 + (n + 11) + 40 * i ≤ 40 * j
  omega
theorem ex_y {β γ : Type} {f : β → Option γ} {y' y : β} {r : γ} (hq : y' = y) (h : f y = some r) : f y' = some r := by subst hq; exact h
section STO
variable {p : Program} {l : Launch} {e : Env} {R : Room} {s : State} {m : MethodId} {args : Array Value} {below : List Frame} {meth : Method} {c : Code} {H : Heap} {locs : List Loc} {cells slots : Nat} {Q : State → Prop} {cc : ByteArray} {D : va_G} {cl : List vw_C} {tys : List (ClassId × FieldType)} {A : Nat → Prop} {H0 : Heap} {ws : va_W} {pc : Nat} {ls : Array Slot} {rest : List Value} {a : Nat}
theorem nx_iast (hx : p.tables.exec = Jvm.exec) (hb : c.code = cc) (hK : va_K D cl tys s) (hP : va_P D cl ws H) (hD : va_D A ws) (hS : va_S A H0 H locs) (q0 t0 : Nat) {cA : ClassId} {n : Nat} {f : Nat → Int32} (ha : ws[q0]? = some (a, .inl (cA, n, .inl f))) (ht : tys[t0]? = some (cA, .int)) {i : Int32} {x : Int32} (hin : vp_in i n) (hdg : decode cc pc = .ok (.iastore, 1))
    (kk : ∀ f' : Nat → Int32, f' = upd f i.toNatClampNeg x → ∀ (H1 : Heap) (locs1 : List Loc), va_P D cl (ws.set q0 (a, .inl (cA, n, .inl f'))) H1 → va_D A (ws.set q0 (a, .inl (cA, n, .inl f'))) → va_S A H0 H1 locs1 → W p l e R s m args below meth c H1 locs1 cells slots Q (F0 m (pc + 1) ls rest)) : W p l e R s m args below meth c H locs cells slots Q (F0 m pc ls (.int x :: .int i :: .ref a :: rest)) :=
  va_iast hx hb hK hP hD hS q0 t0 ha ht hin hdg (kk _ rfl)
theorem nx_bast (hx : p.tables.exec = Jvm.exec) (hb : c.code = cc) (hK : va_K D cl tys s) (hP : va_P D cl ws H) (hD : va_D A ws) (hS : va_S A H0 H locs) (q0 t0 : Nat) {cA : ClassId} {n : Nat} {f : Nat → Int32} (ha : ws[q0]? = some (a, .inl (cA, n, .inl f))) (ht : tys[t0]? = some (cA, .byte)) {i : Int32} {x : Int32} (hin : vp_in i n) (hdg : decode cc pc = .ok (.bastore, 1))
    (kk : ∀ f' : Nat → Int32, f' = upd f i.toNatClampNeg (vp_nar .byte x) → ∀ (H1 : Heap) (locs1 : List Loc), va_P D cl (ws.set q0 (a, .inl (cA, n, .inl f'))) H1 → va_D A (ws.set q0 (a, .inl (cA, n, .inl f'))) → va_S A H0 H1 locs1 → W p l e R s m args below meth c H1 locs1 cells slots Q (F0 m (pc + 1) ls rest)) : W p l e R s m args below meth c H locs cells slots Q (F0 m pc ls (.int x :: .int i :: .ref a :: rest)) :=
  va_bast hx hb hK hP hD hS q0 t0 ha ht hin hdg (kk _ rfl)
theorem nx_zast (hx : p.tables.exec = Jvm.exec) (hb : c.code = cc) (hK : va_K D cl tys s) (hP : va_P D cl ws H) (hD : va_D A ws) (hS : va_S A H0 H locs) (q0 t0 : Nat) {cA : ClassId} {n : Nat} {f : Nat → Int32} (ha : ws[q0]? = some (a, .inl (cA, n, .inl f))) (ht : tys[t0]? = some (cA, .boolean)) {i : Int32} {x : Int32} (hin : vp_in i n) (hdg : decode cc pc = .ok (.bastore, 1))
    (kk : ∀ f' : Nat → Int32, f' = upd f i.toNatClampNeg (vp_nar .boolean x) → ∀ (H1 : Heap) (locs1 : List Loc), va_P D cl (ws.set q0 (a, .inl (cA, n, .inl f'))) H1 → va_D A (ws.set q0 (a, .inl (cA, n, .inl f'))) → va_S A H0 H1 locs1 → W p l e R s m args below meth c H1 locs1 cells slots Q (F0 m (pc + 1) ls rest)) : W p l e R s m args below meth c H locs cells slots Q (F0 m pc ls (.int x :: .int i :: .ref a :: rest)) :=
  va_zast hx hb hK hP hD hS q0 t0 ha ht hin hdg (kk _ rfl)
theorem nx_last (hx : p.tables.exec = Jvm.exec) (hb : c.code = cc) (hK : va_K D cl tys s) (hP : va_P D cl ws H) (hD : va_D A ws) (hS : va_S A H0 H locs) (q0 t0 : Nat) {cA : ClassId} {n : Nat} {f : Nat → Int64} (ha : ws[q0]? = some (a, .inl (cA, n, .inr (.inl f)))) (ht : tys[t0]? = some (cA, .long)) {i : Int32} {x : Int64} (hin : vp_in i n) (hdg : decode cc pc = .ok (.lastore, 1))
    (kk : ∀ f' : Nat → Int64, f' = vp_updL f i.toNatClampNeg x → ∀ (H1 : Heap) (locs1 : List Loc), va_P D cl (ws.set q0 (a, .inl (cA, n, .inr (.inl f')))) H1 → va_D A (ws.set q0 (a, .inl (cA, n, .inr (.inl f')))) → va_S A H0 H1 locs1 → W p l e R s m args below meth c H1 locs1 cells slots Q (F0 m (pc + 1) ls rest)) : W p l e R s m args below meth c H locs cells slots Q (F0 m pc ls (.long x :: .int i :: .ref a :: rest)) :=
  va_last hx hb hK hP hD hS q0 t0 ha ht hin hdg (kk _ rfl)
end STO
def PDS (D : va_G) (cl : List vw_C) (A : Nat → Prop) (s : State) (ws : va_W) (H : Heap) (locs : List Loc) : Prop := va_P D cl ws H ∧ va_D A ws ∧ va_S A s.heap H locs
section ENTS
variable {l : Launch} {cl : List vw_C} {y : MethodName} {b : ByteArray} {n : Nat} {rm : Room} {D : va_G} {ty : List (ClassId × FieldType)} {Y : (Nat → Nat) × (Nat → Nat)} {av : List Value} {w0 w1 : va_W}
theorem entV (hy : plainName y.cls = true) (hle : (lg_sl av).length ≤ n)
    (body : ∀ (p : Program) (e : Env) (s : State) (m : MethodId) (args : Array Value) (below : List Frame) (meth : Method) (c : Code) (ls : Array Slot) (A : Nat → Prop) (Q : State → Prop), p.tables.exec = Jvm.exec → c.code = b → c.maxLocals = n → s.vm.findClass y.cls = some m.cls → (∀ w ∈ lg_w, w.before args s = true) → va_K D cl ty s → sK Y A s s.heap → PDS D cl A s w0 s.heap [] → lv_has ls n (lv_args 0 av) →
      (∀ (pc : Nat) (ls : Array Slot) (H : Heap) (locs : List Loc), va_P D cl w1 H → va_S A s.heap H locs → decode b pc = .ok (.return_, 1) → W p l e rm s m args below meth c H locs 0 0 Q (F0 m pc ls [])) →
      W p l e rm s m args below meth c s.heap [] 0 0 Q (F0 m 0 ls [])) : Cv l cl y b n none rm D ty Y av w0 w1 :=
  ent hy hle (fun p e s m below meth c ls hx hb hr hlocks hml hown htl hK hsk hP hD hl => body p e s m av.toArray below meth c ls (cA w0) _ hx hb hml hown htl hK hsk ⟨hP, hD, va_S.rf⟩ hl (fun pc ls H locs hP hS hd => ret_v hx hb hr hlocks hP hS hd))
theorem entI {v : Int32} (hy : plainName y.cls = true) (hle : (lg_sl av).length ≤ n)
    (body : ∀ (p : Program) (e : Env) (s : State) (m : MethodId) (args : Array Value) (below : List Frame) (meth : Method) (c : Code) (ls : Array Slot) (A : Nat → Prop) (Q : State → Prop), p.tables.exec = Jvm.exec → c.code = b → c.maxLocals = n → s.vm.findClass y.cls = some m.cls → (∀ w ∈ lg_w, w.before args s = true) → va_K D cl ty s → sK Y A s s.heap → PDS D cl A s w0 s.heap [] → lv_has ls n (lv_args 0 av) →
      (∀ (pc : Nat) (ls : Array Slot) (H : Heap) (locs : List Loc), va_P D cl w1 H → va_S A s.heap H locs → decode b pc = .ok (.ireturn, 1) → W p l e rm s m args below meth c H locs 0 0 Q (F0 m pc ls [.int v])) →
      W p l e rm s m args below meth c s.heap [] 0 0 Q (F0 m 0 ls [])) : Ci l cl y b n (some .int) rm D ty Y av w0 w1 v :=
  ent hy hle (fun p e s m below meth c ls hx hb hr hlocks hml hown htl hK hsk hP hD hl => body p e s m av.toArray below meth c ls (cA w0) _ hx hb hml hown htl hK hsk ⟨hP, hD, va_S.rf⟩ hl (fun pc ls H locs hP hS hd => ret_i hx hb hr hlocks hP hS hd))
theorem entZ {v : Int32} (hy : plainName y.cls = true) (hle : (lg_sl av).length ≤ n)
    (body : ∀ (p : Program) (e : Env) (s : State) (m : MethodId) (args : Array Value) (below : List Frame) (meth : Method) (c : Code) (ls : Array Slot) (A : Nat → Prop) (Q : State → Prop), p.tables.exec = Jvm.exec → c.code = b → c.maxLocals = n → s.vm.findClass y.cls = some m.cls → (∀ w ∈ lg_w, w.before args s = true) → va_K D cl ty s → sK Y A s s.heap → PDS D cl A s w0 s.heap [] → lv_has ls n (lv_args 0 av) →
      (∀ (pc : Nat) (ls : Array Slot) (H : Heap) (locs : List Loc), v &&& 1 = v → va_P D cl w1 H → va_S A s.heap H locs → decode b pc = .ok (.ireturn, 1) → W p l e rm s m args below meth c H locs 0 0 Q (F0 m pc ls [.int v])) →
      W p l e rm s m args below meth c s.heap [] 0 0 Q (F0 m 0 ls [])) : Ci l cl y b n (some .boolean) rm D ty Y av w0 w1 v :=
  ent hy hle (fun p e s m below meth c ls hx hb hr hlocks hml hown htl hK hsk hP hD hl => body p e s m av.toArray below meth c ls (cA w0) _ hx hb hml hown htl hK hsk ⟨hP, hD, va_S.rf⟩ hl (fun pc ls H locs hn hP hS hd => ret_z hx hb hr hlocks hn hP hS hd))
theorem entL {v : Int64} (hy : plainName y.cls = true) (hle : (lg_sl av).length ≤ n)
    (body : ∀ (p : Program) (e : Env) (s : State) (m : MethodId) (args : Array Value) (below : List Frame) (meth : Method) (c : Code) (ls : Array Slot) (A : Nat → Prop) (Q : State → Prop), p.tables.exec = Jvm.exec → c.code = b → c.maxLocals = n → s.vm.findClass y.cls = some m.cls → (∀ w ∈ lg_w, w.before args s = true) → va_K D cl ty s → sK Y A s s.heap → PDS D cl A s w0 s.heap [] → lv_has ls n (lv_args 0 av) →
      (∀ (pc : Nat) (ls : Array Slot) (H : Heap) (locs : List Loc), va_P D cl w1 H → va_S A s.heap H locs → decode b pc = .ok (.lreturn, 1) → W p l e rm s m args below meth c H locs 0 0 Q (F0 m pc ls [.long v])) →
      W p l e rm s m args below meth c s.heap [] 0 0 Q (F0 m 0 ls [])) : Cl l cl y b n (some .long) rm D ty Y av w0 w1 v :=
  ent hy hle (fun p e s m below meth c ls hx hb hr hlocks hml hown htl hK hsk hP hD hl => body p e s m av.toArray below meth c ls (cA w0) _ hx hb hml hown htl hK hsk ⟨hP, hD, va_S.rf⟩ hl (fun pc ls H locs hP hS hd => ret_l hx hb hr hlocks hP hS hd))
theorem entR {v : Nat} {nn : String} (hy : plainName y.cls = true) (hle : (lg_sl av).length ≤ n)
    (body : ∀ (p : Program) (e : Env) (s : State) (m : MethodId) (args : Array Value) (below : List Frame) (meth : Method) (c : Code) (ls : Array Slot) (A : Nat → Prop) (Q : State → Prop), p.tables.exec = Jvm.exec → c.code = b → c.maxLocals = n → s.vm.findClass y.cls = some m.cls → (∀ w ∈ lg_w, w.before args s = true) → va_K D cl ty s → sK Y A s s.heap → PDS D cl A s w0 s.heap [] → lv_has ls n (lv_args 0 av) →
      (∀ (pc : Nat) (ls : Array Slot) (H : Heap) (locs : List Loc), va_P D cl w1 H → va_S A s.heap H locs → decode b pc = .ok (.areturn, 1) → W p l e rm s m args below meth c H locs 0 0 Q (F0 m pc ls [.ref v])) →
      W p l e rm s m args below meth c s.heap [] 0 0 Q (F0 m 0 ls [])) : Cr l cl y b n (some (.object nn)) rm D ty Y av w0 w1 v :=
  ent hy hle (fun p e s m below meth c ls hx hb hr hlocks hml hown htl hK hsk hP hD hl => body p e s m av.toArray below meth c ls (cA w0) _ hx hb hml hown htl hK hsk ⟨hP, hD, va_S.rf⟩ hl (fun pc ls H locs hP hS hd => ret_r hx hb hr ⟨nn, rfl⟩ hlocks hP hS hd))
end ENTS
theorem vp_lit {i : Int32} {n : Nat} (h : ¬ (i < 0 ∨ n ≤ i.toNatClampNeg)) : vp_in i n := h
abbrev cpk (sp dp n : Int32) (n0 n1 : Nat) : Prop := ¬ sp < 0 ∧ ¬ dp < 0 ∧ ¬ n < 0 ∧ sp.toNatClampNeg + n.toNatClampNeg ≤ n0 ∧ dp.toNatClampNeg + n.toNatClampNeg ≤ n1
theorem nx_copy {p : Program} {l : Launch} {e : Env} {R : Room} {s : State} {m : MethodId} {args : Array Value} {below : List Frame} {meth : Method} {c : Code} {H : Heap} {locs : List Loc} {cells slots : Nat} {Q : State → Prop} {cc : ByteArray} {D : va_G} {cl : List vw_C} {tys : List (ClassId × FieldType)} {A : Nat → Prop} {H0 : Heap} {ws : va_W} {pc : Nat} {ls : Array Slot} {rest : List Value} {a : Nat}
    (hx : p.tables.exec = Jvm.exec) (hb : c.code = cc) (hml : c.maxLocals = ls.size) {own : String} {index : Nat} (hown : s.vm.findClass own = some m.cls) (hlink : (Cond.methodLink own index arraycopyName).before args s = true) (hnat : (Cond.native arraycopyName).before args s = true) (hstat : (Cond.static arraycopyName).before args s = true) (hini : (Cond.initialized "java/lang/System").before args s = true) (hK : va_K D cl tys s) (hP : va_P D cl ws H) (hD : va_D A ws) (hS : va_S A H0 H locs) (q0 q1 t0 t1 : Nat) {a0 : Nat} {c0 c1 : ClassId} {n0 n1 : Nat} {f g : Nat → Int32} {ty : FieldType} (ha0 : ws[q0]? = some (a0, .inl (c0, n0, .inl f))) (ha1 : ws[q1]? = some (a, .inl (c1, n1, .inl g))) (ht0 : tys[t0]? = some (c0, ty)) (ht1 : tys[t1]? = some (c1, ty)) (hprim : refKind ty = false) {sp dp n : Int32} (h1 : ¬ sp < 0) (h2 : ¬ dp < 0) (h3 : ¬ n < 0) (h4 : sp.toNatClampNeg + n.toNatClampNeg ≤ n0) (h5 : dp.toNatClampNeg + n.toNatClampNeg ≤ n1) (hfit : ∀ i, i < n.toNatClampNeg → fits ty (.int (f (sp.toNatClampNeg + i))) = true) (hframes : 1 ≤ R.frames) (hlocals : (rest.map fun v => v.category).sum + (nativeFrameWords "java/lang/System" "arraycopy" 5 + 11) ≤ R.locals) (hdg : decode cc pc = .ok (.invokestatic index, 3))
    (kk : ∀ h : Nat → Int32, h = va_cpy f g sp.toNatClampNeg dp.toNatClampNeg n.toNatClampNeg → ∀ (H1 : Heap) (locs1 : List Loc), va_P D cl (ws.set q1 (a, .inl (c1, n1, .inl h))) H1 → va_D A (ws.set q1 (a, .inl (c1, n1, .inl h))) → va_S A H0 H1 locs1 → W p l e R s m args below meth c H1 locs1 cells slots Q (F0 m (pc + 3) ls rest)) : W p l e R s m args below meth c H locs cells slots Q (F0 m pc ls (.int n :: .int dp :: .ref a :: .int sp :: .ref a0 :: rest)) :=
  va_copyi hx hb hml hown hlink hnat hstat hini hK hP hD hS q0 q1 t0 t1 ha0 ha1 ht0 ht1 hprim h1 h2 h3 h4 h5 hfit hframes hlocals hdg (kk _ rfl)
