def R_law : String := "JoinOrdersLaw"
def lw_P (b : Addr) (xs : List Int32) (args : Array Value) (s : State) : Prop := args = #[.ref b] ∧ s.IntsAt b xs ∧ xs.length ≤ 2048 ∧ (Jvm.Cond.and given_1 narrow_1).before args s = true
def lw_Q (_ : Array Value) (s : State) (o : Outcome) (t : State) : Prop := o = .returned (some (.int 1)) ∧ Framed s o t [] 601024 7293034
def lw_Z (below : List Frame) (a : Array Value) (s : State) : State → Prop := fun t => ∃ o, t.status = .running ∧ Ended t below o ∧ lw_Q a s o t
/-- the law's own end, with 1 on the stack, nothing written that was there before, its room as the claim has it -/
theorem lw_ret {p : Program} {l : Launch} {e : Env} {s : State} {m : MethodId} {below : List Frame} {meth : Method} {c : Code} {b : Nat} (hx : p.tables.exec = Jvm.exec) (hb : c.code = code) (hr : meth.sig.returnType = ret) (hlocks : meth.locks = false) {pc : Nat} {H : Heap} {ls : Array Slot} (hdg : decode code pc = .ok (.ireturn, 1)) : W p l e room_1 s m #[Value.ref b] below meth c H [] 601024 7293034 (lw_Z below #[Value.ref b] s) (F0 m pc ls [.int 1]) := by
  intro T hT X
  obtain ⟨fs, hret, hrun, hended, hW, hframe⟩ := X.leave (v := some (.int 1)) (hlocks := hlocks) (fun h => by rw [hr] at h; cases h)
  have hmeth' : T.vm.method? m = some meth := X.method'
  refine ⟨T.setFrames fs, ?_, .returned (some (.int 1)), hrun, hended, rfl, ⟨_, rfl⟩, hW, hframe⟩
  jvm_step X.here [X.here.top, hx, hb, hdg, hmeth', hr, ret, narrow_b1]
  (try refine ⟨rfl, ?_⟩); (try refine ⟨rfl, ?_⟩)
  first | (intro acts; rw [hret _ acts rfl rfl rfl]) | rw [hret _ _ rfl rfl rfl]
  exact Steps.refl _
/-- what holds at the law's entry: the machine, the code, the tables' words (any of lw_tbl by 'hts w (by decide +kernel)'), the script of L ints xs at the cell b, what the Statement gives of the start (any of its parts by flat_of_before) -/
def lw_At (p : Program) (s : State) (m : MethodId) (meth : Method) (c : Code) (b L : Nat) (xs : Nat → Int32) : Prop :=
  p.tables.exec = Jvm.exec ∧ c.code = code ∧ meth.sig.returnType = ret ∧ c.maxLocals = 8 ∧ s.vm.findClass R_law = some m.cls ∧ (∀ w ∈ lw_tbl, w.before #[Value.ref b] s = true) ∧ va_X b L xs s s.heap ∧ b < s.heap.size ∧ meth.locks = false ∧ (Jvm.Cond.and given_1 narrow_1).before #[Value.ref b] s = true
theorem k_509 : (.methodLink "JoinOrdersLaw" 25 ⟨"JoinOrders", "type", "(J)I"⟩ : Cond) ∈ lg_w := inG (List.mem_of_getElem? (i := 509) (by decide +kernel)) (by decide +kernel)
theorem k_520 : (.methodLink "JoinOrdersLaw" 30 ⟨"JoinOrders", "query", "()I"⟩ : Cond) ∈ lg_w := inG (List.mem_of_getElem? (i := 520) (by decide +kernel)) (by decide +kernel)
theorem k_735 : (.methodLink "JoinOrdersLaw" 35 ⟨"JoinOrders", "plan", "()I"⟩ : Cond) ∈ lg_w := inG (List.mem_of_getElem? (i := 735) (by decide +kernel)) (by decide +kernel)
theorem k_769 : (.methodLink "JoinOrdersLaw" 39 ⟨"JoinOrders", "fault", "(Z)I"⟩ : Cond) ∈ lg_w := inG (List.mem_of_getElem? (i := 769) (by decide +kernel)) (by decide +kernel)
theorem k_773 : (.methodLink "JoinOrdersLaw" 44 ⟨"JoinOrders", "add", "(I)I"⟩ : Cond) ∈ lg_w := inG (List.mem_of_getElem? (i := 773) (by decide +kernel)) (by decide +kernel)
theorem k_783 : (.methodLink "JoinOrdersLaw" 49 ⟨"JoinOrders", "rows", "(II)Z"⟩ : Cond) ∈ lg_w := inG (List.mem_of_getElem? (i := 783) (by decide +kernel)) (by decide +kernel)
theorem k_788 : (.methodLink "JoinOrdersLaw" 54 ⟨"JoinOrders", "link", "(III)I"⟩ : Cond) ∈ lg_w := inG (List.mem_of_getElem? (i := 788) (by decide +kernel)) (by decide +kernel)
theorem k_806 : (.methodLink "JoinOrdersLaw" 59 ⟨"JoinOrders", "cut", "(I)I"⟩ : Cond) ∈ lg_w := inG (List.mem_of_getElem? (i := 806) (by decide +kernel)) (by decide +kernel)
theorem k_819 : (.methodLink "JoinOrdersLaw" 63 ⟨"JoinOrders", "by", "(II)Z"⟩ : Cond) ∈ lg_w := inG (List.mem_of_getElem? (i := 819) (by decide +kernel)) (by decide +kernel)
theorem k_823 : (.methodLink "JoinOrdersLaw" 67 ⟨"JoinOrders", "limit", "(I)Z"⟩ : Cond) ∈ lg_w := inG (List.mem_of_getElem? (i := 823) (by decide +kernel)) (by decide +kernel)
theorem k_828 : (.methodLink "JoinOrdersLaw" 72 ⟨"JoinOrders", "choose", "()I"⟩ : Cond) ∈ lg_w := inG (List.mem_of_getElem? (i := 828) (by decide +kernel)) (by decide +kernel)
theorem k_944 : (.methodLink "JoinOrdersLaw" 76 ⟨"JoinOrders", "step", "()I"⟩ : Cond) ∈ lg_w := inG (List.mem_of_getElem? (i := 944) (by decide +kernel)) (by decide +kernel)
theorem k_989 : (.methodLink "JoinOrdersLaw" 80 ⟨"JoinOrders", "undo", "()I"⟩ : Cond) ∈ lg_w := inG (List.mem_of_getElem? (i := 989) (by decide +kernel)) (by decide +kernel)
theorem k_993 : (.methodLink "JoinOrdersLaw" 84 ⟨"JoinOrders", "count", "(I)I"⟩ : Cond) ∈ lg_w := inG (List.mem_of_getElem? (i := 993) (by decide +kernel)) (by decide +kernel)
theorem k_1007 : (.methodLink "JoinOrdersLaw" 97 ⟨"JoinOrders", "size", "(IZ)J"⟩ : Cond) ∈ lg_w := inG (List.mem_of_getElem? (i := 1007) (by decide +kernel)) (by decide +kernel)
theorem k_1012 : (.methodLink "JoinOrdersLaw" 102 ⟨"JoinOrders", "connected", "(I)Z"⟩ : Cond) ∈ lg_w := inG (List.mem_of_getElem? (i := 1012) (by decide +kernel)) (by decide +kernel)
theorem k_1013 : (.methodLink "JoinOrdersLaw" 106 ⟨"JoinOrders", "joined", "(II)Z"⟩ : Cond) ∈ lg_w := inG (List.mem_of_getElem? (i := 1013) (by decide +kernel)) (by decide +kernel)
theorem k_1018 : (.methodLink "JoinOrdersLaw" 110 ⟨"JoinOrders", "pair", "(IZ)I"⟩ : Cond) ∈ lg_w := inG (List.mem_of_getElem? (i := 1018) (by decide +kernel)) (by decide +kernel)
theorem k_1030 : (.methodLink "JoinOrdersLaw" 115 ⟨"JoinOrders", "best", "(IZI)J"⟩ : Cond) ∈ lg_w := inG (List.mem_of_getElem? (i := 1030) (by decide +kernel)) (by decide +kernel)
theorem k_1034 : (.methodLink "JoinOrdersLaw" 120 ⟨"JoinOrders", "greedy", "(I)J"⟩ : Cond) ∈ lg_w := inG (List.mem_of_getElem? (i := 1034) (by decide +kernel)) (by decide +kernel)
theorem k_1039 : (.methodLink "JoinOrdersLaw" 128 ⟨"JoinOrders", "cost", "()J"⟩ : Cond) ∈ lg_w := inG (List.mem_of_getElem? (i := 1039) (by decide +kernel)) (by decide +kernel)
theorem k_1043 : (.methodLink "JoinOrdersLaw" 133 ⟨"JoinOrders", "told", "(I)I"⟩ : Cond) ∈ lg_w := inG (List.mem_of_getElem? (i := 1043) (by decide +kernel)) (by decide +kernel)
theorem k_1065 : (.methodLink "JoinOrdersLaw" 137 ⟨"JoinOrders", "move", "(I)J"⟩ : Cond) ∈ lg_w := inG (List.mem_of_getElem? (i := 1065) (by decide +kernel)) (by decide +kernel)
theorem k_1070 : (.methodLink "JoinOrdersLaw" 141 ⟨"JoinOrders", "steps", "()I"⟩ : Cond) ∈ lg_w := inG (List.mem_of_getElem? (i := 1070) (by decide +kernel)) (by decide +kernel)
theorem k_1075 : (.methodLink "JoinOrdersLaw" 145 ⟨"JoinOrders", "would", "(ZII)J"⟩ : Cond) ∈ lg_w := inG (List.mem_of_getElem? (i := 1075) (by decide +kernel)) (by decide +kernel)
theorem k_1083 : (.methodLink "JoinOrdersLaw" 150 ⟨"JoinOrders", "needed", "(Z)J"⟩ : Cond) ∈ lg_w := inG (List.mem_of_getElem? (i := 1083) (by decide +kernel)) (by decide +kernel)
theorem k_1087 : (.methodLink "JoinOrdersLaw" 155 ⟨"JoinOrders", "image", "(I)Z"⟩ : Cond) ∈ lg_w := inG (List.mem_of_getElem? (i := 1087) (by decide +kernel)) (by decide +kernel)
theorem k_1102 : (.methodLink "JoinOrdersLaw" 159 ⟨"JoinOrders", "again", "(I)Z"⟩ : Cond) ∈ lg_w := inG (List.mem_of_getElem? (i := 1102) (by decide +kernel)) (by decide +kernel)
theorem k_1333 : (.methodLink "JoinOrdersLaw" 29 ⟨"JoinOrdersModel", "type", "(J)I"⟩ : Cond) ∈ lg_w := inG (List.mem_of_getElem? (i := 1333) (by decide +kernel)) (by decide +kernel)
theorem k_1338 : (.methodLink "JoinOrdersLaw" 34 ⟨"JoinOrdersModel", "query", "()I"⟩ : Cond) ∈ lg_w := inG (List.mem_of_getElem? (i := 1338) (by decide +kernel)) (by decide +kernel)
theorem k_1403 : (.methodLink "JoinOrdersLaw" 43 ⟨"JoinOrdersModel", "fault", "(Z)I"⟩ : Cond) ∈ lg_w := inG (List.mem_of_getElem? (i := 1403) (by decide +kernel)) (by decide +kernel)
theorem k_1407 : (.methodLink "JoinOrdersLaw" 38 ⟨"JoinOrdersModel", "plan", "()I"⟩ : Cond) ∈ lg_w := inG (List.mem_of_getElem? (i := 1407) (by decide +kernel)) (by decide +kernel)
theorem k_1441 : (.methodLink "JoinOrdersLaw" 48 ⟨"JoinOrdersModel", "add", "(I)I"⟩ : Cond) ∈ lg_w := inG (List.mem_of_getElem? (i := 1441) (by decide +kernel)) (by decide +kernel)
theorem k_1450 : (.methodLink "JoinOrdersLaw" 53 ⟨"JoinOrdersModel", "rows", "(II)Z"⟩ : Cond) ∈ lg_w := inG (List.mem_of_getElem? (i := 1450) (by decide +kernel)) (by decide +kernel)
theorem k_1458 : (.methodLink "JoinOrdersLaw" 58 ⟨"JoinOrdersModel", "link", "(III)I"⟩ : Cond) ∈ lg_w := inG (List.mem_of_getElem? (i := 1458) (by decide +kernel)) (by decide +kernel)
theorem k_1474 : (.methodLink "JoinOrdersLaw" 62 ⟨"JoinOrdersModel", "cut", "(I)I"⟩ : Cond) ∈ lg_w := inG (List.mem_of_getElem? (i := 1474) (by decide +kernel)) (by decide +kernel)
theorem k_1486 : (.methodLink "JoinOrdersLaw" 66 ⟨"JoinOrdersModel", "by", "(II)Z"⟩ : Cond) ∈ lg_w := inG (List.mem_of_getElem? (i := 1486) (by decide +kernel)) (by decide +kernel)
theorem k_1494 : (.methodLink "JoinOrdersLaw" 71 ⟨"JoinOrdersModel", "limit", "(I)Z"⟩ : Cond) ∈ lg_w := inG (List.mem_of_getElem? (i := 1494) (by decide +kernel)) (by decide +kernel)
theorem k_1499 : (.methodLink "JoinOrdersLaw" 75 ⟨"JoinOrdersModel", "choose", "()I"⟩ : Cond) ∈ lg_w := inG (List.mem_of_getElem? (i := 1499) (by decide +kernel)) (by decide +kernel)
theorem k_1570 : (.methodLink "JoinOrdersLaw" 79 ⟨"JoinOrdersModel", "step", "()I"⟩ : Cond) ∈ lg_w := inG (List.mem_of_getElem? (i := 1570) (by decide +kernel)) (by decide +kernel)
theorem k_1610 : (.methodLink "JoinOrdersLaw" 83 ⟨"JoinOrdersModel", "undo", "()I"⟩ : Cond) ∈ lg_w := inG (List.mem_of_getElem? (i := 1610) (by decide +kernel)) (by decide +kernel)
theorem k_1614 : (.methodLink "JoinOrdersLaw" 87 ⟨"JoinOrdersModel", "count", "(I)I"⟩ : Cond) ∈ lg_w := inG (List.mem_of_getElem? (i := 1614) (by decide +kernel)) (by decide +kernel)
theorem k_1635 : (.methodLink "JoinOrdersLaw" 101 ⟨"JoinOrdersModel", "size", "(IZ)J"⟩ : Cond) ∈ lg_w := inG (List.mem_of_getElem? (i := 1635) (by decide +kernel)) (by decide +kernel)
theorem k_1640 : (.methodLink "JoinOrdersLaw" 105 ⟨"JoinOrdersModel", "connected", "(I)Z"⟩ : Cond) ∈ lg_w := inG (List.mem_of_getElem? (i := 1640) (by decide +kernel)) (by decide +kernel)
theorem k_1644 : (.methodLink "JoinOrdersLaw" 109 ⟨"JoinOrdersModel", "joined", "(II)Z"⟩ : Cond) ∈ lg_w := inG (List.mem_of_getElem? (i := 1644) (by decide +kernel)) (by decide +kernel)
theorem k_1648 : (.methodLink "JoinOrdersLaw" 114 ⟨"JoinOrdersModel", "pair", "(IZ)I"⟩ : Cond) ∈ lg_w := inG (List.mem_of_getElem? (i := 1648) (by decide +kernel)) (by decide +kernel)
theorem k_1652 : (.methodLink "JoinOrdersLaw" 119 ⟨"JoinOrdersModel", "best", "(IZI)J"⟩ : Cond) ∈ lg_w := inG (List.mem_of_getElem? (i := 1652) (by decide +kernel)) (by decide +kernel)
theorem k_1656 : (.methodLink "JoinOrdersLaw" 124 ⟨"JoinOrdersModel", "greedy", "(I)J"⟩ : Cond) ∈ lg_w := inG (List.mem_of_getElem? (i := 1656) (by decide +kernel)) (by decide +kernel)
theorem k_1665 : (.methodLink "JoinOrdersLaw" 132 ⟨"JoinOrdersModel", "cost", "()J"⟩ : Cond) ∈ lg_w := inG (List.mem_of_getElem? (i := 1665) (by decide +kernel)) (by decide +kernel)
theorem k_1669 : (.methodLink "JoinOrdersLaw" 136 ⟨"JoinOrdersModel", "told", "(I)I"⟩ : Cond) ∈ lg_w := inG (List.mem_of_getElem? (i := 1669) (by decide +kernel)) (by decide +kernel)
theorem k_1684 : (.methodLink "JoinOrdersLaw" 140 ⟨"JoinOrdersModel", "move", "(I)J"⟩ : Cond) ∈ lg_w := inG (List.mem_of_getElem? (i := 1684) (by decide +kernel)) (by decide +kernel)
theorem k_1688 : (.methodLink "JoinOrdersLaw" 144 ⟨"JoinOrdersModel", "steps", "()I"⟩ : Cond) ∈ lg_w := inG (List.mem_of_getElem? (i := 1688) (by decide +kernel)) (by decide +kernel)
theorem k_1692 : (.methodLink "JoinOrdersLaw" 149 ⟨"JoinOrdersModel", "would", "(ZII)J"⟩ : Cond) ∈ lg_w := inG (List.mem_of_getElem? (i := 1692) (by decide +kernel)) (by decide +kernel)
theorem k_1700 : (.methodLink "JoinOrdersLaw" 154 ⟨"JoinOrdersModel", "needed", "(Z)J"⟩ : Cond) ∈ lg_w := inG (List.mem_of_getElem? (i := 1700) (by decide +kernel)) (by decide +kernel)
theorem k_1704 : (.methodLink "JoinOrdersLaw" 158 ⟨"JoinOrdersModel", "image", "(I)Z"⟩ : Cond) ∈ lg_w := inG (List.mem_of_getElem? (i := 1704) (by decide +kernel)) (by decide +kernel)
theorem k_1716 : (.methodLink "JoinOrdersLaw" 162 ⟨"JoinOrdersModel", "again", "(I)Z"⟩ : Cond) ∈ lg_w := inG (List.mem_of_getElem? (i := 1716) (by decide +kernel)) (by decide +kernel)
theorem k_1720 : (.constantLong "JoinOrdersLaw" 23 (4294967295 : Int64) : Cond) ∈ lg_w := inG (List.mem_of_getElem? (i := 1720) (by decide +kernel)) (by decide +kernel)
theorem heJ (G : va_G × (Nat → ClassId)) (a : Nat → Nat) (sj : SJ) (v : va_W) : ([] ++ (WJ G a sj ++ v))[0]? = some (a 0, .inr (11, [.ref (a 5), .ref (a 2), .ref (a 7), .ref (a 8), .int (sj.1 0), .int (sj.1 1), .ref (a 10), .ref (a 9), .ref (a 11), .ref (a 1), .ref (a 3), .ref (a 6), .ref (a 4), .ref (a 15), .ref (a 16), .ref (a 12), .ref (a 14), .ref (a 13)])) := rfl
def fsR (bb : Nat → Nat) (t : SR) : List Value := [.int (t.1 0), .ref (bb 1), .ref (bb 15), .ref (bb 13), .ref (bb 18), .int (t.1 1), .int (t.1 2), .int (t.1 3), .int (t.1 4), .int (t.1 5), .int (t.1 6), .int (t.1 7), .long (t.2.2 99 0), .int (t.1 8), .int (t.1 9), .int (t.1 10), .ref (bb 16), .int (t.1 11), .int (t.1 12), .ref (bb 12), .int (t.1 13), .ref (bb 9), .int (t.1 14), .int (t.1 15), .int (t.1 16), .ref (bb 14), .ref (bb 5), .ref (bb 6), .ref (bb 2), .ref (bb 3), .ref (bb 4), .ref (bb 11), .ref (bb 17), .int (t.1 17), .ref (bb 8), .int (t.1 18), .int (t.1 19), .int (t.1 20), .int (t.1 21), .int (t.1 22), .int (t.1 23), .ref (bb 10), .int (t.1 24), .ref (bb 7)]
set_option maxRecDepth 100000 in
theorem heR (G : va_G × (Nat → ClassId)) (a : Nat → Nat) (sj : SJ) (bb : Nat → Nat) (t : SR) (v : va_W) : (WJ G a sj ++ (WR G bb t ++ v))[165]? = some (bb 0, .inr (12, fsR bb t)) := by
  rw [List.getElem?_append_right (Nat.le_of_eq (WJ_n G a sj)), WJ_n]
  rfl
def LX (p : Program) (s : State) (m : MethodId) (c : Code) (b L : Nat) (xs : Nat → Int32) (G : va_G × (Nat → ClassId)) (Y : (Nat → Nat) × (Nat → Nat)) : Prop :=
  p.tables.exec = Jvm.exec ∧ c.code = code ∧ c.maxLocals = 8 ∧ s.vm.findClass R_law = some m.cls ∧ (∀ w ∈ lg_w, w.before #[Value.ref b] s = true) ∧ va_K G.1 classes (tyL G) s ∧ sK Y (fun q => s.heap.size ≤ q) s s.heap ∧ va_X b L xs s s.heap ∧ b < s.heap.size
def LW (G : va_G × (Nat → ClassId)) (a bb : Nat → Nat) (o : Nat) (s : State) (sj : SJ) (t : SR) (f : Nat → Int64) (H : Heap) (locs : List Loc) : Prop :=
  va_P G.1 classes (WJ G a sj ++ (WR G bb t ++ [(o, aJ G 1 f)])) H ∧ va_D (fun q : Nat => s.heap.size ≤ q) (WJ G a sj ++ (WR G bb t ++ [(o, aJ G 1 f)])) ∧ va_S (fun q : Nat => s.heap.size ≤ q) s.heap H locs
theorem ix_in {L i : Nat} (hL : L ≤ 2048) (hi : i + 4 ≤ L) (d : Nat) (hd : d < 4) : vp_in (qi i + qi d) L := by
  rw [qi_add]
  intro h
  rcases h with h | h
  · exact absurd ((qi_lt _ 0 (by omega) (by omega)).mp h) (by omega)
  · rw [qi_nat _ (by omega)] at h
    omega
