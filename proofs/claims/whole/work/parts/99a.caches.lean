theorem qJp_kn {g : Qg} {kn pd cn pa : Int32} {ps cs : Nat → Int32} (h : qJp g kn pd cn pa ps cs) : qJp g (qi 1) pd cn pa ps cs := by
  rcases h with h | ⟨h1, h2, h3⟩
  · exact Or.inl h
  · exact Or.inr ⟨h1, rfl, h3⟩
theorem J_pairedSets_q {g : Qg} (hg : qGok g) {kn pd cn c1 pa en rel edg lim : Int32} {cp cs li ps ri by' left right rows : Nat → Int32} {sz : Nat → Int64} (hj : qJg g rel edg lim rows left right by') (h : qJs g kn cn en cp li ri sz) (hp : qJp g kn pd c1 pa ps cs) (N : Nat) (hN : 300 < N) :
    ∃ cp' cs' li' ps' ri' sz', J_pairedSets N kn pd cn c1 pa en rel edg cp cs li ps ri sz by' left right rows = some (qi 1, qi 1, qi (qcc g), qi (qca g (2 ^ qn g)), qi (qpa g (2 ^ qn g)), qi (2 ^ qn g), cp', cs', li', ps', ri', sz') ∧ qSets g li' ri' ∧ qSz g cp' sz' (2 ^ qn g) ∧ qPs g ps' (2 ^ qn g) ∧ qCs g cs' (2 ^ qn g) := by
  rcases hp with rfl | ⟨rfl, rfl, rfl, rfl, h5⟩
  · obtain ⟨cp', li', ri', sz', e1, e2, e3⟩ := J_knownSets_q hg hj h N hN
    obtain ⟨cs', ps', f1, f2⟩ := S_findPairs_q hg e2 (cs := cs) (ps := ps) (qi 0) c1 pa N hN
    refine ⟨cp', cs', li', ps', ri', sz', ?_, e2, e3, f2⟩
    unfold J_pairedSets
    rw [if_pos (show qi 0 = 0 from rfl), e1, db_some]
    dsimp only
    rw [f1, db_some]
    rfl
  · rcases h with h | ⟨_, rfl, rfl, h3, h4⟩
    · exact absurd h (by decide)
    · exact ⟨cp, cs, li, ps, ri, sz, rfl, h3, h4, h5⟩
theorem J_bestOf0_q {g : Qg} (hg : qGok g) {bk kn cn en rel edg lim : Int32} {cp li ri by' left right rows bx bp : Nat → Int32} {bc sz : Nat → Int64} (hj : qJg g rel edg lim rows left right by') (h : qJs g kn cn en cp li ri sz) (hb : qJb g false bk bc bx bp) (N : Nat) (hN : 300 < N) :
    ∃ kn' cn' en' bc' bx' bp' cp' li' ri' sz', J_bestOf0 N bk kn cn en bc bx bp rel edg cp li ri sz by' left right rows = some (qi 1, kn', cn', en', bc', bx', bp', cp', li', ri', sz') ∧ qBt (qbest g false) 0 bc' bx' bp' (2 ^ qn g) ∧ qJs g kn' cn' en' cp' li' ri' sz' ∧ (kn' = kn ∨ kn' = qi 1) := by
  rcases hb with rfl | ⟨rfl, h5⟩
  · obtain ⟨cp', li', ri', sz', e1, e2, e3⟩ := J_knownSets_q hg hj h N hN
    obtain ⟨c', x', p', f1, f2⟩ := B_find_q hg e2 false e3 (qi 0) bc bx bp N hN
    refine ⟨_, _, _, _, _, _, cp', li', ri', sz', ?_, f2, Or.inr ⟨rfl, rfl, rfl, e2, e3⟩, Or.inr rfl⟩
    unfold J_bestOf0 J_bestOf0_15
    rw [if_pos (show qi 0 = 0 from rfl), e1, db_some]
    dsimp only
    have f1' : B_find N (qi (2 ^ qn g)) (qi 0) li' ri' sz' bc bx bp (0 : Int32) = some (1, c', x', p') := f1
    rw [f1', db_some]
    rfl
  · exact ⟨kn, cn, en, bc, bx, bp, cp, li, ri, sz, rfl, h5, h, Or.inl rfl⟩
theorem J_bestOf1_q {g : Qg} (hg : qGok g) {bk kn cn en rel edg lim : Int32} {cp li ri by' left right rows bx bp : Nat → Int32} {bc sz : Nat → Int64} (hj : qJg g rel edg lim rows left right by') (h : qJs g kn cn en cp li ri sz) (hb : qJb g true bk bc bx bp) (N : Nat) (hN : 300 < N) :
    ∃ kn' cn' en' bc' bx' bp' cp' li' ri' sz', J_bestOf1 N bk kn cn en bc bx bp rel edg cp li ri sz by' left right rows = some (qi 1, kn', cn', en', bc', bx', bp', cp', li', ri', sz') ∧ qBt (qbest g true) 0 bc' bx' bp' (2 ^ qn g) ∧ qJs g kn' cn' en' cp' li' ri' sz' ∧ (kn' = kn ∨ kn' = qi 1) := by
  rcases hb with rfl | ⟨rfl, h5⟩
  · obtain ⟨cp', li', ri', sz', e1, e2, e3⟩ := J_knownSets_q hg hj h N hN
    obtain ⟨c', x', p', f1, f2⟩ := B_find_q hg e2 true e3 (qi 0) bc bx bp N hN
    refine ⟨_, _, _, _, _, _, cp', li', ri', sz', ?_, f2, Or.inr ⟨rfl, rfl, rfl, e2, e3⟩, Or.inr rfl⟩
    unfold J_bestOf1 J_bestOf1_15
    rw [if_pos (show qi 0 = 0 from rfl), e1, db_some]
    dsimp only
    have f1' : B_find N (qi (2 ^ qn g)) (qi 0) li' ri' sz' bc bx bp (1 : Int32) = some (1, c', x', p') := f1
    rw [f1', db_some]
    rfl
  · exact ⟨kn, cn, en, bc, bx, bp, cp, li, ri, sz, rfl, h5, h, Or.inl rfl⟩
theorem qJp_kn' {g : Qg} {kn kn' pd cn pa : Int32} {ps cs : Nat → Int32} (h : qJp g kn pd cn pa ps cs) (hk : kn' = kn ∨ kn' = qi 1) : qJp g kn' pd cn pa ps cs := by
  rcases hk with rfl | rfl
  · exact h
  · exact qJp_kn h
