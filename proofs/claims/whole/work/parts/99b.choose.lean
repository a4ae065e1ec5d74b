theorem qPlan_R {φ : Qf} (hc : qcok φ.1) {M : Nat → Option Qf} {all tx sv a' : Nat → Int32} (hF : qFR φ all tx) (hI : qIRs M all tx sv) {u : Qt} (h1 : a' 59 = qi (qts u)) (h2 : ∀ s, s < 256 → a' (60 + s) = qi (qpf u s)) (h3 : ∀ j, j < 59 ∨ 316 ≤ j → a' j = all j) :
    qFR ((φ.1.1, some u), φ.2) a' tx ∧ qIRs M a' tx sv := by
  obtain ⟨f1, f2, f3, f4, f5⟩ := hF
  exact ⟨⟨⟨qRg_c hc.1 f1.1 (fun j hj => h3 j (by omega)), h1, h2⟩, (h3 316 (by omega)).trans f2, (h3 317 (by omega)).trans f3, (h3 318 (by omega)).trans f4, f5⟩, qIRs_c hI (fun j hj => h3 j (by omega)) (fun _ _ => rfl)⟩
theorem qbt_now {g : Qg} (hg : qGok g) (h1 : 1 ≤ qn g) : ∃ u, qtok u ∧ qts u = 2 ^ qn g - 1 ∧ qcf (qBp g) u := by
  have h8 := q2p _ hg.1
  have : 2 ≤ 2 ^ qn g := by
    calc 2 = 2 ^ 1 := rfl
      _ ≤ 2 ^ qn g := Nat.pow_le_pow_right (by omega) h1
  have := qbt_q (qBp g) 256 (by omega) (qBp_ok g) 256 (2 ^ qn g - 1) (by omega) (by omega) (by omega)
  exact ⟨_, this⟩
theorem R_choose_59_q {φ : Qf} (hc : qcok φ.1) {H : List Qc} {M : Nat → Option Qf} {all tx sv ud : Nat → Int32} {un : Int32} (hF : qFR φ all tx) (rh : qRh H un ud) (hI : qIRs M all tx sv) (u : Qt) (hu : qts u = 2 ^ qn φ.1.1 - 1) (z : Bool)
    (ra tm : Int32) (bc : Nat → Int64) (bx bp cp con p : Nat → Int32) (sz : Nat → Int64) (tr : Nat → Int32) (hp : qRp u p) (N : Nat) (hN : 3000 < N) :
    ∃ a' ud', R_choose_59 N ra un tm all bc bx bp cp con p sz tr ud (qi z.toNat) = some (qi z.toNat, ra, qi (qrem H φ.1).length, tm, a', bc, bx, bp, cp, con, p, sz, tr, ud') ∧ qFR ((φ.1.1, some u), φ.2) a' tx ∧ qIRs M a' tx sv ∧ qRh (qrem H φ.1) (qi (qrem H φ.1).length) ud' := by
  obtain ⟨ud', k1, k2⟩ := R_keeps_q _ _ _ _ rh φ.1 hc hF.1 N (by omega)
  obtain ⟨a', e1, e2, e3, e4⟩ := R_isPlanNow_q all p (R_everything all) N (by omega)
  have ev := R_everything_q hc.1 hF.1.1.1
  obtain ⟨q1, q2⟩ := qPlan_R hc hF hI (u := u) (a' := a') (by rw [e2, ev, hu]) (fun s hs => by rw [e3 s hs]; exact hp s hs) e4
  refine ⟨a', ud', ?_, q1, q2, k2⟩
  unfold R_choose_59
  rw [k1, db_some, e1, db_some]
  cases z <;> rfl
theorem qq_choose (σ : Qσ) (s : SJ) (t : SR) (hJ : qRelJ σ s) (hR : qRelR σ t) (N : Nat) (hN : 200000 < N) : ∃ σ', qOk σ' (sJ_choose N s) (sR_choose N t) := by
  obtain ⟨⟨hc, hj, hl, hb, hf, hp⟩, hh, hs, hpp, hb0, hb1, hi⟩ := id hJ
  obtain ⟨⟨rc, r1, r2, r3, r4⟩, rh, ri⟩ := id hR
  have hg := hc.1
  have h8 := hg.1
  have hn : (s.1 41) = qi (qn σ.1.1.1) := hj.1.1
  have rn : (t.2.1 0) (0 : Int32).toNatClampNeg = qi (qn σ.1.1.1) := rc.1.1
  have hm : (s.1 43) = qi (qlim σ.1.1.1) := hj.1.2.2.1
  have rm : (t.2.1 0) (58 : Int32).toNatClampNeg = qi (qlim σ.1.1.1) := rc.1.2.2.1
  have hlm := hg.2.2.1
  have hpb := qpa_le σ.1.1.1 (2 ^ qn σ.1.1.1) (q2p _ h8).2
  have h2p := q2p _ h8
  by_cases c0 : qn σ.1.1.1 = 0
  · refine qYesJ σ (-1) ?_ ?_
    · unfold sJ_choose J_choose
      rw [if_pos (by rw [hn, c0]; rfl)]
      exact ⟨_, rfl, hJ⟩
    · unfold sR_choose R_choose
      rw [if_pos (by rw [rn, c0]; rfl)]
      exact ⟨_, rfl, hR⟩
  · have n0 : ¬ qi (qn σ.1.1.1) = 0 := fun h => c0 (qi_inj (by omega) (by omega) h)
    obtain ⟨cp1, cs1, li1, ps1, ri1, sz1, p1, p2, p3, p4⟩ := J_pairedSets_q hg hj.1 hs hpp N (by omega)
    obtain ⟨bc', bx', bp', cp', con', sz', l1, l2⟩ := R_lays_q hg rc.1 (t.2.2 0) (t.2.1 1) (t.2.1 2) (t.2.1 3) (t.2.1 4) (t.2.2 1) N (by omega)
    have rp := R_pairMany_q hg rc.1 (con := con') (fun x hx hx2 => (l2.2.2 x hx hx2).2.1) N (by omega)
    have js1 : qJs σ.1.1.1 (qi 1) (qi (qcc σ.1.1.1)) (qi (2 ^ qn σ.1.1.1)) cp1 li1 ri1 sz1 := Or.inr ⟨rfl, rfl, rfl, p2, p3⟩
    obtain ⟨nx', pr', pe', pl', po', pj', pb', ple', pri', pro', pp', ps', eR, hh'⟩ := J_remember_q hh hc hj
    by_cases cg : qlim σ.1.1.1 < qpa σ.1.1.1 (2 ^ qn σ.1.1.1)
    · obtain ⟨kcp, kli, kri, ksz, k1, k2, k3⟩ := J_knownSets_q hg hj.1 js1 N (by omega)
      obtain ⟨u, u1, u2, u3, m', pf', ps', pa', sp', m1, m2⟩ := A_mergeAll_q hg (by omega) k2 k3 (pa := (s.2.1 6)) (sp := (s.2.1 7)) (s.1 7) (s.1 8) (s.1 9) N (by omega)
      obtain ⟨u', v1, tm', pp', tr', v2, v3⟩ := R_partsOfGreedy_q hg (by omega) rc.1 (p := (t.2.1 9)) (tr := (t.2.1 14)) (sz := sz') (fun x hx hx2 => (l2.2.2 x hx hx2).2.2) (t.1 17) N (by omega)
      have huu : u' = u := qchain_det _ _ _ _ _ (qini_fo _ h8) (List.Perm.refl _) v1 u3
      subst huu
      have hok : qcok (σ.1.1.1, some u') := ⟨hg, fun t h => by cases h; exact ⟨u1, by rw [u2]; exact Nat.sub_lt (by omega) (by omega)⟩⟩
      refine qYesJ (((σ.1.1.1, some u'), σ.1.2), qrem σ.2.1 σ.1.1, σ.2.2) 1 ?_ ?_
      · unfold sJ_choose J_choose
        rw [if_neg (show ¬ (s.1 41) = 0 by rw [hn]; exact n0), q_dn, p1, db_some]
        dsimp only
        rw [if_pos (show (s.1 43) < qi (qpa σ.1.1.1 (2 ^ qn σ.1.1.1)) by rw [hm]; exact (qi_lt _ _ (by omega) (by omega)).mpr cg)]
        unfold J_choose_51
        rw [eR, db_some, if_pos (show (0 : Int32) = 0 from rfl)]
        dsimp only
        rw [k1, db_some]
        dsimp only
        rw [← hn] at m1
        rw [m1, db_some]
        dsimp only
        obtain ⟨pt', st2, t1, t2⟩ := P_take_q u' u1 sp' (s.2.1 33) (s.2.1 34) (s.1 44) (s.1 45) m2
        rw [show G_all (s.1 41) = qi (qts u') by rw [hn, G_all_x _ h8, u2], t1, db_some]
        exact ⟨_, rfl, ⟨hok, ⟨hj.1, rfl, rfl, t2⟩, hl, hb, hf, hp⟩, hh', Or.inr ⟨rfl, rfl, rfl, k2, k3⟩, Or.inr ⟨rfl, rfl, rfl, rfl, p4⟩, hb0, hb1, hi⟩
      · unfold sR_choose R_choose
        rw [if_neg (show ¬ (t.2.1 0) (0 : Int32).toNatClampNeg = 0 by rw [rn]; exact n0), l1, db_some]
        dsimp only
        rw [rp, db_some, if_neg (show ¬ qi (qpa σ.1.1.1 (2 ^ qn σ.1.1.1)) ≤ (t.2.1 0) (58 : Int32).toNatClampNeg by rw [rm]; exact fun h => absurd ((qi_le _ _ (by omega) (by omega)).mp h) (by omega))]
        unfold R_choose_39
        rw [if_neg (show ¬ (1 : Int32) = 0 by decide), v2, db_some]
        dsimp only
        obtain ⟨a', ud', w1, w2, w3, w4⟩ := R_choose_59_q hc ⟨rc, r1, r2, r3, r4⟩ rh ri u' u2 true 0 tm' bc' bx' bp' cp' con' pp' sz' tr' v3 N (by omega)
        have w1' : R_choose_59 N (0 : Int32) (t.1 1) tm' (t.2.1 0) bc' bx' bp' cp' con' pp' sz' tr' (t.2.1 15) (1 : Int32) = some (qi true.toNat, 0, qi (qrem σ.2.1 σ.1.1).length, tm', a', bc', bx', bp', cp', con', pp', sz', tr', ud') := w1
        rw [w1', db_some]
        exact ⟨_, rfl, w2, w4, w3⟩
    · obtain ⟨kn', cn', en', bc2, bx2, bp2, cp2, li2, ri2, sz2, b1, b2, b3, b4⟩ := J_bestOf0_q hg hj.1 js1 hb0 N (by omega)
      obtain ⟨u, u1, u2, u3⟩ := qbt_now hg (by omega)
      have hch : ∀ x, x ∈ qtn u → bp2 x.1 = qi x.2 := by
        intro x hx
        have hs1 := qtn_sub u u1 x hx
        have : x.1 < 2 ^ qn σ.1.1.1 := by
          have := Nat.and_le_right (n := x.1) (m := qts u)
          rw [hs1.1] at this
          omega
        have := (b2 x.1 hs1.2.1 this).2.2
        rw [Nat.zero_add] at this
        rw [this]
        exact congrArg qi (qcf_mem u u3 x hx)
      have hch2 : ∀ k x, qch u k x → bp' x = qi (qBp σ.1.1.1 x) := by
        intro k x hx
        have hlt := qch_lt u1 hx
        have : x < 2 ^ qn σ.1.1.1 := by
          rcases hx with rfl | ⟨y, y1, y2, y3⟩
          · omega
          · have hs1 := qtn_sub u u1 y y1
            have hle := Nat.and_le_right (n := y.1) (m := qts u)
            rw [hs1.1] at hle
            have hp := hs1.2.2.2.1
            have hq := qparts_all hs1.2.2.1 hp
            rcases y3 with rfl | rfl
            · omega
            · omega
        have := (l2.1 x hlt.2 this).2.2
        rw [Nat.zero_add] at this
        exact this
      obtain ⟨pp', v2, v3⟩ := R_partsOfBest_q (qBp σ.1.1.1) u u1 u3 bp' (t.2.1 9) hch2 N (by omega)
      have hok : qcok (σ.1.1.1, some u) := ⟨hg, fun t h => by cases h; exact ⟨u1, by rw [u2]; exact Nat.sub_lt (by omega) (by omega)⟩⟩
      refine qYesJ (((σ.1.1.1, some u), σ.1.2), qrem σ.2.1 σ.1.1, σ.2.2) 0 ?_ ?_
      · unfold sJ_choose J_choose
        rw [if_neg (show ¬ (s.1 41) = 0 by rw [hn]; exact n0), q_dn, p1, db_some]
        dsimp only
        rw [if_neg (show ¬ (s.1 43) < qi (qpa σ.1.1.1 (2 ^ qn σ.1.1.1)) by rw [hm]; exact fun h => cg ((qi_lt _ _ (by omega) (by omega)).mp h))]
        unfold J_choose_51
        rw [eR, db_some, if_neg (show ¬ (1 : Int32) = 0 by decide)]
        dsimp only
        rw [b1, db_some]
        dsimp only
        obtain ⟨pt', st2, t1, t2⟩ := P_take_q u u1 bp2 (s.2.1 33) (s.2.1 34) (s.1 44) (s.1 45) hch
        rw [show G_all (s.1 41) = qi (qts u) by rw [hn, G_all_x _ h8, u2], t1, db_some]
        exact ⟨_, rfl, ⟨hok, ⟨hj.1, rfl, rfl, t2⟩, hl, hb, hf, hp⟩, hh', b3, qJp_kn' (Or.inr ⟨rfl, rfl, rfl, rfl, p4⟩) b4, Or.inr ⟨rfl, b2⟩, hb1, hi⟩
      · unfold sR_choose R_choose
        rw [if_neg (show ¬ (t.2.1 0) (0 : Int32).toNatClampNeg = 0 by rw [rn]; exact n0), l1, db_some]
        dsimp only
        rw [rp, db_some, if_pos (show qi (qpa σ.1.1.1 (2 ^ qn σ.1.1.1)) ≤ (t.2.1 0) (58 : Int32).toNatClampNeg by rw [rm]; exact (qi_le _ _ (by omega) (by omega)).mpr (by omega))]
        unfold R_choose_39
        rw [if_pos (show (0 : Int32) = 0 from rfl), R_everything_q hg rc.1.1, ← u2, v2, db_some]
        obtain ⟨a', ud', w1, w2, w3, w4⟩ := R_choose_59_q hc ⟨rc, r1, r2, r3, r4⟩ rh ri u u2 false 0 (t.1 17) bc' bx' bp' cp' con' pp' sz' (t.2.1 14) v3 N (by omega)
        have w1' : R_choose_59 N (0 : Int32) (t.1 1) (t.1 17) (t.2.1 0) bc' bx' bp' cp' con' pp' sz' (t.2.1 14) (t.2.1 15) (0 : Int32) = some (qi false.toNat, 0, qi (qrem σ.2.1 σ.1.1).length, (t.1 17), a', bc', bx', bp', cp', con', pp', sz', (t.2.1 14), ud') := w1
        rw [w1', db_some]
        exact ⟨_, rfl, w2, w4, w3⟩
