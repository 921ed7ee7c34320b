/-! calls: cancel, end, way -/
theorem IBk.off {φ φ' : VI} {nb nc wk b w : Nat} {op : Bool} (h : IBk φ nb nc wk op) (hb : b < nb) (hw : φ 9 7 b = nI w) (hl : (if op = true then wk + 1 else wk) ≤ w ∧ w < 52) (e : ∀ t i k, ((t = 2 ∧ i < nb ∧ k < 11) ∨ (t = 9 ∧ k < nb ∧ (6 ≤ i ∧ i ≤ 16))) → ¬ ((t = 2 ∧ i = b ∧ k = 6) ∨ (t = 9 ∧ i = 15 ∧ k = b)) → φ' t i k = φ t i k) (e1 : φ' 2 b 6 = 0) (e2 : φ' 9 15 b = 0) : IBk φ' nb nc wk op := by
  have hnb : ¬ φ 9 16 b = 1 := by
    intro q
    obtain ⟨w', w1, w2, w3⟩ := (h.1 b hb).2.2.1
    rw [hw] at w2
    obtain rfl := (nI_eqs (by omega) (by omega)).mp w2
    have := (w3 q).2
    cases op
    · simp at hl this; omega
    · simp at hl this; omega
  refine ⟨fun a ha => ?_, fun a c ha hc p1 p2 p3 p4 => ?_⟩
  · by_cases hab : a = b
    · subst hab
      rw [e1, e2, e 2 a 0 (by omega) (by omega), e 2 a 1 (by omega) (by omega), e 2 a 2 (by omega) (by omega), e 2 a 3 (by omega) (by omega), e 2 a 4 (by omega) (by omega), e 2 a 5 (by omega) (by omega), e 2 a 7 (by omega) (by omega), e 2 a 8 (by omega) (by omega), e 2 a 9 (by omega) (by omega), e 2 a 10 (by omega) (by omega), e 9 6 a (by omega) (by omega), e 9 7 a (by omega) (by omega), e 9 8 a (by omega) (by omega), e 9 9 a (by omega) (by omega), e 9 10 a (by omega) (by omega), e 9 11 a (by omega) (by omega), e 9 12 a (by omega) (by omega), e 9 13 a (by omega) (by omega), e 9 14 a (by omega) (by omega), e 9 16 a (by omega) (by omega)]
      obtain ⟨⟨p0, p1, p2, p3, p4, p5, p6, p7, p8, p9⟩, ⟨g0, g1, g2, g3, g4, g5, g6⟩, ⟨w', w1, w2, w3⟩, g8⟩ := h.1 a ha
      exact ⟨⟨p0, p1, p2, p3, p4, p5, rfl, p7, p8, p9⟩, ⟨g0, g1, g2, g3, g4, Or.inl rfl, g6⟩, ⟨w', w1, w2, fun q => absurd q hnb⟩, g8⟩
    · rw [e 2 a 0 (by omega) (by omega), e 2 a 1 (by omega) (by omega), e 2 a 2 (by omega) (by omega), e 2 a 3 (by omega) (by omega), e 2 a 4 (by omega) (by omega), e 2 a 5 (by omega) (by omega), e 2 a 6 (by omega) (by omega), e 2 a 7 (by omega) (by omega), e 2 a 8 (by omega) (by omega), e 2 a 9 (by omega) (by omega), e 2 a 10 (by omega) (by omega), e 9 6 a (by omega) (by omega), e 9 7 a (by omega) (by omega), e 9 8 a (by omega) (by omega), e 9 9 a (by omega) (by omega), e 9 10 a (by omega) (by omega), e 9 11 a (by omega) (by omega), e 9 12 a (by omega) (by omega), e 9 13 a (by omega) (by omega), e 9 14 a (by omega) (by omega), e 9 15 a (by omega) (by omega), e 9 16 a (by omega) (by omega)]
      exact h.1 a ha
  · have na : a ≠ b := fun q => by rw [q, e2] at p1; exact absurd p1 (by decide)
    have nc : c ≠ b := fun q => by rw [q, e2] at p2; exact absurd p2 (by decide)
    rw [e 9 15 a (by omega) (by omega)] at p1
    rw [e 9 15 c (by omega) (by omega)] at p2
    rw [e 9 6 a (by omega) (by omega), e 9 6 c (by omega) (by omega)] at p3
    rw [e 9 7 a (by omega) (by omega), e 9 7 c (by omega) (by omega)] at p4
    exact h.2 a c ha hc p1 p2 p3 p4

theorem ITx.cut {φ φ' : VI} {nx n m : Nat} (h : ITx φ nx) (hn : φ 7 nx 1 = nI n) (hn2 : n ≤ 120) (hm : m ≤ n) (e : ∀ t i k, ((t = 0 ∧ i = 10 ∧ k = 2) ∨ (t = 10 ∧ i = 0 ∧ (k = 80 ∨ k = 81)) ∨ (t = 7 ∧ (k = 1 ∨ k = 2 ∨ k = 3)) ∨ t = 8 ∨ (t = 9 ∧ (75 ≤ i ∧ i ≤ 79))) → ¬ ((t = 7 ∧ i = nx ∧ k = 1) ∨ (t = 10 ∧ i = 0 ∧ k = 80)) → φ' t i k = φ t i k) (e1 : φ' 7 nx 1 = nI m) (e2 : φ' 10 0 80 = nI m) : ITx φ' nx := by
  refine ⟨?_, ⟨m, by omega, e1, e2, fun k hk => ?_⟩, fun i hi => ?_⟩
  · rw [e 0 10 2 (by omega) (by omega), e 10 0 81 (by omega) (by omega)]
    exact h.1
  · obtain ⟨n', h1, h2, h3, h4⟩ := h.2.1
    rw [hn] at h2
    obtain rfl := (nI_eqs (by omega) (by omega)).mp h2
    rw [e 8 nx k (by omega) (by omega), e 9 75 k (by omega) (by omega)]
    exact h4 k (by omega)
  · obtain ⟨h0, n, h1, h2, h3, h4⟩ := h.2.2 i hi
    rw [e 7 i 2 (by omega) (by omega), e 7 i 3 (by omega) (by omega), e 9 78 i (by omega) (by omega), e 9 79 i (by omega) (by omega)]
    refine ⟨h0, n, h1, by rw [e 7 i 1 (by omega) (by omega)]; exact h2, by rw [e 9 77 i (by omega) (by omega)]; exact h3, fun k hk => ?_⟩
    rw [e 8 i k (by omega) (by omega), e 9 76 _ (by omega) (by omega)]
    exact h4 k hk

set_option maxHeartbeats 20000000 in
set_option maxRecDepth 100000 in
theorem op3 {x o u : Nat} {sc : Nat × Nat × (Nat → Int32)} : Op3 (II x o u sc) x o := by
  intro M a1 hI R K
  obtain ⟨hsc, ad, nc, nb, nt, wk, nw, nx, nl, ne, nk, kd, op, rfl, rfl, rfl, hW⟩ := hI
  obtain ⟨hi, ⟨hF, hM, hC, hB, hT, hX⟩, ⟨iS, iC, iB, iR, iL, iT⟩, ⟨jO, jR, jB, jX, jL⟩, kO, kC, kD, kP, kX⟩ := id hW
  obtain ⟨⟨nc1, nc2, nc3⟩, ⟨nb1, nb2, nb3⟩, ⟨nt1, nt2, nt3⟩, ⟨wk1, wk2, wk3⟩, ⟨nw1, nw2, nw3⟩, ⟨op1, op2, op3⟩, ncm, ncm1, ncm2, ncm3⟩ := id iS
  simp only [vw] at nc1 nc2 nb1 nb2 nt1 nt2 wk1 wk2 nw1 nw2 op1 op2 ncm2 ncm3
  obtain ⟨nn, nn3, nn1, nn2, nnb⟩ := jX.2.1
  simp only [vw] at nn1 nn2
  have nl3 := jL.1.2.2.1
  have nx3 := jX.1.2.2
  have nk3 := jB.1.2.2.2.2.1
  have ne3 := jB.1.2.2.2.2.2
  rcases op with _ | _
  · replace op1 : mI M (ad 0 0) 8 = 0 := op1
    replace op2 : mI M (ad 10 0) 21 = 0 := op2
    show Go 1311 119 0 0 0 [.ref (ad 0 0), .int a1, .retAddr 0] [] (mm M (mI M) (mJ M)) R
    refine go_blk 2 [] (pc' := 2) (vs' := [.ref (ad 0 0), .int a1, .retAddr 0]) (st' := [.int a1, .ref (ad 0 0)]) (M' := mm M (mI M) (mJ M)) (ps := []) rfl trivial ?_
    refine go_callV rfl rfl rfl (by omega) rfl (by decide) (by decide) (hF.o 0) ?_
    refine s_CY_bookingAt (by omega) hF hB nb1 nb3 (fun j1 hj1 hx1 => ⟨ne_a, ?_⟩) (fun c1 => ⟨ne_0, ?_⟩)
    · -- ('r', 'ad 2 j1')
      subst hx1
      obtain ⟨bc1, bd1, be1⟩ := (iB.1 j1 (by assumption)).2.1.1
      obtain ⟨bw1, bx1, by1, bz1⟩ := (iB.1 j1 (by assumption)).2.2.1
      show Go 1311 119 0 0 5 [.ref (ad 0 0), .int (nI j1), .retAddr 0] [.ref (ad 2 j1)] (mm M (mI M) (mJ M)) R
      refine go_blk 2 [] (pc' := 7) (vs' := [.ref (ad 0 0), .int (nI j1), .ref (ad 2 j1)]) (st' := [.ref (ad 2 j1)]) (M' := mm M (mI M) (mJ M)) (ps := []) rfl trivial ?_
      refine go_ifnull1 rfl ?_
      refine go_blk 2 [some (.int ((mI M) (ad 9 15) j1))] (pc' := 14) (vs' := [.ref (ad 0 0), .int (nI j1), .ref (ad 2 j1)]) (st' := [.int ((mI M) (ad 9 15) j1)]) (M' := mm M (mI M) (mJ M)) (ps := [ob (mm M (mI M) (mJ M)) (ad 2 j1) 0, (Value.int ((mI M) (ad 2 j1) 6)) = .int ((mI M) (ad 9 15) j1)]) rfl ⟨(hB j1 (by assumption)).2, congrArg Value.int ((iB.1 j1 (by assumption)).1.2.2.2.2.2.2.1), trivial⟩ ?_
      refine go_if rfl (fun (c2 : ((mI M) (ad 9 15) j1) = 0) => ?_) (fun (c2 : ¬ (((mI M) (ad 9 15) j1) = 0)) => ?_)
      · -- ((mI M) (ad 9 15) j1) = 0
        refine go_blk 1 [] (pc' := 29) (vs' := [.ref (ad 0 0), .int (nI j1), .ref (ad 2 j1)]) (st' := [.int 0]) (M' := mm M (mI M) (mJ M)) (ps := []) rfl trivial ?_
        refine go_zret rfl rfl (Or.inl rfl) ?_
        refine K _ _ hM.1 rfl (fun R2 h2 => ?_)
        show Go 1311 195 0 0 0 [.ref (ad 10 0), .int (nI j1)] [] (mm M (mI M) (mJ M)) R2
        refine go_blk 5 [] (pc' := 7) (vs' := [.ref (ad 10 0), .int (nI j1)]) (st' := [.int (nI j1), .ref (ad 10 0)]) (M' := mm M (up2 (mI M) (ad 10 0) 0 0) (mJ M)) (ps := [ob (mm M (mI M) (mJ M)) (ad 10 0) 12]) rfl ⟨hM.1, trivial⟩ ?_
        refine go_callV rfl rfl rfl (by omega) rfl (by decide) (by decide) hM.1 ?_
        refine s_Mo_isBooking hM (((up2_n _ _ (fun z => absurd z.2 (by decide))).trans (rfl)).trans nb2) (Nat.le_trans nb3 (by decide)) (fun j3 hj3 hx3 => ⟨ne_i, ?_⟩) (fun c3 => ⟨ne_i, ?_⟩)
        · -- 1
          show Go 1311 195 0 0 10 [.ref (ad 10 0), .int (nI j1)] [.int 1] (mm M (up2 (mI M) (ad 10 0) 0 0) (mJ M)) R2
          refine go_if rfl (fun (z : (1 : Int32) = 0) => absurd z (show ¬ ((1 : Int32) = 0) from (by decide))) (fun _ => ?_)
          refine go_blk 4 [some (.ref (ad 9 15)), some (.int ((mI M) (ad 9 15) j1))] (pc' := 19) (vs' := [.ref (ad 10 0), .int (nI j1)]) (st' := [.int ((mI M) (ad 9 15) j1)]) (M' := mm M (up2 (mI M) (ad 10 0) 0 0) (mJ M)) (ps := [ob (mm M (up2 (mI M) (ad 10 0) 0 0) (mJ M)) (ad 10 0) 12, mR (mm M (up2 (mI M) (ad 10 0) 0 0) (mJ M)) (ad 10 0) 15 = some (ad 9 15), va_rf (some (ad 9 15)) = .ref (ad 9 15), ob (mm M (up2 (mI M) (ad 10 0) 0 0) (mJ M)) (ad 9 15) 13, 13 = 13 ∨ 13 = 14, vp_in (nI j1) (mN (mm M (up2 (mI M) (ad 10 0) 0 0) (mJ M)) (ad 9 15)), (Value.int ((up2 (mI M) (ad 10 0) 0 0) (ad 9 15) ((nI j1).toNatClampNeg))) = .int ((mI M) (ad 9 15) j1)]) rfl ⟨hM.1, (hM.r 15 13 60), rfl, (hM.o 15 13 60), (by decide), (vpi (hM.n 15 13 60) (by omega)), congrArg Value.int ((congrArg (fun z => (up2 (mI M) (ad 10 0) 0 0) (ad 9 15) z) (nI_clamp (by omega))).trans ((up2_n _ _ (fun z => absurd (hi _ _ _ _ z.1).1 (by decide))).trans (rfl))), trivial⟩ ?_
          refine go_if rfl (fun _ => ?_) (fun (z : ¬ (((mI M) (ad 9 15) j1) = 0)) => absurd (show ((mI M) (ad 9 15) j1) = 0 from c2) z)
          refine go_blk 1 [] (pc' := 36) (vs' := [.ref (ad 10 0), .int (nI j1)]) (st' := [.int 0]) (M' := mm M (up2 (mI M) (ad 10 0) 0 0) (mJ M)) (ps := []) rfl trivial ?_
          refine go_zret rfl rfl (Or.inl rfl) ?_
          exact h2 _ ⟨hsc, ad, nc, nb, nt, wk, nw, nx, nl, ne, nk, kd, false, rfl, rfl, rfl, hW.thr⟩
        · exact absurd ⟨j1, hj1, rfl⟩ c3
      · -- ¬ (((mI M) (ad 9 15) j1) = 0)
        refine go_blk 3 [some (.int (nI bw1))] (pc' := 22) (vs' := [.ref (ad 0 0), .int (nI j1), .ref (ad 2 j1)]) (st' := [.int (nI bw1), .ref (ad 0 0)]) (M' := mm M (mI M) (mJ M)) (ps := [ob (mm M (mI M) (mJ M)) (ad 2 j1) 0, (Value.int ((mI M) (ad 2 j1) 1)) = .int (nI bw1)]) rfl ⟨(hB j1 (by assumption)).2, congrArg Value.int ((iB.1 j1 (by assumption)).1.2.1.trans by1), trivial⟩ ?_
        refine go_callV rfl rfl rfl (by omega) rfl (by decide) (by decide) (hF.o 0) ?_
        refine s_CY_isToComeK (wk := wk) (lo := wk) (by omega) hF wk1 wk3 (Or.inl ⟨op1, rfl⟩) (fun j4 hl4 hj4 hx4 => ⟨ne_i, ?_⟩) (fun c4 => ⟨ne_i, ?_⟩)
        · -- 1
          obtain rfl : bw1 = j4 := (nI_eqs (by omega) (by omega)).mp hx4
          show Go 1311 119 0 0 25 [.ref (ad 0 0), .int (nI j1), .ref (ad 2 j1)] [.int 1] (mm M (mI M) (mJ M)) R
          refine go_if rfl (fun _ => ?_) (fun (z : ¬ (¬ (1 : Int32) = 0)) => absurd (show ¬ (1 : Int32) = 0 from (by decide)) z)
          refine go_blk 4 [] (pc' := 36) (vs' := [.ref (ad 0 0), .int (nI j1), .ref (ad 2 j1)]) (st' := [.int 1]) (M' := mm M (up2 (mI M) (ad 2 j1) 6 0) (mJ M)) (ps := [ob (mm M (mI M) (mJ M)) (ad 2 j1) 0, 0 = 0 ∨ 0 = 1]) rfl ⟨(hB j1 (by assumption)).2, (Or.inl rfl), trivial⟩ ?_
          refine go_zret rfl rfl (Or.inr rfl) ?_
          refine K _ _ hM.1 rfl (fun R2 h2 => ?_)
          show Go 1311 195 0 0 0 [.ref (ad 10 0), .int (nI j1)] [] (mm M (up2 (mI M) (ad 2 j1) 6 0) (mJ M)) R2
          refine go_blk 5 [] (pc' := 7) (vs' := [.ref (ad 10 0), .int (nI j1)]) (st' := [.int (nI j1), .ref (ad 10 0)]) (M' := mm M (up2 (up2 (mI M) (ad 2 j1) 6 0) (ad 10 0) 0 0) (mJ M)) (ps := [ob (mm M (up2 (mI M) (ad 2 j1) 6 0) (mJ M)) (ad 10 0) 12]) rfl ⟨hM.1, trivial⟩ ?_
          refine go_callV rfl rfl rfl (by omega) rfl (by decide) (by decide) hM.1 ?_
          refine s_Mo_isBooking hM (((up2_n _ _ (fun z => absurd z.2 (by decide))).trans ((up2_n _ _ (fun z => absurd (hi _ _ _ _ z.1).1 (by decide))).trans (rfl))).trans nb2) (Nat.le_trans nb3 (by decide)) (fun j5 hj5 hx5 => ⟨ne_i, ?_⟩) (fun c5 => ⟨ne_i, ?_⟩)
          · -- 1
            show Go 1311 195 0 0 10 [.ref (ad 10 0), .int (nI j1)] [.int 1] (mm M (up2 (up2 (mI M) (ad 2 j1) 6 0) (ad 10 0) 0 0) (mJ M)) R2
            refine go_if rfl (fun (z : (1 : Int32) = 0) => absurd z (show ¬ ((1 : Int32) = 0) from (by decide))) (fun _ => ?_)
            refine go_blk 4 [some (.ref (ad 9 15)), some (.int ((mI M) (ad 9 15) j1))] (pc' := 19) (vs' := [.ref (ad 10 0), .int (nI j1)]) (st' := [.int ((mI M) (ad 9 15) j1)]) (M' := mm M (up2 (up2 (mI M) (ad 2 j1) 6 0) (ad 10 0) 0 0) (mJ M)) (ps := [ob (mm M (up2 (up2 (mI M) (ad 2 j1) 6 0) (ad 10 0) 0 0) (mJ M)) (ad 10 0) 12, mR (mm M (up2 (up2 (mI M) (ad 2 j1) 6 0) (ad 10 0) 0 0) (mJ M)) (ad 10 0) 15 = some (ad 9 15), va_rf (some (ad 9 15)) = .ref (ad 9 15), ob (mm M (up2 (up2 (mI M) (ad 2 j1) 6 0) (ad 10 0) 0 0) (mJ M)) (ad 9 15) 13, 13 = 13 ∨ 13 = 14, vp_in (nI j1) (mN (mm M (up2 (up2 (mI M) (ad 2 j1) 6 0) (ad 10 0) 0 0) (mJ M)) (ad 9 15)), (Value.int ((up2 (up2 (mI M) (ad 2 j1) 6 0) (ad 10 0) 0 0) (ad 9 15) ((nI j1).toNatClampNeg))) = .int ((mI M) (ad 9 15) j1)]) rfl ⟨hM.1, (hM.r 15 13 60), rfl, (hM.o 15 13 60), (by decide), (vpi (hM.n 15 13 60) (by omega)), congrArg Value.int ((congrArg (fun z => (up2 (up2 (mI M) (ad 2 j1) 6 0) (ad 10 0) 0 0) (ad 9 15) z) (nI_clamp (by omega))).trans ((up2_n _ _ (fun z => absurd (hi _ _ _ _ z.1).1 (by decide))).trans ((up2_n _ _ (fun z => absurd (hi _ _ _ _ z.1).1 (by decide))).trans (rfl)))), trivial⟩ ?_
            refine go_if rfl (fun (z : ((mI M) (ad 9 15) j1) = 0) => absurd z (show ¬ (((mI M) (ad 9 15) j1) = 0) from c2)) (fun _ => ?_)
            refine go_blk 5 [some (.ref (ad 9 7)), some (.int (nI bw1))] (pc' := 29) (vs' := [.ref (ad 10 0), .int (nI j1)]) (st' := [.int (nI bw1), .ref (ad 10 0)]) (M' := mm M (up2 (up2 (mI M) (ad 2 j1) 6 0) (ad 10 0) 0 0) (mJ M)) (ps := [ob (mm M (up2 (up2 (mI M) (ad 2 j1) 6 0) (ad 10 0) 0 0) (mJ M)) (ad 10 0) 12, mR (mm M (up2 (up2 (mI M) (ad 2 j1) 6 0) (ad 10 0) 0 0) (mJ M)) (ad 10 0) 7 = some (ad 9 7), va_rf (some (ad 9 7)) = .ref (ad 9 7), ob (mm M (up2 (up2 (mI M) (ad 2 j1) 6 0) (ad 10 0) 0 0) (mJ M)) (ad 9 7) 15, vp_in (nI j1) (mN (mm M (up2 (up2 (mI M) (ad 2 j1) 6 0) (ad 10 0) 0 0) (mJ M)) (ad 9 7)), (Value.int ((up2 (up2 (mI M) (ad 2 j1) 6 0) (ad 10 0) 0 0) (ad 9 7) ((nI j1).toNatClampNeg))) = .int (nI bw1)]) rfl ⟨hM.1, (hM.r 7 15 60), rfl, (hM.o 7 15 60), (vpi (hM.n 7 15 60) (by omega)), congrArg Value.int ((congrArg (fun z => (up2 (up2 (mI M) (ad 2 j1) 6 0) (ad 10 0) 0 0) (ad 9 7) z) (nI_clamp (by omega))).trans (((up2_n _ _ (fun z => absurd (hi _ _ _ _ z.1).1 (by decide))).trans ((up2_n _ _ (fun z => absurd (hi _ _ _ _ z.1).1 (by decide))).trans (rfl))).trans by1)), trivial⟩ ?_
            refine go_callV rfl rfl rfl (by omega) rfl (by decide) (by decide) hM.1 ?_
            refine s_Mo_isAheadK (wk := wk) (lo := wk) (by omega) hM (((up2_n _ _ (fun z => absurd z.2 (by decide))).trans ((up2_n _ _ (fun z => absurd (hi _ _ _ _ z.1).1 (by decide))).trans (rfl))).trans wk2) wk3 (Or.inl ⟨(((up2_n _ _ (fun z => absurd z.2 (by decide))).trans ((up2_n _ _ (fun z => absurd (hi _ _ _ _ z.1).1 (by decide))).trans (rfl))).trans op2), rfl⟩) (fun j6 hl6 hj6 hx6 => ⟨ne_i, ?_⟩) (fun c6 => ⟨ne_i, ?_⟩)
            · -- 1
              obtain rfl : bw1 = j6 := (nI_eqs (by omega) (by omega)).mp hx6
              show Go 1311 195 0 0 32 [.ref (ad 10 0), .int (nI j1)] [.int 1] (mm M (up2 (up2 (mI M) (ad 2 j1) 6 0) (ad 10 0) 0 0) (mJ M)) R2
              refine go_if rfl (fun _ => ?_) (fun (z : ¬ (¬ (1 : Int32) = 0)) => absurd (show ¬ (1 : Int32) = 0 from (by decide)) z)
              refine go_blk 6 [some (.ref (ad 9 15))] (pc' := 45) (vs' := [.ref (ad 10 0), .int (nI j1)]) (st' := [.int 1]) (M' := mm M (up2 (up2 (up2 (mI M) (ad 2 j1) 6 0) (ad 10 0) 0 0) (ad 9 15) ((nI j1).toNatClampNeg) 0) (mJ M)) (ps := [ob (mm M (up2 (up2 (mI M) (ad 2 j1) 6 0) (ad 10 0) 0 0) (mJ M)) (ad 10 0) 12, mR (mm M (up2 (up2 (mI M) (ad 2 j1) 6 0) (ad 10 0) 0 0) (mJ M)) (ad 10 0) 15 = some (ad 9 15), va_rf (some (ad 9 15)) = .ref (ad 9 15), ob (mm M (up2 (up2 (mI M) (ad 2 j1) 6 0) (ad 10 0) 0 0) (mJ M)) (ad 9 15) 13, vp_in (nI j1) (mN (mm M (up2 (up2 (mI M) (ad 2 j1) 6 0) (ad 10 0) 0 0) (mJ M)) (ad 9 15))]) rfl ⟨hM.1, (hM.r 15 13 60), rfl, (hM.o 15 13 60), (vpi (hM.n 15 13 60) (by omega)), trivial⟩ ?_
              rw [nI_clamp (n := j1) (by omega)]
              refine go_zret rfl rfl (Or.inr rfl) ?_
              have ch : ∀ t i k, ¬ ((t = 2 ∧ i = j1 ∧ k = 6) ∨ (t = 10 ∧ i = 0 ∧ k = 0) ∨ (t = 9 ∧ i = 15 ∧ k = j1)) → vw ad (up2 (up2 (up2 (mI M) (ad 2 j1) 6 0) (ad 10 0) 0 0) (ad 9 15) (j1) 0) t i k = vw ad (mI M) t i k := by
                intro t i k hn
                simp only [vw_up2 hi]
                rw [up3_n _ _ (by omega), up3_n _ _ (by omega), up3_n _ _ (by omega)]
              have chj : ∀ t i k, ¬ ((t = 1000 ∧ i = 0 ∧ k = 0)) → vw ad (mJ M) t i k = vw ad (mJ M) t i k := by
                intro t i k hn
                rfl
              have eJ1 : eJ nb (vw ad (mI M)) (vw ad (up2 (up2 (up2 (mI M) (ad 2 j1) 6 0) (ad 10 0) 0 0) (ad 9 15) (j1) 0)) := fun i k h => ch 9 i k (by omega)
              refine h2 _ ⟨hsc, ad, nc, nb, nt, wk, nw, nx, nl, ne, nk, kd, false, rfl, rfl, rfl, hi, ⟨hF, hM, hC, hB, hT, hX⟩, ⟨iS.congr (fun t k h => ch t 0 k (by omega)), iC.congr nc3 (fun t i k h => ch t i k (by omega)) (fun c hc => chj 1 c 4 (by omega)), ?_, iR.congr (fun t i k h => ch t i k (by omega)), iL.congr (fun t i k h => ch t i k (by omega)), iT.congr (fun t i k h => ch t i k (by omega))⟩, ⟨jO.congr eJ1 (fun b k _ _ _ => ch 6 b k (by omega)), jR.congr eJ1, jB.congr nb3 (fun t i k h => ch t i k (by omega)), jX.congr (fun t i k h => ch t i k (by omega)), jL.congr eJ1 (fun b k _ _ _ => ch 6 b k (by omega)) (fun t i k h => ch t i k (by omega))⟩, kO.congr iB wk3 (fun t i k h => ch t i k (by omega)) (fun b _ _ => ch 6 b 8 (by omega)), kC.congr (fun t i k h => ch t i k (by omega)) ⟨chj 0 0 12 (by omega), chj 10 0 99 (by omega)⟩, kD.congr (fun i k h => ch 9 i k (by omega)), kP.congr eJ1 (fun i k h => ch 9 i k (by have := ppS_sp h; omega)) ⟨ch 10 0 31 (by omega), ch 0 7 19 (by omega), ch 0 7 2 (by omega), ch 0 7 4 (by omega), fun t => ch 0 30 t (by omega)⟩ (chj 0 7 17 (by omega)), kX.congr (fun t i k h => ch t i k (by omega))⟩
              refine iB.off (b := j1) (by assumption) by1 ⟨by simp; omega, by omega⟩ (fun t i k h1 h2 => ch t i k (by omega)) ?_ ?_
              · show vw ad (up2 (up2 (up2 (mI M) (ad 2 j1) 6 0) (ad 10 0) 0 0) (ad 9 15) (j1) 0) 2 j1 6 = 0
                simp only [vw_up2 hi]; simp [up3]
              · show vw ad (up2 (up2 (up2 (mI M) (ad 2 j1) 6 0) (ad 10 0) 0 0) (ad 9 15) (j1) 0) 9 15 j1 = 0
                simp only [vw_up2 hi]; simp [up3]
            · exact absurd ⟨bw1, hl4, hj4, rfl⟩ c6
          · exact absurd ⟨j1, hj1, rfl⟩ c5
        · -- 0
          show Go 1311 119 0 0 25 [.ref (ad 0 0), .int (nI j1), .ref (ad 2 j1)] [.int 0] (mm M (mI M) (mJ M)) R
          refine go_if rfl (fun (z : ¬ (0 : Int32) = 0) => absurd z (show ¬ (¬ (0 : Int32) = 0) from (by decide))) (fun _ => ?_)
          refine go_blk 1 [] (pc' := 29) (vs' := [.ref (ad 0 0), .int (nI j1), .ref (ad 2 j1)]) (st' := [.int 0]) (M' := mm M (mI M) (mJ M)) (ps := []) rfl trivial ?_
          refine go_zret rfl rfl (Or.inl rfl) ?_
          refine K _ _ hM.1 rfl (fun R2 h2 => ?_)
          show Go 1311 195 0 0 0 [.ref (ad 10 0), .int (nI j1)] [] (mm M (mI M) (mJ M)) R2
          refine go_blk 5 [] (pc' := 7) (vs' := [.ref (ad 10 0), .int (nI j1)]) (st' := [.int (nI j1), .ref (ad 10 0)]) (M' := mm M (up2 (mI M) (ad 10 0) 0 0) (mJ M)) (ps := [ob (mm M (mI M) (mJ M)) (ad 10 0) 12]) rfl ⟨hM.1, trivial⟩ ?_
          refine go_callV rfl rfl rfl (by omega) rfl (by decide) (by decide) hM.1 ?_
          refine s_Mo_isBooking hM (((up2_n _ _ (fun z => absurd z.2 (by decide))).trans (rfl)).trans nb2) (Nat.le_trans nb3 (by decide)) (fun j7 hj7 hx7 => ⟨ne_i, ?_⟩) (fun c7 => ⟨ne_i, ?_⟩)
          · -- 1
            show Go 1311 195 0 0 10 [.ref (ad 10 0), .int (nI j1)] [.int 1] (mm M (up2 (mI M) (ad 10 0) 0 0) (mJ M)) R2
            refine go_if rfl (fun (z : (1 : Int32) = 0) => absurd z (show ¬ ((1 : Int32) = 0) from (by decide))) (fun _ => ?_)
            refine go_blk 4 [some (.ref (ad 9 15)), some (.int ((mI M) (ad 9 15) j1))] (pc' := 19) (vs' := [.ref (ad 10 0), .int (nI j1)]) (st' := [.int ((mI M) (ad 9 15) j1)]) (M' := mm M (up2 (mI M) (ad 10 0) 0 0) (mJ M)) (ps := [ob (mm M (up2 (mI M) (ad 10 0) 0 0) (mJ M)) (ad 10 0) 12, mR (mm M (up2 (mI M) (ad 10 0) 0 0) (mJ M)) (ad 10 0) 15 = some (ad 9 15), va_rf (some (ad 9 15)) = .ref (ad 9 15), ob (mm M (up2 (mI M) (ad 10 0) 0 0) (mJ M)) (ad 9 15) 13, 13 = 13 ∨ 13 = 14, vp_in (nI j1) (mN (mm M (up2 (mI M) (ad 10 0) 0 0) (mJ M)) (ad 9 15)), (Value.int ((up2 (mI M) (ad 10 0) 0 0) (ad 9 15) ((nI j1).toNatClampNeg))) = .int ((mI M) (ad 9 15) j1)]) rfl ⟨hM.1, (hM.r 15 13 60), rfl, (hM.o 15 13 60), (by decide), (vpi (hM.n 15 13 60) (by omega)), congrArg Value.int ((congrArg (fun z => (up2 (mI M) (ad 10 0) 0 0) (ad 9 15) z) (nI_clamp (by omega))).trans ((up2_n _ _ (fun z => absurd (hi _ _ _ _ z.1).1 (by decide))).trans (rfl))), trivial⟩ ?_
            refine go_if rfl (fun (z : ((mI M) (ad 9 15) j1) = 0) => absurd z (show ¬ (((mI M) (ad 9 15) j1) = 0) from c2)) (fun _ => ?_)
            refine go_blk 5 [some (.ref (ad 9 7)), some (.int (nI bw1))] (pc' := 29) (vs' := [.ref (ad 10 0), .int (nI j1)]) (st' := [.int (nI bw1), .ref (ad 10 0)]) (M' := mm M (up2 (mI M) (ad 10 0) 0 0) (mJ M)) (ps := [ob (mm M (up2 (mI M) (ad 10 0) 0 0) (mJ M)) (ad 10 0) 12, mR (mm M (up2 (mI M) (ad 10 0) 0 0) (mJ M)) (ad 10 0) 7 = some (ad 9 7), va_rf (some (ad 9 7)) = .ref (ad 9 7), ob (mm M (up2 (mI M) (ad 10 0) 0 0) (mJ M)) (ad 9 7) 15, vp_in (nI j1) (mN (mm M (up2 (mI M) (ad 10 0) 0 0) (mJ M)) (ad 9 7)), (Value.int ((up2 (mI M) (ad 10 0) 0 0) (ad 9 7) ((nI j1).toNatClampNeg))) = .int (nI bw1)]) rfl ⟨hM.1, (hM.r 7 15 60), rfl, (hM.o 7 15 60), (vpi (hM.n 7 15 60) (by omega)), congrArg Value.int ((congrArg (fun z => (up2 (mI M) (ad 10 0) 0 0) (ad 9 7) z) (nI_clamp (by omega))).trans (((up2_n _ _ (fun z => absurd (hi _ _ _ _ z.1).1 (by decide))).trans (rfl)).trans by1)), trivial⟩ ?_
            refine go_callV rfl rfl rfl (by omega) rfl (by decide) (by decide) hM.1 ?_
            refine s_Mo_isAheadK (wk := wk) (lo := wk) (by omega) hM (((up2_n _ _ (fun z => absurd z.2 (by decide))).trans (rfl)).trans wk2) wk3 (Or.inl ⟨(((up2_n _ _ (fun z => absurd z.2 (by decide))).trans (rfl)).trans op2), rfl⟩) (fun j8 hl8 hj8 hx8 => ⟨ne_i, ?_⟩) (fun c8 => ⟨ne_i, ?_⟩)
            · exact absurd ⟨j8, hl8, hj8, hx8⟩ c4
            · -- 0
              show Go 1311 195 0 0 32 [.ref (ad 10 0), .int (nI j1)] [.int 0] (mm M (up2 (mI M) (ad 10 0) 0 0) (mJ M)) R2
              refine go_if rfl (fun (z : ¬ (0 : Int32) = 0) => absurd z (show ¬ (¬ (0 : Int32) = 0) from (by decide))) (fun _ => ?_)
              refine go_blk 1 [] (pc' := 36) (vs' := [.ref (ad 10 0), .int (nI j1)]) (st' := [.int 0]) (M' := mm M (up2 (mI M) (ad 10 0) 0 0) (mJ M)) (ps := []) rfl trivial ?_
              refine go_zret rfl rfl (Or.inl rfl) ?_
              exact h2 _ ⟨hsc, ad, nc, nb, nt, wk, nw, nx, nl, ne, nk, kd, false, rfl, rfl, rfl, hW.thr⟩
          · exact absurd ⟨j1, hj1, rfl⟩ c7
    · -- ('n',)
      show Go 1311 119 0 0 5 [.ref (ad 0 0), .int a1, .retAddr 0] [.null] (mm M (mI M) (mJ M)) R
      refine go_blk 2 [] (pc' := 7) (vs' := [.ref (ad 0 0), .int a1, .null]) (st' := [.null]) (M' := mm M (mI M) (mJ M)) (ps := []) rfl trivial ?_
      refine go_ifnull0 rfl ?_
      refine go_blk 1 [] (pc' := 29) (vs' := [.ref (ad 0 0), .int a1, .null]) (st' := [.int 0]) (M' := mm M (mI M) (mJ M)) (ps := []) rfl trivial ?_
      refine go_zret rfl rfl (Or.inl rfl) ?_
      refine K _ _ hM.1 rfl (fun R2 h2 => ?_)
      show Go 1311 195 0 0 0 [.ref (ad 10 0), .int a1] [] (mm M (mI M) (mJ M)) R2
      refine go_blk 5 [] (pc' := 7) (vs' := [.ref (ad 10 0), .int a1]) (st' := [.int a1, .ref (ad 10 0)]) (M' := mm M (up2 (mI M) (ad 10 0) 0 0) (mJ M)) (ps := [ob (mm M (mI M) (mJ M)) (ad 10 0) 12]) rfl ⟨hM.1, trivial⟩ ?_
      refine go_callV rfl rfl rfl (by omega) rfl (by decide) (by decide) hM.1 ?_
      refine s_Mo_isBooking hM (((up2_n _ _ (fun z => absurd z.2 (by decide))).trans (rfl)).trans nb2) (Nat.le_trans nb3 (by decide)) (fun j9 hj9 hx9 => ⟨ne_i, ?_⟩) (fun c9 => ⟨ne_i, ?_⟩)
      · exact absurd ⟨j9, hj9, hx9⟩ c1
      · -- 0
        show Go 1311 195 0 0 10 [.ref (ad 10 0), .int a1] [.int 0] (mm M (up2 (mI M) (ad 10 0) 0 0) (mJ M)) R2
        refine go_if rfl (fun _ => ?_) (fun (z : ¬ ((0 : Int32) = 0)) => absurd (show (0 : Int32) = 0 from (by decide)) z)
        refine go_blk 1 [] (pc' := 36) (vs' := [.ref (ad 10 0), .int a1]) (st' := [.int 0]) (M' := mm M (up2 (mI M) (ad 10 0) 0 0) (mJ M)) (ps := []) rfl trivial ?_
        refine go_zret rfl rfl (Or.inl rfl) ?_
        exact h2 _ ⟨hsc, ad, nc, nb, nt, wk, nw, nx, nl, ne, nk, kd, false, rfl, rfl, rfl, hW.thr⟩
  · replace op1 : mI M (ad 0 0) 8 = 1 := op1
    replace op2 : mI M (ad 10 0) 21 = 1 := op2
    replace op3 : wk < 52 := op3 rfl
    show Go 1311 119 0 0 0 [.ref (ad 0 0), .int a1, .retAddr 0] [] (mm M (mI M) (mJ M)) R
    refine go_blk 2 [] (pc' := 2) (vs' := [.ref (ad 0 0), .int a1, .retAddr 0]) (st' := [.int a1, .ref (ad 0 0)]) (M' := mm M (mI M) (mJ M)) (ps := []) rfl trivial ?_
    refine go_callV rfl rfl rfl (by omega) rfl (by decide) (by decide) (hF.o 0) ?_
    refine s_CY_bookingAt (by omega) hF hB nb1 nb3 (fun j1 hj1 hx1 => ⟨ne_a, ?_⟩) (fun c1 => ⟨ne_0, ?_⟩)
    · -- ('r', 'ad 2 j1')
      subst hx1
      obtain ⟨bc1, bd1, be1⟩ := (iB.1 j1 (by assumption)).2.1.1
      obtain ⟨bw1, bx1, by1, bz1⟩ := (iB.1 j1 (by assumption)).2.2.1
      show Go 1311 119 0 0 5 [.ref (ad 0 0), .int (nI j1), .retAddr 0] [.ref (ad 2 j1)] (mm M (mI M) (mJ M)) R
      refine go_blk 2 [] (pc' := 7) (vs' := [.ref (ad 0 0), .int (nI j1), .ref (ad 2 j1)]) (st' := [.ref (ad 2 j1)]) (M' := mm M (mI M) (mJ M)) (ps := []) rfl trivial ?_
      refine go_ifnull1 rfl ?_
      refine go_blk 2 [some (.int ((mI M) (ad 9 15) j1))] (pc' := 14) (vs' := [.ref (ad 0 0), .int (nI j1), .ref (ad 2 j1)]) (st' := [.int ((mI M) (ad 9 15) j1)]) (M' := mm M (mI M) (mJ M)) (ps := [ob (mm M (mI M) (mJ M)) (ad 2 j1) 0, (Value.int ((mI M) (ad 2 j1) 6)) = .int ((mI M) (ad 9 15) j1)]) rfl ⟨(hB j1 (by assumption)).2, congrArg Value.int ((iB.1 j1 (by assumption)).1.2.2.2.2.2.2.1), trivial⟩ ?_
      refine go_if rfl (fun (c2 : ((mI M) (ad 9 15) j1) = 0) => ?_) (fun (c2 : ¬ (((mI M) (ad 9 15) j1) = 0)) => ?_)
      · -- ((mI M) (ad 9 15) j1) = 0
        refine go_blk 1 [] (pc' := 29) (vs' := [.ref (ad 0 0), .int (nI j1), .ref (ad 2 j1)]) (st' := [.int 0]) (M' := mm M (mI M) (mJ M)) (ps := []) rfl trivial ?_
        refine go_zret rfl rfl (Or.inl rfl) ?_
        refine K _ _ hM.1 rfl (fun R2 h2 => ?_)
        show Go 1311 195 0 0 0 [.ref (ad 10 0), .int (nI j1)] [] (mm M (mI M) (mJ M)) R2
        refine go_blk 5 [] (pc' := 7) (vs' := [.ref (ad 10 0), .int (nI j1)]) (st' := [.int (nI j1), .ref (ad 10 0)]) (M' := mm M (up2 (mI M) (ad 10 0) 0 0) (mJ M)) (ps := [ob (mm M (mI M) (mJ M)) (ad 10 0) 12]) rfl ⟨hM.1, trivial⟩ ?_
        refine go_callV rfl rfl rfl (by omega) rfl (by decide) (by decide) hM.1 ?_
        refine s_Mo_isBooking hM (((up2_n _ _ (fun z => absurd z.2 (by decide))).trans (rfl)).trans nb2) (Nat.le_trans nb3 (by decide)) (fun j3 hj3 hx3 => ⟨ne_i, ?_⟩) (fun c3 => ⟨ne_i, ?_⟩)
        · -- 1
          show Go 1311 195 0 0 10 [.ref (ad 10 0), .int (nI j1)] [.int 1] (mm M (up2 (mI M) (ad 10 0) 0 0) (mJ M)) R2
          refine go_if rfl (fun (z : (1 : Int32) = 0) => absurd z (show ¬ ((1 : Int32) = 0) from (by decide))) (fun _ => ?_)
          refine go_blk 4 [some (.ref (ad 9 15)), some (.int ((mI M) (ad 9 15) j1))] (pc' := 19) (vs' := [.ref (ad 10 0), .int (nI j1)]) (st' := [.int ((mI M) (ad 9 15) j1)]) (M' := mm M (up2 (mI M) (ad 10 0) 0 0) (mJ M)) (ps := [ob (mm M (up2 (mI M) (ad 10 0) 0 0) (mJ M)) (ad 10 0) 12, mR (mm M (up2 (mI M) (ad 10 0) 0 0) (mJ M)) (ad 10 0) 15 = some (ad 9 15), va_rf (some (ad 9 15)) = .ref (ad 9 15), ob (mm M (up2 (mI M) (ad 10 0) 0 0) (mJ M)) (ad 9 15) 13, 13 = 13 ∨ 13 = 14, vp_in (nI j1) (mN (mm M (up2 (mI M) (ad 10 0) 0 0) (mJ M)) (ad 9 15)), (Value.int ((up2 (mI M) (ad 10 0) 0 0) (ad 9 15) ((nI j1).toNatClampNeg))) = .int ((mI M) (ad 9 15) j1)]) rfl ⟨hM.1, (hM.r 15 13 60), rfl, (hM.o 15 13 60), (by decide), (vpi (hM.n 15 13 60) (by omega)), congrArg Value.int ((congrArg (fun z => (up2 (mI M) (ad 10 0) 0 0) (ad 9 15) z) (nI_clamp (by omega))).trans ((up2_n _ _ (fun z => absurd (hi _ _ _ _ z.1).1 (by decide))).trans (rfl))), trivial⟩ ?_
          refine go_if rfl (fun _ => ?_) (fun (z : ¬ (((mI M) (ad 9 15) j1) = 0)) => absurd (show ((mI M) (ad 9 15) j1) = 0 from c2) z)
          refine go_blk 1 [] (pc' := 36) (vs' := [.ref (ad 10 0), .int (nI j1)]) (st' := [.int 0]) (M' := mm M (up2 (mI M) (ad 10 0) 0 0) (mJ M)) (ps := []) rfl trivial ?_
          refine go_zret rfl rfl (Or.inl rfl) ?_
          exact h2 _ ⟨hsc, ad, nc, nb, nt, wk, nw, nx, nl, ne, nk, kd, true, rfl, rfl, rfl, hW.thr⟩
        · exact absurd ⟨j1, hj1, rfl⟩ c3
      · -- ¬ (((mI M) (ad 9 15) j1) = 0)
        refine go_blk 3 [some (.int (nI bw1))] (pc' := 22) (vs' := [.ref (ad 0 0), .int (nI j1), .ref (ad 2 j1)]) (st' := [.int (nI bw1), .ref (ad 0 0)]) (M' := mm M (mI M) (mJ M)) (ps := [ob (mm M (mI M) (mJ M)) (ad 2 j1) 0, (Value.int ((mI M) (ad 2 j1) 1)) = .int (nI bw1)]) rfl ⟨(hB j1 (by assumption)).2, congrArg Value.int ((iB.1 j1 (by assumption)).1.2.1.trans by1), trivial⟩ ?_
        refine go_callV rfl rfl rfl (by omega) rfl (by decide) (by decide) (hF.o 0) ?_
        refine s_CY_isToComeK (wk := wk) (lo := (wk + 1)) (by omega) hF wk1 wk3 (Or.inr ⟨op1, rfl⟩) (fun j4 hl4 hj4 hx4 => ⟨ne_i, ?_⟩) (fun c4 => ⟨ne_i, ?_⟩)
        · -- 1
          obtain rfl : bw1 = j4 := (nI_eqs (by omega) (by omega)).mp hx4
          show Go 1311 119 0 0 25 [.ref (ad 0 0), .int (nI j1), .ref (ad 2 j1)] [.int 1] (mm M (mI M) (mJ M)) R
          refine go_if rfl (fun _ => ?_) (fun (z : ¬ (¬ (1 : Int32) = 0)) => absurd (show ¬ (1 : Int32) = 0 from (by decide)) z)
          refine go_blk 4 [] (pc' := 36) (vs' := [.ref (ad 0 0), .int (nI j1), .ref (ad 2 j1)]) (st' := [.int 1]) (M' := mm M (up2 (mI M) (ad 2 j1) 6 0) (mJ M)) (ps := [ob (mm M (mI M) (mJ M)) (ad 2 j1) 0, 0 = 0 ∨ 0 = 1]) rfl ⟨(hB j1 (by assumption)).2, (Or.inl rfl), trivial⟩ ?_
          refine go_zret rfl rfl (Or.inr rfl) ?_
          refine K _ _ hM.1 rfl (fun R2 h2 => ?_)
          show Go 1311 195 0 0 0 [.ref (ad 10 0), .int (nI j1)] [] (mm M (up2 (mI M) (ad 2 j1) 6 0) (mJ M)) R2
          refine go_blk 5 [] (pc' := 7) (vs' := [.ref (ad 10 0), .int (nI j1)]) (st' := [.int (nI j1), .ref (ad 10 0)]) (M' := mm M (up2 (up2 (mI M) (ad 2 j1) 6 0) (ad 10 0) 0 0) (mJ M)) (ps := [ob (mm M (up2 (mI M) (ad 2 j1) 6 0) (mJ M)) (ad 10 0) 12]) rfl ⟨hM.1, trivial⟩ ?_
          refine go_callV rfl rfl rfl (by omega) rfl (by decide) (by decide) hM.1 ?_
          refine s_Mo_isBooking hM (((up2_n _ _ (fun z => absurd z.2 (by decide))).trans ((up2_n _ _ (fun z => absurd (hi _ _ _ _ z.1).1 (by decide))).trans (rfl))).trans nb2) (Nat.le_trans nb3 (by decide)) (fun j5 hj5 hx5 => ⟨ne_i, ?_⟩) (fun c5 => ⟨ne_i, ?_⟩)
          · -- 1
            show Go 1311 195 0 0 10 [.ref (ad 10 0), .int (nI j1)] [.int 1] (mm M (up2 (up2 (mI M) (ad 2 j1) 6 0) (ad 10 0) 0 0) (mJ M)) R2
            refine go_if rfl (fun (z : (1 : Int32) = 0) => absurd z (show ¬ ((1 : Int32) = 0) from (by decide))) (fun _ => ?_)
            refine go_blk 4 [some (.ref (ad 9 15)), some (.int ((mI M) (ad 9 15) j1))] (pc' := 19) (vs' := [.ref (ad 10 0), .int (nI j1)]) (st' := [.int ((mI M) (ad 9 15) j1)]) (M' := mm M (up2 (up2 (mI M) (ad 2 j1) 6 0) (ad 10 0) 0 0) (mJ M)) (ps := [ob (mm M (up2 (up2 (mI M) (ad 2 j1) 6 0) (ad 10 0) 0 0) (mJ M)) (ad 10 0) 12, mR (mm M (up2 (up2 (mI M) (ad 2 j1) 6 0) (ad 10 0) 0 0) (mJ M)) (ad 10 0) 15 = some (ad 9 15), va_rf (some (ad 9 15)) = .ref (ad 9 15), ob (mm M (up2 (up2 (mI M) (ad 2 j1) 6 0) (ad 10 0) 0 0) (mJ M)) (ad 9 15) 13, 13 = 13 ∨ 13 = 14, vp_in (nI j1) (mN (mm M (up2 (up2 (mI M) (ad 2 j1) 6 0) (ad 10 0) 0 0) (mJ M)) (ad 9 15)), (Value.int ((up2 (up2 (mI M) (ad 2 j1) 6 0) (ad 10 0) 0 0) (ad 9 15) ((nI j1).toNatClampNeg))) = .int ((mI M) (ad 9 15) j1)]) rfl ⟨hM.1, (hM.r 15 13 60), rfl, (hM.o 15 13 60), (by decide), (vpi (hM.n 15 13 60) (by omega)), congrArg Value.int ((congrArg (fun z => (up2 (up2 (mI M) (ad 2 j1) 6 0) (ad 10 0) 0 0) (ad 9 15) z) (nI_clamp (by omega))).trans ((up2_n _ _ (fun z => absurd (hi _ _ _ _ z.1).1 (by decide))).trans ((up2_n _ _ (fun z => absurd (hi _ _ _ _ z.1).1 (by decide))).trans (rfl)))), trivial⟩ ?_
            refine go_if rfl (fun (z : ((mI M) (ad 9 15) j1) = 0) => absurd z (show ¬ (((mI M) (ad 9 15) j1) = 0) from c2)) (fun _ => ?_)
            refine go_blk 5 [some (.ref (ad 9 7)), some (.int (nI bw1))] (pc' := 29) (vs' := [.ref (ad 10 0), .int (nI j1)]) (st' := [.int (nI bw1), .ref (ad 10 0)]) (M' := mm M (up2 (up2 (mI M) (ad 2 j1) 6 0) (ad 10 0) 0 0) (mJ M)) (ps := [ob (mm M (up2 (up2 (mI M) (ad 2 j1) 6 0) (ad 10 0) 0 0) (mJ M)) (ad 10 0) 12, mR (mm M (up2 (up2 (mI M) (ad 2 j1) 6 0) (ad 10 0) 0 0) (mJ M)) (ad 10 0) 7 = some (ad 9 7), va_rf (some (ad 9 7)) = .ref (ad 9 7), ob (mm M (up2 (up2 (mI M) (ad 2 j1) 6 0) (ad 10 0) 0 0) (mJ M)) (ad 9 7) 15, vp_in (nI j1) (mN (mm M (up2 (up2 (mI M) (ad 2 j1) 6 0) (ad 10 0) 0 0) (mJ M)) (ad 9 7)), (Value.int ((up2 (up2 (mI M) (ad 2 j1) 6 0) (ad 10 0) 0 0) (ad 9 7) ((nI j1).toNatClampNeg))) = .int (nI bw1)]) rfl ⟨hM.1, (hM.r 7 15 60), rfl, (hM.o 7 15 60), (vpi (hM.n 7 15 60) (by omega)), congrArg Value.int ((congrArg (fun z => (up2 (up2 (mI M) (ad 2 j1) 6 0) (ad 10 0) 0 0) (ad 9 7) z) (nI_clamp (by omega))).trans (((up2_n _ _ (fun z => absurd (hi _ _ _ _ z.1).1 (by decide))).trans ((up2_n _ _ (fun z => absurd (hi _ _ _ _ z.1).1 (by decide))).trans (rfl))).trans by1)), trivial⟩ ?_
            refine go_callV rfl rfl rfl (by omega) rfl (by decide) (by decide) hM.1 ?_
            refine s_Mo_isAheadK (wk := wk) (lo := (wk + 1)) (by omega) hM (((up2_n _ _ (fun z => absurd z.2 (by decide))).trans ((up2_n _ _ (fun z => absurd (hi _ _ _ _ z.1).1 (by decide))).trans (rfl))).trans wk2) wk3 (Or.inr ⟨(((up2_n _ _ (fun z => absurd z.2 (by decide))).trans ((up2_n _ _ (fun z => absurd (hi _ _ _ _ z.1).1 (by decide))).trans (rfl))).trans op2), rfl⟩) (fun j6 hl6 hj6 hx6 => ⟨ne_i, ?_⟩) (fun c6 => ⟨ne_i, ?_⟩)
            · -- 1
              obtain rfl : bw1 = j6 := (nI_eqs (by omega) (by omega)).mp hx6
              show Go 1311 195 0 0 32 [.ref (ad 10 0), .int (nI j1)] [.int 1] (mm M (up2 (up2 (mI M) (ad 2 j1) 6 0) (ad 10 0) 0 0) (mJ M)) R2
              refine go_if rfl (fun _ => ?_) (fun (z : ¬ (¬ (1 : Int32) = 0)) => absurd (show ¬ (1 : Int32) = 0 from (by decide)) z)
              refine go_blk 6 [some (.ref (ad 9 15))] (pc' := 45) (vs' := [.ref (ad 10 0), .int (nI j1)]) (st' := [.int 1]) (M' := mm M (up2 (up2 (up2 (mI M) (ad 2 j1) 6 0) (ad 10 0) 0 0) (ad 9 15) ((nI j1).toNatClampNeg) 0) (mJ M)) (ps := [ob (mm M (up2 (up2 (mI M) (ad 2 j1) 6 0) (ad 10 0) 0 0) (mJ M)) (ad 10 0) 12, mR (mm M (up2 (up2 (mI M) (ad 2 j1) 6 0) (ad 10 0) 0 0) (mJ M)) (ad 10 0) 15 = some (ad 9 15), va_rf (some (ad 9 15)) = .ref (ad 9 15), ob (mm M (up2 (up2 (mI M) (ad 2 j1) 6 0) (ad 10 0) 0 0) (mJ M)) (ad 9 15) 13, vp_in (nI j1) (mN (mm M (up2 (up2 (mI M) (ad 2 j1) 6 0) (ad 10 0) 0 0) (mJ M)) (ad 9 15))]) rfl ⟨hM.1, (hM.r 15 13 60), rfl, (hM.o 15 13 60), (vpi (hM.n 15 13 60) (by omega)), trivial⟩ ?_
              rw [nI_clamp (n := j1) (by omega)]
              refine go_zret rfl rfl (Or.inr rfl) ?_
              have ch : ∀ t i k, ¬ ((t = 2 ∧ i = j1 ∧ k = 6) ∨ (t = 10 ∧ i = 0 ∧ k = 0) ∨ (t = 9 ∧ i = 15 ∧ k = j1)) → vw ad (up2 (up2 (up2 (mI M) (ad 2 j1) 6 0) (ad 10 0) 0 0) (ad 9 15) (j1) 0) t i k = vw ad (mI M) t i k := by
                intro t i k hn
                simp only [vw_up2 hi]
                rw [up3_n _ _ (by omega), up3_n _ _ (by omega), up3_n _ _ (by omega)]
              have chj : ∀ t i k, ¬ ((t = 1000 ∧ i = 0 ∧ k = 0)) → vw ad (mJ M) t i k = vw ad (mJ M) t i k := by
                intro t i k hn
                rfl
              have eJ1 : eJ nb (vw ad (mI M)) (vw ad (up2 (up2 (up2 (mI M) (ad 2 j1) 6 0) (ad 10 0) 0 0) (ad 9 15) (j1) 0)) := fun i k h => ch 9 i k (by omega)
              refine h2 _ ⟨hsc, ad, nc, nb, nt, wk, nw, nx, nl, ne, nk, kd, true, rfl, rfl, rfl, hi, ⟨hF, hM, hC, hB, hT, hX⟩, ⟨iS.congr (fun t k h => ch t 0 k (by omega)), iC.congr nc3 (fun t i k h => ch t i k (by omega)) (fun c hc => chj 1 c 4 (by omega)), ?_, iR.congr (fun t i k h => ch t i k (by omega)), iL.congr (fun t i k h => ch t i k (by omega)), iT.congr (fun t i k h => ch t i k (by omega))⟩, ⟨jO.congr eJ1 (fun b k _ _ _ => ch 6 b k (by omega)), jR.congr eJ1, jB.congr nb3 (fun t i k h => ch t i k (by omega)), jX.congr (fun t i k h => ch t i k (by omega)), jL.congr eJ1 (fun b k _ _ _ => ch 6 b k (by omega)) (fun t i k h => ch t i k (by omega))⟩, kO.congr iB wk3 (fun t i k h => ch t i k (by omega)) (fun b _ _ => ch 6 b 8 (by omega)), kC.congr (fun t i k h => ch t i k (by omega)) ⟨chj 0 0 12 (by omega), chj 10 0 99 (by omega)⟩, kD.congr (fun i k h => ch 9 i k (by omega)), kP.congr eJ1 (fun i k h => ch 9 i k (by have := ppS_sp h; omega)) ⟨ch 10 0 31 (by omega), ch 0 7 19 (by omega), ch 0 7 2 (by omega), ch 0 7 4 (by omega), fun t => ch 0 30 t (by omega)⟩ (chj 0 7 17 (by omega)), kX.congr (fun t i k h => ch t i k (by omega))⟩
              refine iB.off (b := j1) (by assumption) by1 ⟨by simp; omega, by omega⟩ (fun t i k h1 h2 => ch t i k (by omega)) ?_ ?_
              · show vw ad (up2 (up2 (up2 (mI M) (ad 2 j1) 6 0) (ad 10 0) 0 0) (ad 9 15) (j1) 0) 2 j1 6 = 0
                simp only [vw_up2 hi]; simp [up3]
              · show vw ad (up2 (up2 (up2 (mI M) (ad 2 j1) 6 0) (ad 10 0) 0 0) (ad 9 15) (j1) 0) 9 15 j1 = 0
                simp only [vw_up2 hi]; simp [up3]
            · exact absurd ⟨bw1, hl4, hj4, rfl⟩ c6
          · exact absurd ⟨j1, hj1, rfl⟩ c5
        · -- 0
          show Go 1311 119 0 0 25 [.ref (ad 0 0), .int (nI j1), .ref (ad 2 j1)] [.int 0] (mm M (mI M) (mJ M)) R
          refine go_if rfl (fun (z : ¬ (0 : Int32) = 0) => absurd z (show ¬ (¬ (0 : Int32) = 0) from (by decide))) (fun _ => ?_)
          refine go_blk 1 [] (pc' := 29) (vs' := [.ref (ad 0 0), .int (nI j1), .ref (ad 2 j1)]) (st' := [.int 0]) (M' := mm M (mI M) (mJ M)) (ps := []) rfl trivial ?_
          refine go_zret rfl rfl (Or.inl rfl) ?_
          refine K _ _ hM.1 rfl (fun R2 h2 => ?_)
          show Go 1311 195 0 0 0 [.ref (ad 10 0), .int (nI j1)] [] (mm M (mI M) (mJ M)) R2
          refine go_blk 5 [] (pc' := 7) (vs' := [.ref (ad 10 0), .int (nI j1)]) (st' := [.int (nI j1), .ref (ad 10 0)]) (M' := mm M (up2 (mI M) (ad 10 0) 0 0) (mJ M)) (ps := [ob (mm M (mI M) (mJ M)) (ad 10 0) 12]) rfl ⟨hM.1, trivial⟩ ?_
          refine go_callV rfl rfl rfl (by omega) rfl (by decide) (by decide) hM.1 ?_
          refine s_Mo_isBooking hM (((up2_n _ _ (fun z => absurd z.2 (by decide))).trans (rfl)).trans nb2) (Nat.le_trans nb3 (by decide)) (fun j7 hj7 hx7 => ⟨ne_i, ?_⟩) (fun c7 => ⟨ne_i, ?_⟩)
          · -- 1
            show Go 1311 195 0 0 10 [.ref (ad 10 0), .int (nI j1)] [.int 1] (mm M (up2 (mI M) (ad 10 0) 0 0) (mJ M)) R2
            refine go_if rfl (fun (z : (1 : Int32) = 0) => absurd z (show ¬ ((1 : Int32) = 0) from (by decide))) (fun _ => ?_)
            refine go_blk 4 [some (.ref (ad 9 15)), some (.int ((mI M) (ad 9 15) j1))] (pc' := 19) (vs' := [.ref (ad 10 0), .int (nI j1)]) (st' := [.int ((mI M) (ad 9 15) j1)]) (M' := mm M (up2 (mI M) (ad 10 0) 0 0) (mJ M)) (ps := [ob (mm M (up2 (mI M) (ad 10 0) 0 0) (mJ M)) (ad 10 0) 12, mR (mm M (up2 (mI M) (ad 10 0) 0 0) (mJ M)) (ad 10 0) 15 = some (ad 9 15), va_rf (some (ad 9 15)) = .ref (ad 9 15), ob (mm M (up2 (mI M) (ad 10 0) 0 0) (mJ M)) (ad 9 15) 13, 13 = 13 ∨ 13 = 14, vp_in (nI j1) (mN (mm M (up2 (mI M) (ad 10 0) 0 0) (mJ M)) (ad 9 15)), (Value.int ((up2 (mI M) (ad 10 0) 0 0) (ad 9 15) ((nI j1).toNatClampNeg))) = .int ((mI M) (ad 9 15) j1)]) rfl ⟨hM.1, (hM.r 15 13 60), rfl, (hM.o 15 13 60), (by decide), (vpi (hM.n 15 13 60) (by omega)), congrArg Value.int ((congrArg (fun z => (up2 (mI M) (ad 10 0) 0 0) (ad 9 15) z) (nI_clamp (by omega))).trans ((up2_n _ _ (fun z => absurd (hi _ _ _ _ z.1).1 (by decide))).trans (rfl))), trivial⟩ ?_
            refine go_if rfl (fun (z : ((mI M) (ad 9 15) j1) = 0) => absurd z (show ¬ (((mI M) (ad 9 15) j1) = 0) from c2)) (fun _ => ?_)
            refine go_blk 5 [some (.ref (ad 9 7)), some (.int (nI bw1))] (pc' := 29) (vs' := [.ref (ad 10 0), .int (nI j1)]) (st' := [.int (nI bw1), .ref (ad 10 0)]) (M' := mm M (up2 (mI M) (ad 10 0) 0 0) (mJ M)) (ps := [ob (mm M (up2 (mI M) (ad 10 0) 0 0) (mJ M)) (ad 10 0) 12, mR (mm M (up2 (mI M) (ad 10 0) 0 0) (mJ M)) (ad 10 0) 7 = some (ad 9 7), va_rf (some (ad 9 7)) = .ref (ad 9 7), ob (mm M (up2 (mI M) (ad 10 0) 0 0) (mJ M)) (ad 9 7) 15, vp_in (nI j1) (mN (mm M (up2 (mI M) (ad 10 0) 0 0) (mJ M)) (ad 9 7)), (Value.int ((up2 (mI M) (ad 10 0) 0 0) (ad 9 7) ((nI j1).toNatClampNeg))) = .int (nI bw1)]) rfl ⟨hM.1, (hM.r 7 15 60), rfl, (hM.o 7 15 60), (vpi (hM.n 7 15 60) (by omega)), congrArg Value.int ((congrArg (fun z => (up2 (mI M) (ad 10 0) 0 0) (ad 9 7) z) (nI_clamp (by omega))).trans (((up2_n _ _ (fun z => absurd (hi _ _ _ _ z.1).1 (by decide))).trans (rfl)).trans by1)), trivial⟩ ?_
            refine go_callV rfl rfl rfl (by omega) rfl (by decide) (by decide) hM.1 ?_
            refine s_Mo_isAheadK (wk := wk) (lo := (wk + 1)) (by omega) hM (((up2_n _ _ (fun z => absurd z.2 (by decide))).trans (rfl)).trans wk2) wk3 (Or.inr ⟨(((up2_n _ _ (fun z => absurd z.2 (by decide))).trans (rfl)).trans op2), rfl⟩) (fun j8 hl8 hj8 hx8 => ⟨ne_i, ?_⟩) (fun c8 => ⟨ne_i, ?_⟩)
            · exact absurd ⟨j8, hl8, hj8, hx8⟩ c4
            · -- 0
              show Go 1311 195 0 0 32 [.ref (ad 10 0), .int (nI j1)] [.int 0] (mm M (up2 (mI M) (ad 10 0) 0 0) (mJ M)) R2
              refine go_if rfl (fun (z : ¬ (0 : Int32) = 0) => absurd z (show ¬ (¬ (0 : Int32) = 0) from (by decide))) (fun _ => ?_)
              refine go_blk 1 [] (pc' := 36) (vs' := [.ref (ad 10 0), .int (nI j1)]) (st' := [.int 0]) (M' := mm M (up2 (mI M) (ad 10 0) 0 0) (mJ M)) (ps := []) rfl trivial ?_
              refine go_zret rfl rfl (Or.inl rfl) ?_
              exact h2 _ ⟨hsc, ad, nc, nb, nt, wk, nw, nx, nl, ne, nk, kd, true, rfl, rfl, rfl, hW.thr⟩
          · exact absurd ⟨j1, hj1, rfl⟩ c7
    · -- ('n',)
      show Go 1311 119 0 0 5 [.ref (ad 0 0), .int a1, .retAddr 0] [.null] (mm M (mI M) (mJ M)) R
      refine go_blk 2 [] (pc' := 7) (vs' := [.ref (ad 0 0), .int a1, .null]) (st' := [.null]) (M' := mm M (mI M) (mJ M)) (ps := []) rfl trivial ?_
      refine go_ifnull0 rfl ?_
      refine go_blk 1 [] (pc' := 29) (vs' := [.ref (ad 0 0), .int a1, .null]) (st' := [.int 0]) (M' := mm M (mI M) (mJ M)) (ps := []) rfl trivial ?_
      refine go_zret rfl rfl (Or.inl rfl) ?_
      refine K _ _ hM.1 rfl (fun R2 h2 => ?_)
      show Go 1311 195 0 0 0 [.ref (ad 10 0), .int a1] [] (mm M (mI M) (mJ M)) R2
      refine go_blk 5 [] (pc' := 7) (vs' := [.ref (ad 10 0), .int a1]) (st' := [.int a1, .ref (ad 10 0)]) (M' := mm M (up2 (mI M) (ad 10 0) 0 0) (mJ M)) (ps := [ob (mm M (mI M) (mJ M)) (ad 10 0) 12]) rfl ⟨hM.1, trivial⟩ ?_
      refine go_callV rfl rfl rfl (by omega) rfl (by decide) (by decide) hM.1 ?_
      refine s_Mo_isBooking hM (((up2_n _ _ (fun z => absurd z.2 (by decide))).trans (rfl)).trans nb2) (Nat.le_trans nb3 (by decide)) (fun j9 hj9 hx9 => ⟨ne_i, ?_⟩) (fun c9 => ⟨ne_i, ?_⟩)
      · exact absurd ⟨j9, hj9, hx9⟩ c1
      · -- 0
        show Go 1311 195 0 0 10 [.ref (ad 10 0), .int a1] [.int 0] (mm M (up2 (mI M) (ad 10 0) 0 0) (mJ M)) R2
        refine go_if rfl (fun _ => ?_) (fun (z : ¬ ((0 : Int32) = 0)) => absurd (show (0 : Int32) = 0 from (by decide)) z)
        refine go_blk 1 [] (pc' := 36) (vs' := [.ref (ad 10 0), .int a1]) (st' := [.int 0]) (M' := mm M (up2 (mI M) (ad 10 0) 0 0) (mJ M)) (ps := []) rfl trivial ?_
        refine go_zret rfl rfl (Or.inl rfl) ?_
        exact h2 _ ⟨hsc, ad, nc, nb, nt, wk, nw, nx, nl, ne, nk, kd, true, rfl, rfl, rfl, hW.thr⟩

set_option maxHeartbeats 20000000 in
set_option maxRecDepth 100000 in
theorem op27 {x o u : Nat} {sc : Nat × Nat × (Nat → Int32)} : Op27 (II x o u sc) x o := by
  intro M a1 hI R K
  obtain ⟨hsc, ad, nc, nb, nt, wk, nw, nx, nl, ne, nk, kd, op, rfl, rfl, rfl, hW⟩ := hI
  obtain ⟨hi, ⟨hF, hM, hC, hB, hT, hX⟩, ⟨iS, iC, iB, iR, iL, iT⟩, ⟨jO, jR, jB, jX, jL⟩, kO, kC, kD, kP, kX⟩ := id hW
  obtain ⟨⟨nc1, nc2, nc3⟩, ⟨nb1, nb2, nb3⟩, ⟨nt1, nt2, nt3⟩, ⟨wk1, wk2, wk3⟩, ⟨nw1, nw2, nw3⟩, ⟨op1, op2, op3⟩, ncm, ncm1, ncm2, ncm3⟩ := id iS
  simp only [vw] at nc1 nc2 nb1 nb2 nt1 nt2 wk1 wk2 nw1 nw2 op1 op2 ncm2 ncm3
  obtain ⟨nn, nn3, nn1, nn2, nnb⟩ := jX.2.1
  simp only [vw] at nn1 nn2
  have nl3 := jL.1.2.2.1
  have nx3 := jX.1.2.2
  have nk3 := jB.1.2.2.2.2.1
  have ne3 := jB.1.2.2.2.2.2
  show Go 1311 143 0 0 0 [.ref (ad 0 0), .int a1] [] (mm M (mI M) (mJ M)) R
  refine go_blk 6 [some (.ref (ad 0 10)), some (.ref (ad 7 nx)), some (.int (nI nn))] (pc' := 12) (vs' := [.ref (ad 0 0), .int a1]) (st' := [.int (nI nn), .int 0, .int a1]) (M' := mm M (mI M) (mJ M)) (ps := [ob (mm M (mI M) (mJ M)) (ad 0 0) 11, mR (mm M (mI M) (mJ M)) (ad 0 0) 17 = some (ad 0 10), va_rf (some (ad 0 10)) = .ref (ad 0 10), ob (mm M (mI M) (mJ M)) (ad 0 10) 10, mR (mm M (mI M) (mJ M)) (ad 0 10) 0 = some (ad 7 nx), va_rf (some (ad 7 nx)) = .ref (ad 7 nx), ob (mm M (mI M) (mJ M)) (ad 7 nx) 9, (Value.int ((mI M) (ad 7 nx) 1)) = .int (nI nn)]) rfl ⟨(hF.o 0), (hF.r 0 17 10), rfl, (hF.o 10), hX.1, rfl, (hX.2.2 nx (by omega)).1, congrArg Value.int nn1, trivial⟩ ?_
  refine go_callS rfl (by decide) rfl rfl (by omega) rfl (by decide) (by decide) ?_
  refine s_CY_withinK 0 nn (by omega) (by omega) (fun j1 hl1 hj1 hx1 => ⟨ne_i, ?_⟩) (fun c1 => ⟨ne_i, ?_⟩)
  · -- 1
    subst hx1
    show Go 1311 143 0 0 15 [.ref (ad 0 0), .int (nI j1)] [.int 1] (mm M (mI M) (mJ M)) R
    refine go_if rfl (fun _ => ?_) (fun (z : ¬ (¬ (1 : Int32) = 0)) => absurd (show ¬ (1 : Int32) = 0 from (by decide)) z)
    refine go_blk 6 [some (.ref (ad 0 10)), some (.ref (ad 7 nx))] (pc' := 32) (vs' := [.ref (ad 0 0), .int (nI j1)]) (st' := [.int 1]) (M' := mm M (up2 (mI M) (ad 7 nx) 1 (nI j1)) (mJ M)) (ps := [ob (mm M (mI M) (mJ M)) (ad 0 0) 11, mR (mm M (mI M) (mJ M)) (ad 0 0) 17 = some (ad 0 10), va_rf (some (ad 0 10)) = .ref (ad 0 10), ob (mm M (mI M) (mJ M)) (ad 0 10) 10, mR (mm M (mI M) (mJ M)) (ad 0 10) 0 = some (ad 7 nx), va_rf (some (ad 7 nx)) = .ref (ad 7 nx), ob (mm M (mI M) (mJ M)) (ad 7 nx) 9]) rfl ⟨(hF.o 0), (hF.r 0 17 10), rfl, (hF.o 10), hX.1, rfl, (hX.2.2 nx (by omega)).1, trivial⟩ ?_
    refine go_zret rfl rfl (Or.inr rfl) ?_
    refine K _ _ hM.1 rfl (fun R2 h2 => ?_)
    show Go 1311 240 0 0 0 [.ref (ad 10 0), .int (nI j1)] [] (mm M (up2 (mI M) (ad 7 nx) 1 (nI j1)) (mJ M)) R2
    refine go_blk 4 [] (pc' := 6) (vs' := [.ref (ad 10 0), .int (nI j1)]) (st' := [.int (nI j1)]) (M' := mm M (up2 (up2 (mI M) (ad 7 nx) 1 (nI j1)) (ad 10 0) 0 0) (mJ M)) (ps := [ob (mm M (up2 (mI M) (ad 7 nx) 1 (nI j1)) (mJ M)) (ad 10 0) 12]) rfl ⟨hM.1, trivial⟩ ?_
    refine go_if rfl (fun (z : (nI j1) < 0) => absurd z (show ¬ ((nI j1) < 0) from (nI_nlt0 (by omega)))) (fun _ => ?_)
    refine go_blk 3 [some (.int (nI nn))] (pc' := 14) (vs' := [.ref (ad 10 0), .int (nI j1)]) (st' := [.int (nI nn), .int (nI j1)]) (M' := mm M (up2 (up2 (mI M) (ad 7 nx) 1 (nI j1)) (ad 10 0) 0 0) (mJ M)) (ps := [ob (mm M (up2 (up2 (mI M) (ad 7 nx) 1 (nI j1)) (ad 10 0) 0 0) (mJ M)) (ad 10 0) 12, (Value.int ((up2 (up2 (mI M) (ad 7 nx) 1 (nI j1)) (ad 10 0) 0 0) (ad 10 0) 80)) = .int (nI nn)]) rfl ⟨hM.1, congrArg Value.int (((up2_n _ _ (fun z => absurd z.2 (by decide))).trans ((up2_n _ _ (fun z => absurd (hi _ _ _ _ z.1).1 (by decide))).trans (rfl))).trans nn2), trivial⟩ ?_
    refine go_icmp rfl (fun _ => ?_) (fun (z : ¬ ((nI j1) ≤ nI nn)) => absurd (show (nI j1) ≤ nI nn from (by rw [nI_les (by omega) (by omega)]; omega)) z)
    refine go_blk 4 [] (pc' := 25) (vs' := [.ref (ad 10 0), .int (nI j1)]) (st' := [.int 1]) (M' := mm M (up2 (up2 (up2 (mI M) (ad 7 nx) 1 (nI j1)) (ad 10 0) 0 0) (ad 10 0) 80 (nI j1)) (mJ M)) (ps := [ob (mm M (up2 (up2 (mI M) (ad 7 nx) 1 (nI j1)) (ad 10 0) 0 0) (mJ M)) (ad 10 0) 12]) rfl ⟨hM.1, trivial⟩ ?_
    refine go_zret rfl rfl (Or.inr rfl) ?_
    have ch : ∀ t i k, ¬ ((t = 7 ∧ i = nx ∧ k = 1) ∨ (t = 10 ∧ i = 0 ∧ k = 0) ∨ (t = 10 ∧ i = 0 ∧ k = 80)) → vw ad (up2 (up2 (up2 (mI M) (ad 7 nx) 1 (nI j1)) (ad 10 0) 0 0) (ad 10 0) 80 (nI j1)) t i k = vw ad (mI M) t i k := by
      intro t i k hn
      simp only [vw_up2 hi]
      rw [up3_n _ _ (by omega), up3_n _ _ (by omega), up3_n _ _ (by omega)]
    have chj : ∀ t i k, ¬ ((t = 1000 ∧ i = 0 ∧ k = 0)) → vw ad (mJ M) t i k = vw ad (mJ M) t i k := by
      intro t i k hn
      rfl
    have eJ1 : eJ nb (vw ad (mI M)) (vw ad (up2 (up2 (up2 (mI M) (ad 7 nx) 1 (nI j1)) (ad 10 0) 0 0) (ad 10 0) 80 (nI j1))) := fun i k h => ch 9 i k (by omega)
    refine h2 _ ⟨hsc, ad, nc, nb, nt, wk, nw, nx, nl, ne, nk, kd, op, rfl, rfl, rfl, hi, ⟨hF, hM, hC, hB, hT, hX⟩, ⟨iS.congr (fun t k h => ch t 0 k (by omega)), iC.congr nc3 (fun t i k h => ch t i k (by omega)) (fun c hc => chj 1 c 4 (by omega)), iB.congr (fun t i k h => ch t i k (by omega)), iR.congr (fun t i k h => ch t i k (by omega)), iL.congr (fun t i k h => ch t i k (by omega)), iT.congr (fun t i k h => ch t i k (by omega))⟩, ⟨jO.congr eJ1 (fun b k _ _ _ => ch 6 b k (by omega)), jR.congr eJ1, jB.congr nb3 (fun t i k h => ch t i k (by omega)), ?_, jL.congr eJ1 (fun b k _ _ _ => ch 6 b k (by omega)) (fun t i k h => ch t i k (by omega))⟩, kO.congr iB wk3 (fun t i k h => ch t i k (by omega)) (fun b _ _ => ch 6 b 8 (by omega)), kC.congr (fun t i k h => ch t i k (by omega)) ⟨chj 0 0 12 (by omega), chj 10 0 99 (by omega)⟩, kD.congr (fun i k h => ch 9 i k (by omega)), kP.congr eJ1 (fun i k h => ch 9 i k (by have := ppS_sp h; omega)) ⟨ch 10 0 31 (by omega), ch 0 7 19 (by omega), ch 0 7 2 (by omega), ch 0 7 4 (by omega), fun t => ch 0 30 t (by omega)⟩ (chj 0 7 17 (by omega)), kX.congr (fun t i k h => ch t i k (by omega))⟩
    show ITx (vw ad (up2 (up2 (up2 (mI M) (ad 7 nx) 1 (nI j1)) (ad 10 0) 0 0) (ad 10 0) 80 (nI j1))) nx
    refine ITx.cut jX (n := nn) (m := j1) nn1 nn3 (by omega) (fun t i k h1 h2 => ch t i k (by omega)) ?_ ?_
    · show vw ad (up2 (up2 (up2 (mI M) (ad 7 nx) 1 (nI j1)) (ad 10 0) 0 0) (ad 10 0) 80 (nI j1)) 7 nx 1 = nI j1
      simp only [vw_up2 hi]; simp [up3]
    · show vw ad (up2 (up2 (up2 (mI M) (ad 7 nx) 1 (nI j1)) (ad 10 0) 0 0) (ad 10 0) 80 (nI j1)) 10 0 80 = nI j1
      simp only [vw_up2 hi]; simp [up3]
  · -- 0
    show Go 1311 143 0 0 15 [.ref (ad 0 0), .int a1] [.int 0] (mm M (mI M) (mJ M)) R
    refine go_if rfl (fun (z : ¬ (0 : Int32) = 0) => absurd z (show ¬ (¬ (0 : Int32) = 0) from (by decide))) (fun _ => ?_)
    refine go_blk 1 [] (pc' := 19) (vs' := [.ref (ad 0 0), .int a1]) (st' := [.int 0]) (M' := mm M (mI M) (mJ M)) (ps := []) rfl trivial ?_
    refine go_zret rfl rfl (Or.inl rfl) ?_
    refine K _ _ hM.1 rfl (fun R2 h2 => ?_)
    show Go 1311 240 0 0 0 [.ref (ad 10 0), .int a1] [] (mm M (mI M) (mJ M)) R2
    refine go_blk 4 [] (pc' := 6) (vs' := [.ref (ad 10 0), .int a1]) (st' := [.int a1]) (M' := mm M (up2 (mI M) (ad 10 0) 0 0) (mJ M)) (ps := [ob (mm M (mI M) (mJ M)) (ad 10 0) 12]) rfl ⟨hM.1, trivial⟩ ?_
    refine go_if rfl (fun (c2 : a1 < 0) => ?_) (fun (c2 : ¬ (a1 < 0)) => ?_)
    · -- a1 < 0
      refine go_blk 1 [] (pc' := 18) (vs' := [.ref (ad 10 0), .int a1]) (st' := [.int 0]) (M' := mm M (up2 (mI M) (ad 10 0) 0 0) (mJ M)) (ps := []) rfl trivial ?_
      refine go_zret rfl rfl (Or.inl rfl) ?_
      exact h2 _ ⟨hsc, ad, nc, nb, nt, wk, nw, nx, nl, ne, nk, kd, op, rfl, rfl, rfl, hW.thr⟩
    · -- ¬ (a1 < 0)
      refine go_blk 3 [some (.int (nI nn))] (pc' := 14) (vs' := [.ref (ad 10 0), .int a1]) (st' := [.int (nI nn), .int a1]) (M' := mm M (up2 (mI M) (ad 10 0) 0 0) (mJ M)) (ps := [ob (mm M (up2 (mI M) (ad 10 0) 0 0) (mJ M)) (ad 10 0) 12, (Value.int ((up2 (mI M) (ad 10 0) 0 0) (ad 10 0) 80)) = .int (nI nn)]) rfl ⟨hM.1, congrArg Value.int (((up2_n _ _ (fun z => absurd z.2 (by decide))).trans (rfl)).trans nn2), trivial⟩ ?_
      refine go_icmp rfl (fun (c3 : a1 ≤ nI nn) => ?_) (fun (c3 : ¬ (a1 ≤ nI nn)) => ?_)
      · -- a1 ≤ nI nn
        refine go_blk 4 [] (pc' := 25) (vs' := [.ref (ad 10 0), .int a1]) (st' := [.int 1]) (M' := mm M (up2 (up2 (mI M) (ad 10 0) 0 0) (ad 10 0) 80 a1) (mJ M)) (ps := [ob (mm M (up2 (mI M) (ad 10 0) 0 0) (mJ M)) (ad 10 0) 12]) rfl ⟨hM.1, trivial⟩ ?_
        refine go_zret rfl rfl (Or.inr rfl) ?_
        exfalso
        obtain ⟨k, k1, k2, k3⟩ := rg_of (lo := 0) (hi := nn) (x := a1) (Int32.not_lt.mp c2) c3 (by omega) (by decide)
        exact c1 ⟨k, k1, k2, k3⟩
      · -- ¬ (a1 ≤ nI nn)
        refine go_blk 1 [] (pc' := 18) (vs' := [.ref (ad 10 0), .int a1]) (st' := [.int 0]) (M' := mm M (up2 (mI M) (ad 10 0) 0 0) (mJ M)) (ps := []) rfl trivial ?_
        refine go_zret rfl rfl (Or.inl rfl) ?_
        exact h2 _ ⟨hsc, ad, nc, nb, nt, wk, nw, nx, nl, ne, nk, kd, op, rfl, rfl, rfl, hW.thr⟩

set_option maxHeartbeats 20000000 in
set_option maxRecDepth 100000 in
theorem op11 {x o u : Nat} {sc : Nat × Nat × (Nat → Int32)} : Op11 (II x o u sc) x o := by
  intro M a1 a2 a3 hI R K
  obtain ⟨hsc, ad, nc, nb, nt, wk, nw, nx, nl, ne, nk, kd, op, rfl, rfl, rfl, hW⟩ := hI
  obtain ⟨hi, ⟨hF, hM, hC, hB, hT, hX⟩, ⟨iS, iC, iB, iR, iL, iT⟩, ⟨jO, jR, jB, jX, jL⟩, kO, kC, kD, kP, kX⟩ := id hW
  obtain ⟨⟨nc1, nc2, nc3⟩, ⟨nb1, nb2, nb3⟩, ⟨nt1, nt2, nt3⟩, ⟨wk1, wk2, wk3⟩, ⟨nw1, nw2, nw3⟩, ⟨op1, op2, op3⟩, ncm, ncm1, ncm2, ncm3⟩ := id iS
  simp only [vw] at nc1 nc2 nb1 nb2 nt1 nt2 wk1 wk2 nw1 nw2 op1 op2 ncm2 ncm3
  obtain ⟨nn, nn3, nn1, nn2, nnb⟩ := jX.2.1
  simp only [vw] at nn1 nn2
  have nl3 := jL.1.2.2.1
  have nx3 := jX.1.2.2
  have nk3 := jB.1.2.2.2.2.1
  have ne3 := jB.1.2.2.2.2.2
  show Go 1311 127 0 0 0 [.ref (ad 0 0), .int a1, .int a2, .int a3, .retAddr 0] [] (mm M (mI M) (mJ M)) R
  refine go_blk 3 [] (pc' := 4) (vs' := [.ref (ad 0 0), .int a1, .int a2, .int a3, .retAddr 0]) (st' := [.int 7, .int 0, .int a1]) (M' := mm M (mI M) (mJ M)) (ps := []) rfl trivial ?_
  refine go_callS rfl (by decide) rfl rfl (by omega) rfl (by decide) (by decide) ?_
  refine s_CY_withinK 0 7 (by decide) (by decide) (fun j1 hl1 hj1 hx1 => ⟨ne_i, ?_⟩) (fun c1 => ⟨ne_i, ?_⟩)
  · -- 1
    subst hx1
    show Go 1311 127 0 0 7 [.ref (ad 0 0), .int (nI j1), .int a2, .int a3, .retAddr 0] [.int 1] (mm M (mI M) (mJ M)) R
    refine go_if rfl (fun (z : (1 : Int32) = 0) => absurd z (show ¬ ((1 : Int32) = 0) from (by decide))) (fun _ => ?_)
    refine go_blk 3 [] (pc' := 14) (vs' := [.ref (ad 0 0), .int (nI j1), .int a2, .int a3, .retAddr 0]) (st' := [.int 7, .int 0, .int a2]) (M' := mm M (mI M) (mJ M)) (ps := []) rfl trivial ?_
    refine go_callS rfl (by decide) rfl rfl (by omega) rfl (by decide) (by decide) ?_
    refine s_CY_withinK 0 7 (by decide) (by decide) (fun j2 hl2 hj2 hx2 => ⟨ne_i, ?_⟩) (fun c2 => ⟨ne_i, ?_⟩)
    · -- 1
      subst hx2
      show Go 1311 127 0 0 17 [.ref (ad 0 0), .int (nI j1), .int (nI j2), .int a3, .retAddr 0] [.int 1] (mm M (mI M) (mJ M)) R
      refine go_if rfl (fun (z : (1 : Int32) = 0) => absurd z (show ¬ ((1 : Int32) = 0) from (by decide))) (fun _ => ?_)
      refine go_blk 2 [] (pc' := 22) (vs' := [.ref (ad 0 0), .int (nI j1), .int (nI j2), .int a3, .retAddr 0]) (st' := [.int (nI j2), .int (nI j1)]) (M' := mm M (mI M) (mJ M)) (ps := []) rfl trivial ?_
      refine go_icmp rfl (fun (c3 : (nI j1) = nI j2) => ?_) (fun (c3 : ¬ ((nI j1) = nI j2)) => ?_)
      · -- (nI j1) = nI j2
        refine go_blk 3 [] (pc' := 34) (vs' := [.ref (ad 0 0), .int (nI j1), .int (nI j2), .int a3, .int 0]) (st' := [.int 0]) (M' := mm M (mI M) (mJ M)) (ps := []) rfl trivial ?_
        refine go_if rfl (fun _ => ?_) (fun (z : ¬ ((0 : Int32) = 0)) => absurd (show (0 : Int32) = 0 from (by decide)) z)
        refine go_blk 1 [] (pc' := 48) (vs' := [.ref (ad 0 0), .int (nI j1), .int (nI j2), .int a3, .int 0]) (st' := [.int 0]) (M' := mm M (mI M) (mJ M)) (ps := []) rfl trivial ?_
        refine go_zret rfl rfl (Or.inl rfl) ?_
        refine K _ _ hM.1 rfl (fun R2 h2 => ?_)
        show Go 1311 205 0 0 0 [.ref (ad 10 0), .int (nI j1), .int (nI j2), .int a3] [] (mm M (mI M) (mJ M)) R2
        refine go_blk 6 [] (pc' := 9) (vs' := [.ref (ad 10 0), .int (nI j1), .int (nI j2), .int a3]) (st' := [.int 7, .int 0, .int (nI j1)]) (M' := mm M (up2 (mI M) (ad 10 0) 0 0) (mJ M)) (ps := [ob (mm M (mI M) (mJ M)) (ad 10 0) 12]) rfl ⟨hM.1, trivial⟩ ?_
        refine go_callS rfl (by decide) rfl rfl (by omega) rfl (by decide) (by decide) ?_
        refine s_Mo_isInK 0 7 (by decide) (by decide) (fun j4 hl4 hj4 hx4 => ⟨ne_i, ?_⟩) (fun c4 => ⟨ne_i, ?_⟩)
        · -- 1
          show Go 1311 205 0 0 12 [.ref (ad 10 0), .int (nI j1), .int (nI j2), .int a3] [.int 1] (mm M (up2 (mI M) (ad 10 0) 0 0) (mJ M)) R2
          refine go_if rfl (fun (z : (1 : Int32) = 0) => absurd z (show ¬ ((1 : Int32) = 0) from (by decide))) (fun _ => ?_)
          refine go_blk 3 [] (pc' := 19) (vs' := [.ref (ad 10 0), .int (nI j1), .int (nI j2), .int a3]) (st' := [.int 7, .int 0, .int (nI j2)]) (M' := mm M (up2 (mI M) (ad 10 0) 0 0) (mJ M)) (ps := []) rfl trivial ?_
          refine go_callS rfl (by decide) rfl rfl (by omega) rfl (by decide) (by decide) ?_
          refine s_Mo_isInK 0 7 (by decide) (by decide) (fun j5 hl5 hj5 hx5 => ⟨ne_i, ?_⟩) (fun c5 => ⟨ne_i, ?_⟩)
          · -- 1
            show Go 1311 205 0 0 22 [.ref (ad 10 0), .int (nI j1), .int (nI j2), .int a3] [.int 1] (mm M (up2 (mI M) (ad 10 0) 0 0) (mJ M)) R2
            refine go_if rfl (fun (z : (1 : Int32) = 0) => absurd z (show ¬ ((1 : Int32) = 0) from (by decide))) (fun _ => ?_)
            refine go_blk 2 [] (pc' := 27) (vs' := [.ref (ad 10 0), .int (nI j1), .int (nI j2), .int a3]) (st' := [.int (nI j2), .int (nI j1)]) (M' := mm M (up2 (mI M) (ad 10 0) 0 0) (mJ M)) (ps := []) rfl trivial ?_
            refine go_icmp rfl (fun _ => ?_) (fun (z : ¬ ((nI j1) = nI j2)) => absurd (show (nI j1) = nI j2 from c3) z)
            refine go_blk 1 [] (pc' := 41) (vs' := [.ref (ad 10 0), .int (nI j1), .int (nI j2), .int a3]) (st' := [.int 0]) (M' := mm M (up2 (mI M) (ad 10 0) 0 0) (mJ M)) (ps := []) rfl trivial ?_
            refine go_zret rfl rfl (Or.inl rfl) ?_
            exact h2 _ ⟨hsc, ad, nc, nb, nt, wk, nw, nx, nl, ne, nk, kd, op, rfl, rfl, rfl, hW.thr⟩
          · exact absurd ⟨j2, hl2, hj2, rfl⟩ c5
        · exact absurd ⟨j1, hl1, hj1, rfl⟩ c4
      · -- ¬ ((nI j1) = nI j2)
        refine go_blk 4 [] (pc' := 34) (vs' := [.ref (ad 0 0), .int (nI j1), .int (nI j2), .int a3, .int 1]) (st' := [.int 1]) (M' := mm M (mI M) (mJ M)) (ps := []) rfl trivial ?_
        refine go_if rfl (fun (z : (1 : Int32) = 0) => absurd z (show ¬ ((1 : Int32) = 0) from (by decide))) (fun _ => ?_)
        refine go_blk 3 [] (pc' := 41) (vs' := [.ref (ad 0 0), .int (nI j1), .int (nI j2), .int a3, .int 1]) (st' := [.int 90, .int 0, .int a3]) (M' := mm M (mI M) (mJ M)) (ps := []) rfl trivial ?_
        refine go_callS rfl (by decide) rfl rfl (by omega) rfl (by decide) (by decide) ?_
        refine s_CY_withinK 0 90 (by decide) (by decide) (fun j6 hl6 hj6 hx6 => ⟨ne_i, ?_⟩) (fun c6 => ⟨ne_i, ?_⟩)
        · -- 1
          subst hx6
          show Go 1311 127 0 0 44 [.ref (ad 0 0), .int (nI j1), .int (nI j2), .int (nI j6), .int 1] [.int 1] (mm M (mI M) (mJ M)) R
          refine go_if rfl (fun _ => ?_) (fun (z : ¬ (¬ (1 : Int32) = 0)) => absurd (show ¬ (1 : Int32) = 0 from (by decide)) z)
          refine go_blk 6 [some (.ref (ad 0 7)), some (.ref (ad 0 16))] (pc' := 59) (vs' := [.ref (ad 0 0), .int (nI j1), .int (nI j2), .int (nI j6), .int 1]) (st' := [.int (nI j6), .int (nI j2), .int (nI j1), .ref (ad 0 16)]) (M' := mm M (mI M) (mJ M)) (ps := [ob (mm M (mI M) (mJ M)) (ad 0 0) 11, mR (mm M (mI M) (mJ M)) (ad 0 0) 14 = some (ad 0 7), va_rf (some (ad 0 7)) = .ref (ad 0 7), ob (mm M (mI M) (mJ M)) (ad 0 7) 6, mR (mm M (mI M) (mJ M)) (ad 0 7) 0 = some (ad 0 16), va_rf (some (ad 0 16)) = .ref (ad 0 16)]) rfl ⟨(hF.o 0), (hF.r 0 14 7), rfl, (hF.o 7), (hF.r 7 0 16), rfl, trivial⟩ ?_
          refine go_callV rfl rfl rfl (by omega) rfl (by decide) (by decide) (hF.o 16) ?_
          show Go (1311 - 1) 68 0 0 0 [.ref (ad 0 16), .int (nI j1), .int (nI j2), .int (nI j6)] [] (mm M (mI M) (mJ M)) _
          refine go_blk 18 [some (.ref (ad 0 31)), some (.ref (ad 0 31))] (pc' := 24) (vs' := [.ref (ad 0 16), .int (nI j1), .int (nI j2), .int (nI j6)]) (st' := []) (M' := mm M (up2 (up2 (mI M) (ad 0 31) ((((nI j1) * 8) + (nI j2)).toNatClampNeg) (nI j6)) (ad 0 31) ((((nI j2) * 8) + (nI j1)).toNatClampNeg) (nI j6)) (mJ M)) (ps := [ob (mm M (mI M) (mJ M)) (ad 0 16) 7, mR (mm M (mI M) (mJ M)) (ad 0 16) 0 = some (ad 0 31), va_rf (some (ad 0 31)) = .ref (ad 0 31), ob (mm M (mI M) (mJ M)) (ad 0 31) 15, vp_in (((nI j1) * 8) + (nI j2)) (mN (mm M (mI M) (mJ M)) (ad 0 31)), ob (mm M (up2 (mI M) (ad 0 31) ((((nI j1) * 8) + (nI j2)).toNatClampNeg) (nI j6)) (mJ M)) (ad 0 16) 7, mR (mm M (up2 (mI M) (ad 0 31) ((((nI j1) * 8) + (nI j2)).toNatClampNeg) (nI j6)) (mJ M)) (ad 0 16) 0 = some (ad 0 31), va_rf (some (ad 0 31)) = .ref (ad 0 31), ob (mm M (up2 (mI M) (ad 0 31) ((((nI j1) * 8) + (nI j2)).toNatClampNeg) (nI j6)) (mJ M)) (ad 0 31) 15, vp_in (((nI j2) * 8) + (nI j1)) (mN (mm M (up2 (mI M) (ad 0 31) ((((nI j1) * 8) + (nI j2)).toNatClampNeg) (nI j6)) (mJ M)) (ad 0 31))]) rfl ⟨(hF.o 16), (hF.r 16 0 31), rfl, (hF.o 31), (vp_eq (eq_add (eq_mul rfl (show (8 : Int32) = nI 8 from rfl)) rfl) (vpi (hF.n 31) (show _ < 64 by omega))), (hF.o 16), (hF.r 16 0 31), rfl, (hF.o 31), (vp_eq (eq_add (eq_mul rfl (show (8 : Int32) = nI 8 from rfl)) rfl) (vpi (hF.n 31) (show _ < 64 by omega))), trivial⟩ ?_
          rw [cl_of (x := (j1 * 8 + j2)) (eq_add (eq_mul rfl (show (8 : Int32) = nI 8 from rfl)) rfl) (by omega)]
          rw [cl_of (x := (j2 * 8 + j1)) (eq_add (eq_mul rfl (show (8 : Int32) = nI 8 from rfl)) rfl) (by omega)]
          refine go_vret rfl rfl ?_
          refine ⟨ne_v, ?_⟩
          show Go 1311 127 0 0 62 [.ref (ad 0 0), .int (nI j1), .int (nI j2), .int (nI j6), .int 1] [] (mm M (up2 (up2 (mI M) (ad 0 31) ((j1 * 8 + j2)) (nI j6)) (ad 0 31) ((j2 * 8 + j1)) (nI j6)) (mJ M)) R
          refine go_blk 2 [some (.ref (ad 0 7))] (pc' := 66) (vs' := [.ref (ad 0 0), .int (nI j1), .int (nI j2), .int (nI j6), .int 1]) (st' := [.ref (ad 0 7)]) (M' := mm M (up2 (up2 (mI M) (ad 0 31) ((j1 * 8 + j2)) (nI j6)) (ad 0 31) ((j2 * 8 + j1)) (nI j6)) (mJ M)) (ps := [ob (mm M (up2 (up2 (mI M) (ad 0 31) ((j1 * 8 + j2)) (nI j6)) (ad 0 31) ((j2 * 8 + j1)) (nI j6)) (mJ M)) (ad 0 0) 11, mR (mm M (up2 (up2 (mI M) (ad 0 31) ((j1 * 8 + j2)) (nI j6)) (ad 0 31) ((j2 * 8 + j1)) (nI j6)) (mJ M)) (ad 0 0) 14 = some (ad 0 7), va_rf (some (ad 0 7)) = .ref (ad 0 7)]) rfl ⟨(hF.o 0), (hF.r 0 14 7), rfl, trivial⟩ ?_
          refine go_callV rfl rfl rfl (by omega) rfl (by decide) (by decide) (hF.o 7) ?_
          show Go (1311 - 1) 46 0 0 0 [.ref (ad 0 7)] [] (mm M (up2 (up2 (mI M) (ad 0 31) ((j1 * 8 + j2)) (nI j6)) (ad 0 31) ((j2 * 8 + j1)) (nI j6)) (mJ M)) _
          refine go_blk 3 [] (pc' := 5) (vs' := [.ref (ad 0 7)]) (st' := []) (M' := mm M (up2 (up2 (up2 (mI M) (ad 0 31) ((j1 * 8 + j2)) (nI j6)) (ad 0 31) ((j2 * 8 + j1)) (nI j6)) (ad 0 7) 19 0) (mJ M)) (ps := [ob (mm M (up2 (up2 (mI M) (ad 0 31) ((j1 * 8 + j2)) (nI j6)) (ad 0 31) ((j2 * 8 + j1)) (nI j6)) (mJ M)) (ad 0 7) 6, 0 = 0 ∨ 0 = 1]) rfl ⟨(hF.o 7), (Or.inl rfl), trivial⟩ ?_
          refine go_vret rfl rfl ?_
          refine ⟨ne_v, ?_⟩
          show Go 1311 127 0 0 69 [.ref (ad 0 0), .int (nI j1), .int (nI j2), .int (nI j6), .int 1] [] (mm M (up2 (up2 (up2 (mI M) (ad 0 31) ((j1 * 8 + j2)) (nI j6)) (ad 0 31) ((j2 * 8 + j1)) (nI j6)) (ad 0 7) 19 0) (mJ M)) R
          refine go_blk 1 [] (pc' := 70) (vs' := [.ref (ad 0 0), .int (nI j1), .int (nI j2), .int (nI j6), .int 1]) (st' := [.int 1]) (M' := mm M (up2 (up2 (up2 (mI M) (ad 0 31) ((j1 * 8 + j2)) (nI j6)) (ad 0 31) ((j2 * 8 + j1)) (nI j6)) (ad 0 7) 19 0) (mJ M)) (ps := []) rfl trivial ?_
          refine go_zret rfl rfl (Or.inr rfl) ?_
          refine K _ _ hM.1 rfl (fun R2 h2 => ?_)
          show Go 1311 205 0 0 0 [.ref (ad 10 0), .int (nI j1), .int (nI j2), .int (nI j6)] [] (mm M (up2 (up2 (up2 (mI M) (ad 0 31) ((j1 * 8 + j2)) (nI j6)) (ad 0 31) ((j2 * 8 + j1)) (nI j6)) (ad 0 7) 19 0) (mJ M)) R2
          refine go_blk 6 [] (pc' := 9) (vs' := [.ref (ad 10 0), .int (nI j1), .int (nI j2), .int (nI j6)]) (st' := [.int 7, .int 0, .int (nI j1)]) (M' := mm M (up2 (up2 (up2 (up2 (mI M) (ad 0 31) ((j1 * 8 + j2)) (nI j6)) (ad 0 31) ((j2 * 8 + j1)) (nI j6)) (ad 0 7) 19 0) (ad 10 0) 0 0) (mJ M)) (ps := [ob (mm M (up2 (up2 (up2 (mI M) (ad 0 31) ((j1 * 8 + j2)) (nI j6)) (ad 0 31) ((j2 * 8 + j1)) (nI j6)) (ad 0 7) 19 0) (mJ M)) (ad 10 0) 12]) rfl ⟨hM.1, trivial⟩ ?_
          refine go_callS rfl (by decide) rfl rfl (by omega) rfl (by decide) (by decide) ?_
          refine s_Mo_isInK 0 7 (by decide) (by decide) (fun j7 hl7 hj7 hx7 => ⟨ne_i, ?_⟩) (fun c7 => ⟨ne_i, ?_⟩)
          · -- 1
            show Go 1311 205 0 0 12 [.ref (ad 10 0), .int (nI j1), .int (nI j2), .int (nI j6)] [.int 1] (mm M (up2 (up2 (up2 (up2 (mI M) (ad 0 31) ((j1 * 8 + j2)) (nI j6)) (ad 0 31) ((j2 * 8 + j1)) (nI j6)) (ad 0 7) 19 0) (ad 10 0) 0 0) (mJ M)) R2
            refine go_if rfl (fun (z : (1 : Int32) = 0) => absurd z (show ¬ ((1 : Int32) = 0) from (by decide))) (fun _ => ?_)
            refine go_blk 3 [] (pc' := 19) (vs' := [.ref (ad 10 0), .int (nI j1), .int (nI j2), .int (nI j6)]) (st' := [.int 7, .int 0, .int (nI j2)]) (M' := mm M (up2 (up2 (up2 (up2 (mI M) (ad 0 31) ((j1 * 8 + j2)) (nI j6)) (ad 0 31) ((j2 * 8 + j1)) (nI j6)) (ad 0 7) 19 0) (ad 10 0) 0 0) (mJ M)) (ps := []) rfl trivial ?_
            refine go_callS rfl (by decide) rfl rfl (by omega) rfl (by decide) (by decide) ?_
            refine s_Mo_isInK 0 7 (by decide) (by decide) (fun j8 hl8 hj8 hx8 => ⟨ne_i, ?_⟩) (fun c8 => ⟨ne_i, ?_⟩)
            · -- 1
              show Go 1311 205 0 0 22 [.ref (ad 10 0), .int (nI j1), .int (nI j2), .int (nI j6)] [.int 1] (mm M (up2 (up2 (up2 (up2 (mI M) (ad 0 31) ((j1 * 8 + j2)) (nI j6)) (ad 0 31) ((j2 * 8 + j1)) (nI j6)) (ad 0 7) 19 0) (ad 10 0) 0 0) (mJ M)) R2
              refine go_if rfl (fun (z : (1 : Int32) = 0) => absurd z (show ¬ ((1 : Int32) = 0) from (by decide))) (fun _ => ?_)
              refine go_blk 2 [] (pc' := 27) (vs' := [.ref (ad 10 0), .int (nI j1), .int (nI j2), .int (nI j6)]) (st' := [.int (nI j2), .int (nI j1)]) (M' := mm M (up2 (up2 (up2 (up2 (mI M) (ad 0 31) ((j1 * 8 + j2)) (nI j6)) (ad 0 31) ((j2 * 8 + j1)) (nI j6)) (ad 0 7) 19 0) (ad 10 0) 0 0) (mJ M)) (ps := []) rfl trivial ?_
              refine go_icmp rfl (fun (z : (nI j1) = nI j2) => absurd z (show ¬ ((nI j1) = nI j2) from c3)) (fun _ => ?_)
              refine go_blk 3 [] (pc' := 34) (vs' := [.ref (ad 10 0), .int (nI j1), .int (nI j2), .int (nI j6)]) (st' := [.int 90, .int 0, .int (nI j6)]) (M' := mm M (up2 (up2 (up2 (up2 (mI M) (ad 0 31) ((j1 * 8 + j2)) (nI j6)) (ad 0 31) ((j2 * 8 + j1)) (nI j6)) (ad 0 7) 19 0) (ad 10 0) 0 0) (mJ M)) (ps := []) rfl trivial ?_
              refine go_callS rfl (by decide) rfl rfl (by omega) rfl (by decide) (by decide) ?_
              refine s_Mo_isInK 0 90 (by decide) (by decide) (fun j9 hl9 hj9 hx9 => ⟨ne_i, ?_⟩) (fun c9 => ⟨ne_i, ?_⟩)
              · -- 1
                show Go 1311 205 0 0 37 [.ref (ad 10 0), .int (nI j1), .int (nI j2), .int (nI j6)] [.int 1] (mm M (up2 (up2 (up2 (up2 (mI M) (ad 0 31) ((j1 * 8 + j2)) (nI j6)) (ad 0 31) ((j2 * 8 + j1)) (nI j6)) (ad 0 7) 19 0) (ad 10 0) 0 0) (mJ M)) R2
                refine go_if rfl (fun _ => ?_) (fun (z : ¬ (¬ (1 : Int32) = 0)) => absurd (show ¬ (1 : Int32) = 0 from (by decide)) z)
                refine go_blk 19 [some (.ref (ad 9 29)), some (.ref (ad 9 29))] (pc' := 67) (vs' := [.ref (ad 10 0), .int (nI j1), .int (nI j2), .int (nI j6)]) (st' := [.int 1]) (M' := mm M (up2 (up2 (up2 (up2 (up2 (up2 (mI M) (ad 0 31) ((j1 * 8 + j2)) (nI j6)) (ad 0 31) ((j2 * 8 + j1)) (nI j6)) (ad 0 7) 19 0) (ad 10 0) 0 0) (ad 9 29) (((8 * (nI j1)) + (nI j2)).toNatClampNeg) (nI j6)) (ad 9 29) (((8 * (nI j2)) + (nI j1)).toNatClampNeg) (nI j6)) (mJ M)) (ps := [ob (mm M (up2 (up2 (up2 (up2 (mI M) (ad 0 31) ((j1 * 8 + j2)) (nI j6)) (ad 0 31) ((j2 * 8 + j1)) (nI j6)) (ad 0 7) 19 0) (ad 10 0) 0 0) (mJ M)) (ad 10 0) 12, mR (mm M (up2 (up2 (up2 (up2 (mI M) (ad 0 31) ((j1 * 8 + j2)) (nI j6)) (ad 0 31) ((j2 * 8 + j1)) (nI j6)) (ad 0 7) 19 0) (ad 10 0) 0 0) (mJ M)) (ad 10 0) 29 = some (ad 9 29), va_rf (some (ad 9 29)) = .ref (ad 9 29), ob (mm M (up2 (up2 (up2 (up2 (mI M) (ad 0 31) ((j1 * 8 + j2)) (nI j6)) (ad 0 31) ((j2 * 8 + j1)) (nI j6)) (ad 0 7) 19 0) (ad 10 0) 0 0) (mJ M)) (ad 9 29) 15, vp_in ((8 * (nI j1)) + (nI j2)) (mN (mm M (up2 (up2 (up2 (up2 (mI M) (ad 0 31) ((j1 * 8 + j2)) (nI j6)) (ad 0 31) ((j2 * 8 + j1)) (nI j6)) (ad 0 7) 19 0) (ad 10 0) 0 0) (mJ M)) (ad 9 29)), ob (mm M (up2 (up2 (up2 (up2 (up2 (mI M) (ad 0 31) ((j1 * 8 + j2)) (nI j6)) (ad 0 31) ((j2 * 8 + j1)) (nI j6)) (ad 0 7) 19 0) (ad 10 0) 0 0) (ad 9 29) (((8 * (nI j1)) + (nI j2)).toNatClampNeg) (nI j6)) (mJ M)) (ad 10 0) 12, mR (mm M (up2 (up2 (up2 (up2 (up2 (mI M) (ad 0 31) ((j1 * 8 + j2)) (nI j6)) (ad 0 31) ((j2 * 8 + j1)) (nI j6)) (ad 0 7) 19 0) (ad 10 0) 0 0) (ad 9 29) (((8 * (nI j1)) + (nI j2)).toNatClampNeg) (nI j6)) (mJ M)) (ad 10 0) 29 = some (ad 9 29), va_rf (some (ad 9 29)) = .ref (ad 9 29), ob (mm M (up2 (up2 (up2 (up2 (up2 (mI M) (ad 0 31) ((j1 * 8 + j2)) (nI j6)) (ad 0 31) ((j2 * 8 + j1)) (nI j6)) (ad 0 7) 19 0) (ad 10 0) 0 0) (ad 9 29) (((8 * (nI j1)) + (nI j2)).toNatClampNeg) (nI j6)) (mJ M)) (ad 9 29) 15, vp_in ((8 * (nI j2)) + (nI j1)) (mN (mm M (up2 (up2 (up2 (up2 (up2 (mI M) (ad 0 31) ((j1 * 8 + j2)) (nI j6)) (ad 0 31) ((j2 * 8 + j1)) (nI j6)) (ad 0 7) 19 0) (ad 10 0) 0 0) (ad 9 29) (((8 * (nI j1)) + (nI j2)).toNatClampNeg) (nI j6)) (mJ M)) (ad 9 29))]) rfl ⟨hM.1, (hM.r 29 15 64), rfl, (hM.o 29 15 64), (vp_eq (eq_add (eq_mul (show (8 : Int32) = nI 8 from rfl) rfl) rfl) (vpi (hM.n 29 15 64) (by omega))), hM.1, (hM.r 29 15 64), rfl, (hM.o 29 15 64), (vp_eq (eq_add (eq_mul (show (8 : Int32) = nI 8 from rfl) rfl) rfl) (vpi (hM.n 29 15 64) (by omega))), trivial⟩ ?_
                rw [cl_of (x := (8 * j1 + j2)) (eq_add (eq_mul (show (8 : Int32) = nI 8 from rfl) rfl) rfl) (by omega)]
                rw [cl_of (x := (8 * j2 + j1)) (eq_add (eq_mul (show (8 : Int32) = nI 8 from rfl) rfl) rfl) (by omega)]
                refine go_zret rfl rfl (Or.inr rfl) ?_
                have ch : ∀ t i k, ¬ ((t = 0 ∧ i = 31 ∧ k = (j1 * 8 + j2)) ∨ (t = 0 ∧ i = 31 ∧ k = (j2 * 8 + j1)) ∨ (t = 0 ∧ i = 7 ∧ k = 19) ∨ (t = 10 ∧ i = 0 ∧ k = 0) ∨ (t = 9 ∧ i = 29 ∧ k = (8 * j1 + j2)) ∨ (t = 9 ∧ i = 29 ∧ k = (8 * j2 + j1))) → vw ad (up2 (up2 (up2 (up2 (up2 (up2 (mI M) (ad 0 31) ((j1 * 8 + j2)) (nI j6)) (ad 0 31) ((j2 * 8 + j1)) (nI j6)) (ad 0 7) 19 0) (ad 10 0) 0 0) (ad 9 29) ((8 * j1 + j2)) (nI j6)) (ad 9 29) ((8 * j2 + j1)) (nI j6)) t i k = vw ad (mI M) t i k := by
                  intro t i k hn
                  simp only [vw_up2 hi]
                  rw [up3_n _ _ (by omega), up3_n _ _ (by omega), up3_n _ _ (by omega), up3_n _ _ (by omega), up3_n _ _ (by omega), up3_n _ _ (by omega)]
                have chj : ∀ t i k, ¬ ((t = 1000 ∧ i = 0 ∧ k = 0)) → vw ad (mJ M) t i k = vw ad (mJ M) t i k := by
                  intro t i k hn
                  rfl
                have eJ1 : eJ nb (vw ad (mI M)) (vw ad (up2 (up2 (up2 (up2 (up2 (up2 (mI M) (ad 0 31) ((j1 * 8 + j2)) (nI j6)) (ad 0 31) ((j2 * 8 + j1)) (nI j6)) (ad 0 7) 19 0) (ad 10 0) 0 0) (ad 9 29) ((8 * j1 + j2)) (nI j6)) (ad 9 29) ((8 * j2 + j1)) (nI j6))) := fun i k h => ch 9 i k (by omega)
                refine h2 _ ⟨hsc, ad, nc, nb, nt, wk, nw, nx, nl, ne, nk, kd, op, rfl, rfl, rfl, hi, ⟨hF, hM, hC, hB, hT, hX⟩, ⟨iS.congr (fun t k h => ch t 0 k (by omega)), iC.congr nc3 (fun t i k h => ch t i k (by omega)) (fun c hc => chj 1 c 4 (by omega)), iB.congr (fun t i k h => ch t i k (by omega)), ?_, iL.congr (fun t i k h => ch t i k (by omega)), iT.congr (fun t i k h => ch t i k (by omega))⟩, ⟨jO.congr eJ1 (fun b k _ _ _ => ch 6 b k (by omega)), jR.congr eJ1, jB.congr nb3 (fun t i k h => ch t i k (by omega)), jX.congr (fun t i k h => ch t i k (by omega)), jL.congr eJ1 (fun b k _ _ _ => ch 6 b k (by omega)) (fun t i k h => ch t i k (by omega))⟩, kO.congr iB wk3 (fun t i k h => ch t i k (by omega)) (fun b _ _ => ch 6 b 8 (by omega)), kC.congr (fun t i k h => ch t i k (by omega)) ⟨chj 0 0 12 (by omega), chj 10 0 99 (by omega)⟩, kD.congr (fun i k h => ch 9 i k (by omega)), Or.inl ?_, kX.congr (fun t i k h => ch t i k (by omega))⟩
                · show IRd (vw ad (up2 (up2 (up2 (up2 (up2 (up2 (mI M) (ad 0 31) ((j1 * 8 + j2)) (nI j6)) (ad 0 31) ((j2 * 8 + j1)) (nI j6)) (ad 0 7) 19 0) (ad 10 0) 0 0) (ad 9 29) ((8 * j1 + j2)) (nI j6)) (ad 9 29) ((8 * j2 + j1)) (nI j6)))
                  have hab : j1 ≠ j2 := fun q => c3 (congrArg nI q)
                  simp only [vw_up2 hi]
                  refine ⟨fun i j h1 h2 => ?_, ?_⟩
                  · obtain ⟨g1, g2⟩ := iR.1 i j h1 h2
                    by_cases p1 : i = j1 ∧ j = j2
                    · obtain ⟨rfl, rfl⟩ := p1
                      simp only [up3]
                      simp [hab]
                      exact ⟨fun q1 q2 => absurd (by omega) q2, ⟨j6, by omega, by omega, rfl⟩⟩
                    · by_cases p2 : i = j2 ∧ j = j1
                      · obtain ⟨rfl, rfl⟩ := p2
                        simp only [up3]
                        simp [Ne.symm hab]
                        exact ⟨fun q1 q2 => absurd (by omega) q1, ⟨j6, by omega, by omega, rfl⟩⟩
                      · rw [up3_n _ _ (by omega), up3_n _ _ (by omega), up3_n _ _ (by omega), up3_n _ _ (by omega), up3_n _ _ (by omega), up3_n _ _ (by omega), up3_n _ _ (by omega), up3_n _ _ (by omega), up3_n _ _ (by omega), up3_n _ _ (by omega), up3_n _ _ (by omega), up3_n _ _ (by omega)]
                        exact ⟨g1, g2⟩
                  · rw [up3_n _ _ (by omega), up3_n _ _ (by omega), up3_n _ _ (by omega), up3_n _ _ (by omega), up3_n _ _ (by omega), up3_n _ _ (by omega), up3_n _ _ (by omega), up3_n _ _ (by omega), up3_n _ _ (by omega), up3_n _ _ (by omega), up3_n _ _ (by omega), up3_n _ _ (by omega)]
                    exact iR.2
                · show vw ad (up2 (up2 (up2 (up2 (up2 (up2 (mI M) (ad 0 31) ((j1 * 8 + j2)) (nI j6)) (ad 0 31) ((j2 * 8 + j1)) (nI j6)) (ad 0 7) 19 0) (ad 10 0) 0 0) (ad 9 29) ((8 * j1 + j2)) (nI j6)) (ad 9 29) ((8 * j2 + j1)) (nI j6)) 0 7 19 = 0
                  simp only [vw_up2 hi]
                  simp [up3]
              · exact absurd ⟨j6, hl6, hj6, rfl⟩ c9
            · exact absurd ⟨j2, hl2, hj2, rfl⟩ c8
          · exact absurd ⟨j1, hl1, hj1, rfl⟩ c7
        · -- 0
          show Go 1311 127 0 0 44 [.ref (ad 0 0), .int (nI j1), .int (nI j2), .int a3, .int 1] [.int 0] (mm M (mI M) (mJ M)) R
          refine go_if rfl (fun (z : ¬ (0 : Int32) = 0) => absurd z (show ¬ (¬ (0 : Int32) = 0) from (by decide))) (fun _ => ?_)
          refine go_blk 1 [] (pc' := 48) (vs' := [.ref (ad 0 0), .int (nI j1), .int (nI j2), .int a3, .int 1]) (st' := [.int 0]) (M' := mm M (mI M) (mJ M)) (ps := []) rfl trivial ?_
          refine go_zret rfl rfl (Or.inl rfl) ?_
          refine K _ _ hM.1 rfl (fun R2 h2 => ?_)
          show Go 1311 205 0 0 0 [.ref (ad 10 0), .int (nI j1), .int (nI j2), .int a3] [] (mm M (mI M) (mJ M)) R2
          refine go_blk 6 [] (pc' := 9) (vs' := [.ref (ad 10 0), .int (nI j1), .int (nI j2), .int a3]) (st' := [.int 7, .int 0, .int (nI j1)]) (M' := mm M (up2 (mI M) (ad 10 0) 0 0) (mJ M)) (ps := [ob (mm M (mI M) (mJ M)) (ad 10 0) 12]) rfl ⟨hM.1, trivial⟩ ?_
          refine go_callS rfl (by decide) rfl rfl (by omega) rfl (by decide) (by decide) ?_
          refine s_Mo_isInK 0 7 (by decide) (by decide) (fun j10 hl10 hj10 hx10 => ⟨ne_i, ?_⟩) (fun c10 => ⟨ne_i, ?_⟩)
          · -- 1
            show Go 1311 205 0 0 12 [.ref (ad 10 0), .int (nI j1), .int (nI j2), .int a3] [.int 1] (mm M (up2 (mI M) (ad 10 0) 0 0) (mJ M)) R2
            refine go_if rfl (fun (z : (1 : Int32) = 0) => absurd z (show ¬ ((1 : Int32) = 0) from (by decide))) (fun _ => ?_)
            refine go_blk 3 [] (pc' := 19) (vs' := [.ref (ad 10 0), .int (nI j1), .int (nI j2), .int a3]) (st' := [.int 7, .int 0, .int (nI j2)]) (M' := mm M (up2 (mI M) (ad 10 0) 0 0) (mJ M)) (ps := []) rfl trivial ?_
            refine go_callS rfl (by decide) rfl rfl (by omega) rfl (by decide) (by decide) ?_
            refine s_Mo_isInK 0 7 (by decide) (by decide) (fun j11 hl11 hj11 hx11 => ⟨ne_i, ?_⟩) (fun c11 => ⟨ne_i, ?_⟩)
            · -- 1
              show Go 1311 205 0 0 22 [.ref (ad 10 0), .int (nI j1), .int (nI j2), .int a3] [.int 1] (mm M (up2 (mI M) (ad 10 0) 0 0) (mJ M)) R2
              refine go_if rfl (fun (z : (1 : Int32) = 0) => absurd z (show ¬ ((1 : Int32) = 0) from (by decide))) (fun _ => ?_)
              refine go_blk 2 [] (pc' := 27) (vs' := [.ref (ad 10 0), .int (nI j1), .int (nI j2), .int a3]) (st' := [.int (nI j2), .int (nI j1)]) (M' := mm M (up2 (mI M) (ad 10 0) 0 0) (mJ M)) (ps := []) rfl trivial ?_
              refine go_icmp rfl (fun (z : (nI j1) = nI j2) => absurd z (show ¬ ((nI j1) = nI j2) from c3)) (fun _ => ?_)
              refine go_blk 3 [] (pc' := 34) (vs' := [.ref (ad 10 0), .int (nI j1), .int (nI j2), .int a3]) (st' := [.int 90, .int 0, .int a3]) (M' := mm M (up2 (mI M) (ad 10 0) 0 0) (mJ M)) (ps := []) rfl trivial ?_
              refine go_callS rfl (by decide) rfl rfl (by omega) rfl (by decide) (by decide) ?_
              refine s_Mo_isInK 0 90 (by decide) (by decide) (fun j12 hl12 hj12 hx12 => ⟨ne_i, ?_⟩) (fun c12 => ⟨ne_i, ?_⟩)
              · exact absurd ⟨j12, hl12, hj12, hx12⟩ c6
              · -- 0
                show Go 1311 205 0 0 37 [.ref (ad 10 0), .int (nI j1), .int (nI j2), .int a3] [.int 0] (mm M (up2 (mI M) (ad 10 0) 0 0) (mJ M)) R2
                refine go_if rfl (fun (z : ¬ (0 : Int32) = 0) => absurd z (show ¬ (¬ (0 : Int32) = 0) from (by decide))) (fun _ => ?_)
                refine go_blk 1 [] (pc' := 41) (vs' := [.ref (ad 10 0), .int (nI j1), .int (nI j2), .int a3]) (st' := [.int 0]) (M' := mm M (up2 (mI M) (ad 10 0) 0 0) (mJ M)) (ps := []) rfl trivial ?_
                refine go_zret rfl rfl (Or.inl rfl) ?_
                exact h2 _ ⟨hsc, ad, nc, nb, nt, wk, nw, nx, nl, ne, nk, kd, op, rfl, rfl, rfl, hW.thr⟩
            · exact absurd ⟨j2, hl2, hj2, rfl⟩ c11
          · exact absurd ⟨j1, hl1, hj1, rfl⟩ c10
    · -- 0
      show Go 1311 127 0 0 17 [.ref (ad 0 0), .int (nI j1), .int a2, .int a3, .retAddr 0] [.int 0] (mm M (mI M) (mJ M)) R
      refine go_if rfl (fun _ => ?_) (fun (z : ¬ ((0 : Int32) = 0)) => absurd (show (0 : Int32) = 0 from (by decide)) z)
      refine go_blk 3 [] (pc' := 34) (vs' := [.ref (ad 0 0), .int (nI j1), .int a2, .int a3, .int 0]) (st' := [.int 0]) (M' := mm M (mI M) (mJ M)) (ps := []) rfl trivial ?_
      refine go_if rfl (fun _ => ?_) (fun (z : ¬ ((0 : Int32) = 0)) => absurd (show (0 : Int32) = 0 from (by decide)) z)
      refine go_blk 1 [] (pc' := 48) (vs' := [.ref (ad 0 0), .int (nI j1), .int a2, .int a3, .int 0]) (st' := [.int 0]) (M' := mm M (mI M) (mJ M)) (ps := []) rfl trivial ?_
      refine go_zret rfl rfl (Or.inl rfl) ?_
      refine K _ _ hM.1 rfl (fun R2 h2 => ?_)
      show Go 1311 205 0 0 0 [.ref (ad 10 0), .int (nI j1), .int a2, .int a3] [] (mm M (mI M) (mJ M)) R2
      refine go_blk 6 [] (pc' := 9) (vs' := [.ref (ad 10 0), .int (nI j1), .int a2, .int a3]) (st' := [.int 7, .int 0, .int (nI j1)]) (M' := mm M (up2 (mI M) (ad 10 0) 0 0) (mJ M)) (ps := [ob (mm M (mI M) (mJ M)) (ad 10 0) 12]) rfl ⟨hM.1, trivial⟩ ?_
      refine go_callS rfl (by decide) rfl rfl (by omega) rfl (by decide) (by decide) ?_
      refine s_Mo_isInK 0 7 (by decide) (by decide) (fun j13 hl13 hj13 hx13 => ⟨ne_i, ?_⟩) (fun c13 => ⟨ne_i, ?_⟩)
      · -- 1
        show Go 1311 205 0 0 12 [.ref (ad 10 0), .int (nI j1), .int a2, .int a3] [.int 1] (mm M (up2 (mI M) (ad 10 0) 0 0) (mJ M)) R2
        refine go_if rfl (fun (z : (1 : Int32) = 0) => absurd z (show ¬ ((1 : Int32) = 0) from (by decide))) (fun _ => ?_)
        refine go_blk 3 [] (pc' := 19) (vs' := [.ref (ad 10 0), .int (nI j1), .int a2, .int a3]) (st' := [.int 7, .int 0, .int a2]) (M' := mm M (up2 (mI M) (ad 10 0) 0 0) (mJ M)) (ps := []) rfl trivial ?_
        refine go_callS rfl (by decide) rfl rfl (by omega) rfl (by decide) (by decide) ?_
        refine s_Mo_isInK 0 7 (by decide) (by decide) (fun j14 hl14 hj14 hx14 => ⟨ne_i, ?_⟩) (fun c14 => ⟨ne_i, ?_⟩)
        · exact absurd ⟨j14, hl14, hj14, hx14⟩ c2
        · -- 0
          show Go 1311 205 0 0 22 [.ref (ad 10 0), .int (nI j1), .int a2, .int a3] [.int 0] (mm M (up2 (mI M) (ad 10 0) 0 0) (mJ M)) R2
          refine go_if rfl (fun _ => ?_) (fun (z : ¬ ((0 : Int32) = 0)) => absurd (show (0 : Int32) = 0 from (by decide)) z)
          refine go_blk 1 [] (pc' := 41) (vs' := [.ref (ad 10 0), .int (nI j1), .int a2, .int a3]) (st' := [.int 0]) (M' := mm M (up2 (mI M) (ad 10 0) 0 0) (mJ M)) (ps := []) rfl trivial ?_
          refine go_zret rfl rfl (Or.inl rfl) ?_
          exact h2 _ ⟨hsc, ad, nc, nb, nt, wk, nw, nx, nl, ne, nk, kd, op, rfl, rfl, rfl, hW.thr⟩
      · exact absurd ⟨j1, hl1, hj1, rfl⟩ c13
  · -- 0
    show Go 1311 127 0 0 7 [.ref (ad 0 0), .int a1, .int a2, .int a3, .retAddr 0] [.int 0] (mm M (mI M) (mJ M)) R
    refine go_if rfl (fun _ => ?_) (fun (z : ¬ ((0 : Int32) = 0)) => absurd (show (0 : Int32) = 0 from (by decide)) z)
    refine go_blk 3 [] (pc' := 34) (vs' := [.ref (ad 0 0), .int a1, .int a2, .int a3, .int 0]) (st' := [.int 0]) (M' := mm M (mI M) (mJ M)) (ps := []) rfl trivial ?_
    refine go_if rfl (fun _ => ?_) (fun (z : ¬ ((0 : Int32) = 0)) => absurd (show (0 : Int32) = 0 from (by decide)) z)
    refine go_blk 1 [] (pc' := 48) (vs' := [.ref (ad 0 0), .int a1, .int a2, .int a3, .int 0]) (st' := [.int 0]) (M' := mm M (mI M) (mJ M)) (ps := []) rfl trivial ?_
    refine go_zret rfl rfl (Or.inl rfl) ?_
    refine K _ _ hM.1 rfl (fun R2 h2 => ?_)
    show Go 1311 205 0 0 0 [.ref (ad 10 0), .int a1, .int a2, .int a3] [] (mm M (mI M) (mJ M)) R2
    refine go_blk 6 [] (pc' := 9) (vs' := [.ref (ad 10 0), .int a1, .int a2, .int a3]) (st' := [.int 7, .int 0, .int a1]) (M' := mm M (up2 (mI M) (ad 10 0) 0 0) (mJ M)) (ps := [ob (mm M (mI M) (mJ M)) (ad 10 0) 12]) rfl ⟨hM.1, trivial⟩ ?_
    refine go_callS rfl (by decide) rfl rfl (by omega) rfl (by decide) (by decide) ?_
    refine s_Mo_isInK 0 7 (by decide) (by decide) (fun j15 hl15 hj15 hx15 => ⟨ne_i, ?_⟩) (fun c15 => ⟨ne_i, ?_⟩)
    · exact absurd ⟨j15, hl15, hj15, hx15⟩ c1
    · -- 0
      show Go 1311 205 0 0 12 [.ref (ad 10 0), .int a1, .int a2, .int a3] [.int 0] (mm M (up2 (mI M) (ad 10 0) 0 0) (mJ M)) R2
      refine go_if rfl (fun _ => ?_) (fun (z : ¬ ((0 : Int32) = 0)) => absurd (show (0 : Int32) = 0 from (by decide)) z)
      refine go_blk 1 [] (pc' := 41) (vs' := [.ref (ad 10 0), .int a1, .int a2, .int a3]) (st' := [.int 0]) (M' := mm M (up2 (mI M) (ad 10 0) 0 0) (mJ M)) (ps := []) rfl trivial ?_
      refine go_zret rfl rfl (Or.inl rfl) ?_
      exact h2 _ ⟨hsc, ad, nc, nb, nt, wk, nw, nx, nl, ne, nk, kd, op, rfl, rfl, rfl, hW.thr⟩

