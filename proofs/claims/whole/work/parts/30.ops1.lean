/-! calls of the law, one by one -/
set_option maxRecDepth 100000 in
theorem op1 {x o u : Nat} {sc : Nat × Nat × (Nat → Int32)} : Op1 (II x o u sc) x o := by
  intro M a1 a2 hI R K
  obtain ⟨hsc, ad, nc, nb, nt, wk, nw, nx, nl, ne, nk, kd, op, rfl, rfl, rfl, hW⟩ := hI
  obtain ⟨hi, ⟨hF, hM, hC, hB, hT, hX⟩, ⟨iS, iC, iB, iR, iL, iT⟩, ⟨jO, jR, jB, jX, jL⟩, kO, kC, kD, kP, kX⟩ := id hW
  obtain ⟨⟨nc1, nc2, nc3⟩, ⟨nb1, nb2, nb3⟩, ⟨nt1, nt2, nt3⟩, ⟨wk1, wk2, wk3⟩, ⟨nw1, nw2, nw3⟩, ⟨op1, op2, op3⟩, ncm, ncm1, ncm2, ncm3⟩ := id iS
  simp only [vw] at nc1 nc2 nb1 nb2 nt1 nt2 wk1 wk2 nw1 nw2 op1 op2 ncm2 ncm3
  show Go 1311 117 0 0 0 [.ref (ad 0 0), .int a1, .int a2, .retAddr 0] [] (mm M (mI M) (mJ M)) R
  refine go_blk 2 [] (pc' := 2) (vs' := [.ref (ad 0 0), .int a1, .int a2, .retAddr 0]) (st' := [.int a1, .ref (ad 0 0)]) (M' := mm M (mI M) (mJ M)) (ps := []) rfl trivial ?_
  refine go_callV rfl rfl rfl (by omega) rfl (by decide) (by decide) (hF.o 0) ?_
  refine s_CY_cottageAt (by omega) hF hC nc1 nc3 (fun j1 hj1 hx1 => ⟨ne_a, ?_⟩) (fun c1 => ⟨ne_0, ?_⟩)
  · -- ('r', 'ad 1 j1')
    subst hx1
    show Go 1311 117 0 0 5 [.ref (ad 0 0), .int (nI j1), .int a2, .retAddr 0] [.ref (ad 1 j1)] (mm M (mI M) (mJ M)) R
    refine go_blk 2 [] (pc' := 7) (vs' := [.ref (ad 0 0), .int (nI j1), .int a2, .ref (ad 1 j1)]) (st' := [.ref (ad 1 j1)]) (M' := mm M (mI M) (mJ M)) (ps := []) rfl trivial ?_
    refine go_ifnull1 rfl ?_
    refine go_blk 3 [] (pc' := 15) (vs' := [.ref (ad 0 0), .int (nI j1), .int a2, .ref (ad 1 j1)]) (st' := [.int 2000, .int 1, .int a2]) (M' := mm M (mI M) (mJ M)) (ps := []) rfl trivial ?_
    refine go_callS rfl (by decide) rfl rfl (by omega) rfl (by decide) (by decide) ?_
    refine s_CY_withinK 1 2000 (by decide) (by decide) (fun j2 hl2 hj2 hx2 => ⟨ne_i, ?_⟩) (fun c2 => ⟨ne_i, ?_⟩)
    · -- 1
      subst hx2
      show Go 1311 117 0 0 18 [.ref (ad 0 0), .int (nI j1), .int (nI j2), .ref (ad 1 j1)] [.int 1] (mm M (mI M) (mJ M)) R
      refine go_if rfl (fun _ => ?_) (fun (z : ¬ (¬ (1 : Int32) = 0)) => absurd (show ¬ (1 : Int32) = 0 from (by decide)) z)
      refine go_blk 4 [] (pc' := 29) (vs' := [.ref (ad 0 0), .int (nI j1), .int (nI j2), .ref (ad 1 j1)]) (st' := [.int 1]) (M' := mm M (up2 (mI M) (ad 1 j1) 3 (nI j2)) (mJ M)) (ps := [ob (mm M (mI M) (mJ M)) (ad 1 j1) 2]) rfl ⟨(hC j1 (by assumption)).2, trivial⟩ ?_
      refine go_zret rfl rfl (Or.inr rfl) ?_
      refine K _ _ hM.1 rfl (fun R2 h2 => ?_)
      show Go 1311 192 0 0 0 [.ref (ad 10 0), .int (nI j1), .int (nI j2)] [] (mm M (up2 (mI M) (ad 1 j1) 3 (nI j2)) (mJ M)) R2
      refine go_blk 5 [] (pc' := 7) (vs' := [.ref (ad 10 0), .int (nI j1), .int (nI j2)]) (st' := [.int (nI j1), .ref (ad 10 0)]) (M' := mm M (up2 (up2 (mI M) (ad 1 j1) 3 (nI j2)) (ad 10 0) 0 0) (mJ M)) (ps := [ob (mm M (up2 (mI M) (ad 1 j1) 3 (nI j2)) (mJ M)) (ad 10 0) 12]) rfl ⟨hM.1, trivial⟩ ?_
      refine go_callV rfl rfl rfl (by omega) rfl (by decide) (by decide) hM.1 ?_
      refine s_Mo_isCottage hM (((up2_n _ _ (fun z => absurd z.2 (by decide))).trans ((up2_n _ _ (fun z => absurd (hi _ _ _ _ z.1).1 (by decide))).trans (rfl))).trans nc2) (Nat.le_trans nc3 (by decide)) (fun j3 hj3 hx3 => ⟨ne_i, ?_⟩) (fun c3 => ⟨ne_i, ?_⟩)
      · -- 1
        show Go 1311 192 0 0 10 [.ref (ad 10 0), .int (nI j1), .int (nI j2)] [.int 1] (mm M (up2 (up2 (mI M) (ad 1 j1) 3 (nI j2)) (ad 10 0) 0 0) (mJ M)) R2
        refine go_if rfl (fun (z : (1 : Int32) = 0) => absurd z (show ¬ ((1 : Int32) = 0) from (by decide))) (fun _ => ?_)
        refine go_blk 3 [] (pc' := 18) (vs' := [.ref (ad 10 0), .int (nI j1), .int (nI j2)]) (st' := [.int 2000, .int 1, .int (nI j2)]) (M' := mm M (up2 (up2 (mI M) (ad 1 j1) 3 (nI j2)) (ad 10 0) 0 0) (mJ M)) (ps := []) rfl trivial ?_
        refine go_callS rfl (by decide) rfl rfl (by omega) rfl (by decide) (by decide) ?_
        refine s_Mo_isInK 1 2000 (by decide) (by decide) (fun j4 hl4 hj4 hx4 => ⟨ne_i, ?_⟩) (fun c4 => ⟨ne_i, ?_⟩)
        · -- 1
          show Go 1311 192 0 0 21 [.ref (ad 10 0), .int (nI j1), .int (nI j2)] [.int 1] (mm M (up2 (up2 (mI M) (ad 1 j1) 3 (nI j2)) (ad 10 0) 0 0) (mJ M)) R2
          refine go_if rfl (fun _ => ?_) (fun (z : ¬ (¬ (1 : Int32) = 0)) => absurd (show ¬ (1 : Int32) = 0 from (by decide)) z)
          refine go_blk 6 [some (.ref (ad 9 2))] (pc' := 34) (vs' := [.ref (ad 10 0), .int (nI j1), .int (nI j2)]) (st' := [.int 1]) (M' := mm M (up2 (up2 (up2 (mI M) (ad 1 j1) 3 (nI j2)) (ad 10 0) 0 0) (ad 9 2) ((nI j1).toNatClampNeg) (nI j2)) (mJ M)) (ps := [ob (mm M (up2 (up2 (mI M) (ad 1 j1) 3 (nI j2)) (ad 10 0) 0 0) (mJ M)) (ad 10 0) 12, mR (mm M (up2 (up2 (mI M) (ad 1 j1) 3 (nI j2)) (ad 10 0) 0 0) (mJ M)) (ad 10 0) 2 = some (ad 9 2), va_rf (some (ad 9 2)) = .ref (ad 9 2), ob (mm M (up2 (up2 (mI M) (ad 1 j1) 3 (nI j2)) (ad 10 0) 0 0) (mJ M)) (ad 9 2) 15, vp_in (nI j1) (mN (mm M (up2 (up2 (mI M) (ad 1 j1) 3 (nI j2)) (ad 10 0) 0 0) (mJ M)) (ad 9 2))]) rfl ⟨hM.1, (hM.r 2 15 7), rfl, (hM.o 2 15 7), (vpi (hM.n 2 15 7) (by omega)), trivial⟩ ?_
          rw [nI_clamp (n := j1) (by omega)]
          refine go_zret rfl rfl (Or.inr rfl) ?_
          have ch : ∀ t i k, ¬ ((t = 1 ∧ i = j1 ∧ k = 3) ∨ (t = 10 ∧ i = 0 ∧ k = 0) ∨ (t = 9 ∧ i = 2 ∧ k = j1)) → vw ad (up2 (up2 (up2 (mI M) (ad 1 j1) 3 (nI j2)) (ad 10 0) 0 0) (ad 9 2) (j1) (nI j2)) t i k = vw ad (mI M) t i k := by
            intro t i k hn
            simp only [vw_up2 hi]
            rw [up3_n _ _ (by omega), up3_n _ _ (by omega), up3_n _ _ (by omega)]
          have chj : ∀ t i k, ¬ ((t = 1000 ∧ i = 0 ∧ k = 0)) → vw ad (mJ M) t i k = vw ad (mJ M) t i k := by
            intro t i k hn
            rfl
          have eJ1 : eJ nb (vw ad (mI M)) (vw ad (up2 (up2 (up2 (mI M) (ad 1 j1) 3 (nI j2)) (ad 10 0) 0 0) (ad 9 2) (j1) (nI j2))) := fun i k h => ch 9 i k (by omega)
          refine h2 _ ⟨hsc, ad, nc, nb, nt, wk, nw, nx, nl, ne, nk, kd, op, rfl, rfl, rfl, hi, ⟨hF, hM, hC, hB, hT, hX⟩, ⟨iS.congr (fun t k h => ch t 0 k (by omega)), ?_, iB.congr (fun t i k h => ch t i k (by omega)), iR.congr (fun t i k h => ch t i k (by omega)), iL.congr (fun t i k h => ch t i k (by omega)), iT.congr (fun t i k h => ch t i k (by omega))⟩, ⟨jO.congr eJ1 (fun b k _ _ _ => ch 6 b k (by omega)), jR.congr eJ1, jB.congr nb3 (fun t i k h => ch t i k (by omega)), jX.congr (fun t i k h => ch t i k (by omega)), jL.congr eJ1 (fun b k _ _ _ => ch 6 b k (by omega)) (fun t i k h => ch t i k (by omega))⟩, kO.congr iB wk3 (fun t i k h => ch t i k (by omega)) (fun b _ _ => ch 6 b 8 (by omega)), kC.congr (fun t i k h => ch t i k (by omega)) ⟨chj 0 0 12 (by omega), chj 10 0 99 (by omega)⟩, kD.congr (fun i k h => ch 9 i k (by omega)), kP.congr eJ1 (fun i k h => ch 9 i k (by have := ppS_sp h; omega)) ⟨ch 10 0 31 (by omega), ch 0 7 19 (by omega), ch 0 7 2 (by omega), ch 0 7 4 (by omega), fun t => ch 0 30 t (by omega)⟩ (chj 0 7 17 (by omega)), kX.congr (fun t i k h => ch t i k (by omega))⟩
          show ICo (vw ad (up2 (up2 (up2 (mI M) (ad 1 j1) 3 (nI j2)) (ad 10 0) 0 0) (ad 9 2) (j1) (nI j2))) (vw ad (mJ M)) nc
          refine ⟨fun c hc => ?_, fun w c hw h1 h2 => ?_⟩
          · obtain ⟨g1, g2, g3, g4, g5, g6⟩ := iC.1 c hc
            rw [ch 1 c 0 (by omega), ch 1 c 1 (by omega), ch 1 c 2 (by omega), ch 9 1 c (by omega), ch 9 3 c (by omega), ch 9 4 c (by omega)]
            refine ⟨⟨g1.1, g1.2.1, g1.2.2.1, ?_⟩, g2, g3, g4, ?_, fun w hw => ?_⟩
            · simp only [vw_up2 hi]
              by_cases hcj : c = j1
              · subst hcj; simp [up3]
              · simp [up3, hcj]; exact g1.2.2.2
            · simp only [vw_up2 hi]
              have hr : rg 1 2000 (nI j2) := ⟨j2, hl2, hj2, rfl⟩
              by_cases hcj : c = j1
              · subst hcj; simp [up3]; exact hr
              · simp [up3, hcj]; exact g5
            · rw [ch 9 5 _ (by omega)]
              exact g6 w hw
          · rw [ch 9 5 _ (by omega)]
            exact iC.2 w c hw h1 h2
        · exact absurd ⟨j2, hl2, hj2, rfl⟩ c4
      · exact absurd ⟨j1, hj1, rfl⟩ c3
    · -- 0
      show Go 1311 117 0 0 18 [.ref (ad 0 0), .int (nI j1), .int a2, .ref (ad 1 j1)] [.int 0] (mm M (mI M) (mJ M)) R
      refine go_if rfl (fun (z : ¬ (0 : Int32) = 0) => absurd z (show ¬ (¬ (0 : Int32) = 0) from (by decide))) (fun _ => ?_)
      refine go_blk 1 [] (pc' := 22) (vs' := [.ref (ad 0 0), .int (nI j1), .int a2, .ref (ad 1 j1)]) (st' := [.int 0]) (M' := mm M (mI M) (mJ M)) (ps := []) rfl trivial ?_
      refine go_zret rfl rfl (Or.inl rfl) ?_
      refine K _ _ hM.1 rfl (fun R2 h2 => ?_)
      show Go 1311 192 0 0 0 [.ref (ad 10 0), .int (nI j1), .int a2] [] (mm M (mI M) (mJ M)) R2
      refine go_blk 5 [] (pc' := 7) (vs' := [.ref (ad 10 0), .int (nI j1), .int a2]) (st' := [.int (nI j1), .ref (ad 10 0)]) (M' := mm M (up2 (mI M) (ad 10 0) 0 0) (mJ M)) (ps := [ob (mm M (mI M) (mJ M)) (ad 10 0) 12]) rfl ⟨hM.1, trivial⟩ ?_
      refine go_callV rfl rfl rfl (by omega) rfl (by decide) (by decide) hM.1 ?_
      refine s_Mo_isCottage hM (((up2_n _ _ (fun z => absurd z.2 (by decide))).trans (rfl)).trans nc2) (Nat.le_trans nc3 (by decide)) (fun j5 hj5 hx5 => ⟨ne_i, ?_⟩) (fun c5 => ⟨ne_i, ?_⟩)
      · -- 1
        show Go 1311 192 0 0 10 [.ref (ad 10 0), .int (nI j1), .int a2] [.int 1] (mm M (up2 (mI M) (ad 10 0) 0 0) (mJ M)) R2
        refine go_if rfl (fun (z : (1 : Int32) = 0) => absurd z (show ¬ ((1 : Int32) = 0) from (by decide))) (fun _ => ?_)
        refine go_blk 3 [] (pc' := 18) (vs' := [.ref (ad 10 0), .int (nI j1), .int a2]) (st' := [.int 2000, .int 1, .int a2]) (M' := mm M (up2 (mI M) (ad 10 0) 0 0) (mJ M)) (ps := []) rfl trivial ?_
        refine go_callS rfl (by decide) rfl rfl (by omega) rfl (by decide) (by decide) ?_
        refine s_Mo_isInK 1 2000 (by decide) (by decide) (fun j6 hl6 hj6 hx6 => ⟨ne_i, ?_⟩) (fun c6 => ⟨ne_i, ?_⟩)
        · exact absurd ⟨j6, hl6, hj6, hx6⟩ c2
        · -- 0
          show Go 1311 192 0 0 21 [.ref (ad 10 0), .int (nI j1), .int a2] [.int 0] (mm M (up2 (mI M) (ad 10 0) 0 0) (mJ M)) R2
          refine go_if rfl (fun (z : ¬ (0 : Int32) = 0) => absurd z (show ¬ (¬ (0 : Int32) = 0) from (by decide))) (fun _ => ?_)
          refine go_blk 1 [] (pc' := 25) (vs' := [.ref (ad 10 0), .int (nI j1), .int a2]) (st' := [.int 0]) (M' := mm M (up2 (mI M) (ad 10 0) 0 0) (mJ M)) (ps := []) rfl trivial ?_
          refine go_zret rfl rfl (Or.inl rfl) ?_
          exact h2 _ ⟨hsc, ad, nc, nb, nt, wk, nw, nx, nl, ne, nk, kd, op, rfl, rfl, rfl, hW.thr⟩
      · exact absurd ⟨j1, hj1, rfl⟩ c5
  · -- ('n',)
    show Go 1311 117 0 0 5 [.ref (ad 0 0), .int a1, .int a2, .retAddr 0] [.null] (mm M (mI M) (mJ M)) R
    refine go_blk 2 [] (pc' := 7) (vs' := [.ref (ad 0 0), .int a1, .int a2, .null]) (st' := [.null]) (M' := mm M (mI M) (mJ M)) (ps := []) rfl trivial ?_
    refine go_ifnull0 rfl ?_
    refine go_blk 1 [] (pc' := 22) (vs' := [.ref (ad 0 0), .int a1, .int a2, .null]) (st' := [.int 0]) (M' := mm M (mI M) (mJ M)) (ps := []) rfl trivial ?_
    refine go_zret rfl rfl (Or.inl rfl) ?_
    refine K _ _ hM.1 rfl (fun R2 h2 => ?_)
    show Go 1311 192 0 0 0 [.ref (ad 10 0), .int a1, .int a2] [] (mm M (mI M) (mJ M)) R2
    refine go_blk 5 [] (pc' := 7) (vs' := [.ref (ad 10 0), .int a1, .int a2]) (st' := [.int a1, .ref (ad 10 0)]) (M' := mm M (up2 (mI M) (ad 10 0) 0 0) (mJ M)) (ps := [ob (mm M (mI M) (mJ M)) (ad 10 0) 12]) rfl ⟨hM.1, trivial⟩ ?_
    refine go_callV rfl rfl rfl (by omega) rfl (by decide) (by decide) hM.1 ?_
    refine s_Mo_isCottage hM (((up2_n _ _ (fun z => absurd z.2 (by decide))).trans (rfl)).trans nc2) (Nat.le_trans nc3 (by decide)) (fun j7 hj7 hx7 => ⟨ne_i, ?_⟩) (fun c7 => ⟨ne_i, ?_⟩)
    · exact absurd ⟨j7, hj7, hx7⟩ c1
    · -- 0
      show Go 1311 192 0 0 10 [.ref (ad 10 0), .int a1, .int a2] [.int 0] (mm M (up2 (mI M) (ad 10 0) 0 0) (mJ M)) R2
      refine go_if rfl (fun _ => ?_) (fun (z : ¬ ((0 : Int32) = 0)) => absurd (show (0 : Int32) = 0 from (by decide)) z)
      refine go_blk 1 [] (pc' := 25) (vs' := [.ref (ad 10 0), .int a1, .int a2]) (st' := [.int 0]) (M' := mm M (up2 (mI M) (ad 10 0) 0 0) (mJ M)) (ps := []) rfl trivial ?_
      refine go_zret rfl rfl (Or.inl rfl) ?_
      exact h2 _ ⟨hsc, ad, nc, nb, nt, wk, nw, nx, nl, ne, nk, kd, op, rfl, rfl, rfl, hW.thr⟩

set_option maxRecDepth 100000 in
theorem op8 {x o u : Nat} {sc : Nat × Nat × (Nat → Int32)} : Op8 (II x o u sc) x o := by
  intro M a1 a2 hI R K
  obtain ⟨hsc, ad, nc, nb, nt, wk, nw, nx, nl, ne, nk, kd, op, rfl, rfl, rfl, hW⟩ := hI
  obtain ⟨hi, ⟨hF, hM, hC, hB, hT, hX⟩, ⟨iS, iC, iB, iR, iL, iT⟩, ⟨jO, jR, jB, jX, jL⟩, kO, kC, kD, kP, kX⟩ := id hW
  obtain ⟨⟨nc1, nc2, nc3⟩, ⟨nb1, nb2, nb3⟩, ⟨nt1, nt2, nt3⟩, ⟨wk1, wk2, wk3⟩, ⟨nw1, nw2, nw3⟩, ⟨op1, op2, op3⟩, ncm, ncm1, ncm2, ncm3⟩ := id iS
  simp only [vw] at nc1 nc2 nb1 nb2 nt1 nt2 wk1 wk2 nw1 nw2 op1 op2 ncm2 ncm3
  show Go 1311 124 0 0 0 [.ref (ad 0 0), .int a1, .int a2, .retAddr 0] [] (mm M (mI M) (mJ M)) R
  refine go_blk 2 [] (pc' := 2) (vs' := [.ref (ad 0 0), .int a1, .int a2, .retAddr 0]) (st' := [.int a1, .ref (ad 0 0)]) (M' := mm M (mI M) (mJ M)) (ps := []) rfl trivial ?_
  refine go_callV rfl rfl rfl (by omega) rfl (by decide) (by decide) (hF.o 0) ?_
  refine s_CY_bookingAt (by omega) hF hB nb1 nb3 (fun j1 hj1 hx1 => ⟨ne_a, ?_⟩) (fun c1 => ⟨ne_0, ?_⟩)
  · -- ('r', 'ad 2 j1')
    subst hx1
    show Go 1311 124 0 0 5 [.ref (ad 0 0), .int (nI j1), .int a2, .retAddr 0] [.ref (ad 2 j1)] (mm M (mI M) (mJ M)) R
    refine go_blk 2 [] (pc' := 7) (vs' := [.ref (ad 0 0), .int (nI j1), .int a2, .ref (ad 2 j1)]) (st' := [.ref (ad 2 j1)]) (M' := mm M (mI M) (mJ M)) (ps := []) rfl trivial ?_
    refine go_ifnon1 rfl ?_
    refine go_blk 2 [] (pc' := 16) (vs' := [.ref (ad 0 0), .int (nI j1), .int a2, .ref (ad 2 j1)]) (st' := [.int a2, .ref (ad 2 j1)]) (M' := mm M (mI M) (mJ M)) (ps := []) rfl trivial ?_
    refine go_callV rfl rfl rfl (by omega) rfl (by decide) (by decide) (hB j1 (by assumption)).2 ?_
    show Go (1311 - 1) 9 0 0 0 [.ref (ad 2 j1), .int a2] [] (mm M (mI M) (mJ M)) _
    refine go_blk 1 [] (pc' := 1) (vs' := [.ref (ad 2 j1), .int a2]) (st' := [.int a2]) (M' := mm M (mI M) (mJ M)) (ps := []) rfl trivial ?_
    refine go_tsw rfl ?_
    refine ⟨fun (c2 : a2 = 0) => ?_, fun (c2n : ¬ (a2 = 0)) => ?_⟩
    · -- a2 = 0
      subst c2
      show Go (1311 - 1) 9 0 0 56 [.ref (ad 2 j1), .int 0] [] (mm M (mI M) (mJ M)) _
      refine go_blk 2 [] (pc' := 60) (vs' := [.ref (ad 2 j1), .int 0]) (st' := [.int ((mI M) (ad 2 j1) 0)]) (M' := mm M (mI M) (mJ M)) (ps := [ob (mm M (mI M) (mJ M)) (ad 2 j1) 0]) rfl ⟨(hB j1 (by assumption)).2, trivial⟩ ?_
      refine go_iret rfl rfl ?_
      refine ⟨ne_i, ?_⟩
      show Go 1311 124 0 0 19 [.ref (ad 0 0), .int (nI j1), .int 0, .ref (ad 2 j1)] [.int ((mI M) (ad 2 j1) 0)] (mm M (mI M) (mJ M)) R
      refine go_iret rfl rfl ?_
      refine K _ _ hM.1 rfl (fun R2 h2 => ?_)
      show Go 1311 202 0 0 0 [.ref (ad 10 0), .int (nI j1), .int 0] [] (mm M (mI M) (mJ M)) R2
      refine go_blk 5 [] (pc' := 7) (vs' := [.ref (ad 10 0), .int (nI j1), .int 0]) (st' := [.int (nI j1), .ref (ad 10 0)]) (M' := mm M (up2 (mI M) (ad 10 0) 0 0) (mJ M)) (ps := [ob (mm M (mI M) (mJ M)) (ad 10 0) 12]) rfl ⟨hM.1, trivial⟩ ?_
      refine go_callV rfl rfl rfl (by omega) rfl (by decide) (by decide) hM.1 ?_
      refine s_Mo_isBooking hM (((up2_n _ _ (fun z => absurd z.2 (by decide))).trans (rfl)).trans nb2) (Nat.le_trans nb3 (by decide)) (fun j3 hj3 hx3 => ⟨ne_i, ?_⟩) (fun c3 => ⟨ne_i, ?_⟩)
      · -- 1
        show Go 1311 202 0 0 10 [.ref (ad 10 0), .int (nI j1), .int 0] [.int 1] (mm M (up2 (mI M) (ad 10 0) 0 0) (mJ M)) R2
        refine go_if rfl (fun _ => ?_) (fun (z : ¬ (¬ (1 : Int32) = 0)) => absurd (show ¬ (1 : Int32) = 0 from (by decide)) z)
        refine go_blk 1 [] (pc' := 16) (vs' := [.ref (ad 10 0), .int (nI j1), .int 0]) (st' := [.int 0]) (M' := mm M (up2 (mI M) (ad 10 0) 0 0) (mJ M)) (ps := []) rfl trivial ?_
        refine go_tsw rfl ?_
        refine ⟨fun _ => ?_, fun z => absurd rfl z⟩
        show Go 1311 202 0 0 72 [.ref (ad 10 0), .int (nI j1), .int 0] [] (mm M (up2 (mI M) (ad 10 0) 0 0) (mJ M)) R2
        refine go_blk 4 [some (.ref (ad 9 6)), some (.int ((mI M) (ad 9 6) j1))] (pc' := 78) (vs' := [.ref (ad 10 0), .int (nI j1), .int 0]) (st' := [.int ((mI M) (ad 9 6) j1)]) (M' := mm M (up2 (mI M) (ad 10 0) 0 0) (mJ M)) (ps := [ob (mm M (up2 (mI M) (ad 10 0) 0 0) (mJ M)) (ad 10 0) 12, mR (mm M (up2 (mI M) (ad 10 0) 0 0) (mJ M)) (ad 10 0) 6 = some (ad 9 6), va_rf (some (ad 9 6)) = .ref (ad 9 6), ob (mm M (up2 (mI M) (ad 10 0) 0 0) (mJ M)) (ad 9 6) 15, vp_in (nI j1) (mN (mm M (up2 (mI M) (ad 10 0) 0 0) (mJ M)) (ad 9 6)), (Value.int ((up2 (mI M) (ad 10 0) 0 0) (ad 9 6) ((nI j1).toNatClampNeg))) = .int ((mI M) (ad 9 6) j1)]) rfl ⟨hM.1, (hM.r 6 15 60), rfl, (hM.o 6 15 60), (vpi (hM.n 6 15 60) (by omega)), congrArg Value.int ((congrArg (fun z => (up2 (mI M) (ad 10 0) 0 0) (ad 9 6) z) (nI_clamp (by omega))).trans ((up2_n _ _ (fun z => absurd (hi _ _ _ _ z.1).1 (by decide))).trans (rfl))), trivial⟩ ?_
        refine go_iret rfl rfl ?_
        have e9 : ((mI M) (ad 9 6) j1) = (mI M) (ad 2 j1) 0 := (by simpa [up2_ad hi, vw] using (iB.1 j1 (by assumption)).1.1.symm)
        rw [e9]
        exact h2 _ ⟨hsc, ad, nc, nb, nt, wk, nw, nx, nl, ne, nk, kd, op, rfl, rfl, rfl, hW.thr⟩
      · exact absurd ⟨j1, hj1, rfl⟩ c3
    refine ⟨fun (c4 : a2 = 1) => ?_, fun (c4n : ¬ (a2 = 1)) => ?_⟩
    · -- a2 = 1
      subst c4
      show Go (1311 - 1) 9 0 0 61 [.ref (ad 2 j1), .int 1] [] (mm M (mI M) (mJ M)) _
      refine go_blk 2 [] (pc' := 65) (vs' := [.ref (ad 2 j1), .int 1]) (st' := [.int ((mI M) (ad 2 j1) 1)]) (M' := mm M (mI M) (mJ M)) (ps := [ob (mm M (mI M) (mJ M)) (ad 2 j1) 0]) rfl ⟨(hB j1 (by assumption)).2, trivial⟩ ?_
      refine go_iret rfl rfl ?_
      refine ⟨ne_i, ?_⟩
      show Go 1311 124 0 0 19 [.ref (ad 0 0), .int (nI j1), .int 1, .ref (ad 2 j1)] [.int ((mI M) (ad 2 j1) 1)] (mm M (mI M) (mJ M)) R
      refine go_iret rfl rfl ?_
      refine K _ _ hM.1 rfl (fun R2 h2 => ?_)
      show Go 1311 202 0 0 0 [.ref (ad 10 0), .int (nI j1), .int 1] [] (mm M (mI M) (mJ M)) R2
      refine go_blk 5 [] (pc' := 7) (vs' := [.ref (ad 10 0), .int (nI j1), .int 1]) (st' := [.int (nI j1), .ref (ad 10 0)]) (M' := mm M (up2 (mI M) (ad 10 0) 0 0) (mJ M)) (ps := [ob (mm M (mI M) (mJ M)) (ad 10 0) 12]) rfl ⟨hM.1, trivial⟩ ?_
      refine go_callV rfl rfl rfl (by omega) rfl (by decide) (by decide) hM.1 ?_
      refine s_Mo_isBooking hM (((up2_n _ _ (fun z => absurd z.2 (by decide))).trans (rfl)).trans nb2) (Nat.le_trans nb3 (by decide)) (fun j5 hj5 hx5 => ⟨ne_i, ?_⟩) (fun c5 => ⟨ne_i, ?_⟩)
      · -- 1
        show Go 1311 202 0 0 10 [.ref (ad 10 0), .int (nI j1), .int 1] [.int 1] (mm M (up2 (mI M) (ad 10 0) 0 0) (mJ M)) R2
        refine go_if rfl (fun _ => ?_) (fun (z : ¬ (¬ (1 : Int32) = 0)) => absurd (show ¬ (1 : Int32) = 0 from (by decide)) z)
        refine go_blk 1 [] (pc' := 16) (vs' := [.ref (ad 10 0), .int (nI j1), .int 1]) (st' := [.int 1]) (M' := mm M (up2 (mI M) (ad 10 0) 0 0) (mJ M)) (ps := []) rfl trivial ?_
        refine go_tsw rfl ?_
        refine ⟨fun (z : (1 : Int32) = 0) => absurd z (by decide), fun _ => ?_⟩
        refine ⟨fun _ => ?_, fun z => absurd rfl z⟩
        show Go 1311 202 0 0 79 [.ref (ad 10 0), .int (nI j1), .int 1] [] (mm M (up2 (mI M) (ad 10 0) 0 0) (mJ M)) R2
        refine go_blk 4 [some (.ref (ad 9 7)), some (.int ((mI M) (ad 9 7) j1))] (pc' := 85) (vs' := [.ref (ad 10 0), .int (nI j1), .int 1]) (st' := [.int ((mI M) (ad 9 7) j1)]) (M' := mm M (up2 (mI M) (ad 10 0) 0 0) (mJ M)) (ps := [ob (mm M (up2 (mI M) (ad 10 0) 0 0) (mJ M)) (ad 10 0) 12, mR (mm M (up2 (mI M) (ad 10 0) 0 0) (mJ M)) (ad 10 0) 7 = some (ad 9 7), va_rf (some (ad 9 7)) = .ref (ad 9 7), ob (mm M (up2 (mI M) (ad 10 0) 0 0) (mJ M)) (ad 9 7) 15, vp_in (nI j1) (mN (mm M (up2 (mI M) (ad 10 0) 0 0) (mJ M)) (ad 9 7)), (Value.int ((up2 (mI M) (ad 10 0) 0 0) (ad 9 7) ((nI j1).toNatClampNeg))) = .int ((mI M) (ad 9 7) j1)]) rfl ⟨hM.1, (hM.r 7 15 60), rfl, (hM.o 7 15 60), (vpi (hM.n 7 15 60) (by omega)), congrArg Value.int ((congrArg (fun z => (up2 (mI M) (ad 10 0) 0 0) (ad 9 7) z) (nI_clamp (by omega))).trans ((up2_n _ _ (fun z => absurd (hi _ _ _ _ z.1).1 (by decide))).trans (rfl))), trivial⟩ ?_
        refine go_iret rfl rfl ?_
        have e9 : ((mI M) (ad 9 7) j1) = (mI M) (ad 2 j1) 1 := (by simpa [up2_ad hi, vw] using (iB.1 j1 (by assumption)).1.2.1.symm)
        rw [e9]
        exact h2 _ ⟨hsc, ad, nc, nb, nt, wk, nw, nx, nl, ne, nk, kd, op, rfl, rfl, rfl, hW.thr⟩
      · exact absurd ⟨j1, hj1, rfl⟩ c5
    refine ⟨fun (c6 : a2 = 2) => ?_, fun (c6n : ¬ (a2 = 2)) => ?_⟩
    · -- a2 = 2
      subst c6
      show Go (1311 - 1) 9 0 0 66 [.ref (ad 2 j1), .int 2] [] (mm M (mI M) (mJ M)) _
      refine go_blk 2 [] (pc' := 70) (vs' := [.ref (ad 2 j1), .int 2]) (st' := [.int ((mI M) (ad 2 j1) 2)]) (M' := mm M (mI M) (mJ M)) (ps := [ob (mm M (mI M) (mJ M)) (ad 2 j1) 0]) rfl ⟨(hB j1 (by assumption)).2, trivial⟩ ?_
      refine go_iret rfl rfl ?_
      refine ⟨ne_i, ?_⟩
      show Go 1311 124 0 0 19 [.ref (ad 0 0), .int (nI j1), .int 2, .ref (ad 2 j1)] [.int ((mI M) (ad 2 j1) 2)] (mm M (mI M) (mJ M)) R
      refine go_iret rfl rfl ?_
      refine K _ _ hM.1 rfl (fun R2 h2 => ?_)
      show Go 1311 202 0 0 0 [.ref (ad 10 0), .int (nI j1), .int 2] [] (mm M (mI M) (mJ M)) R2
      refine go_blk 5 [] (pc' := 7) (vs' := [.ref (ad 10 0), .int (nI j1), .int 2]) (st' := [.int (nI j1), .ref (ad 10 0)]) (M' := mm M (up2 (mI M) (ad 10 0) 0 0) (mJ M)) (ps := [ob (mm M (mI M) (mJ M)) (ad 10 0) 12]) rfl ⟨hM.1, trivial⟩ ?_
      refine go_callV rfl rfl rfl (by omega) rfl (by decide) (by decide) hM.1 ?_
      refine s_Mo_isBooking hM (((up2_n _ _ (fun z => absurd z.2 (by decide))).trans (rfl)).trans nb2) (Nat.le_trans nb3 (by decide)) (fun j7 hj7 hx7 => ⟨ne_i, ?_⟩) (fun c7 => ⟨ne_i, ?_⟩)
      · -- 1
        show Go 1311 202 0 0 10 [.ref (ad 10 0), .int (nI j1), .int 2] [.int 1] (mm M (up2 (mI M) (ad 10 0) 0 0) (mJ M)) R2
        refine go_if rfl (fun _ => ?_) (fun (z : ¬ (¬ (1 : Int32) = 0)) => absurd (show ¬ (1 : Int32) = 0 from (by decide)) z)
        refine go_blk 1 [] (pc' := 16) (vs' := [.ref (ad 10 0), .int (nI j1), .int 2]) (st' := [.int 2]) (M' := mm M (up2 (mI M) (ad 10 0) 0 0) (mJ M)) (ps := []) rfl trivial ?_
        refine go_tsw rfl ?_
        refine ⟨fun (z : (2 : Int32) = 0) => absurd z (by decide), fun _ => ?_⟩
        refine ⟨fun (z : (2 : Int32) = 1) => absurd z (by decide), fun _ => ?_⟩
        refine ⟨fun _ => ?_, fun z => absurd rfl z⟩
        show Go 1311 202 0 0 86 [.ref (ad 10 0), .int (nI j1), .int 2] [] (mm M (up2 (mI M) (ad 10 0) 0 0) (mJ M)) R2
        refine go_blk 4 [some (.ref (ad 9 8)), some (.int ((mI M) (ad 9 8) j1))] (pc' := 92) (vs' := [.ref (ad 10 0), .int (nI j1), .int 2]) (st' := [.int ((mI M) (ad 9 8) j1)]) (M' := mm M (up2 (mI M) (ad 10 0) 0 0) (mJ M)) (ps := [ob (mm M (up2 (mI M) (ad 10 0) 0 0) (mJ M)) (ad 10 0) 12, mR (mm M (up2 (mI M) (ad 10 0) 0 0) (mJ M)) (ad 10 0) 8 = some (ad 9 8), va_rf (some (ad 9 8)) = .ref (ad 9 8), ob (mm M (up2 (mI M) (ad 10 0) 0 0) (mJ M)) (ad 9 8) 15, vp_in (nI j1) (mN (mm M (up2 (mI M) (ad 10 0) 0 0) (mJ M)) (ad 9 8)), (Value.int ((up2 (mI M) (ad 10 0) 0 0) (ad 9 8) ((nI j1).toNatClampNeg))) = .int ((mI M) (ad 9 8) j1)]) rfl ⟨hM.1, (hM.r 8 15 60), rfl, (hM.o 8 15 60), (vpi (hM.n 8 15 60) (by omega)), congrArg Value.int ((congrArg (fun z => (up2 (mI M) (ad 10 0) 0 0) (ad 9 8) z) (nI_clamp (by omega))).trans ((up2_n _ _ (fun z => absurd (hi _ _ _ _ z.1).1 (by decide))).trans (rfl))), trivial⟩ ?_
        refine go_iret rfl rfl ?_
        have e9 : ((mI M) (ad 9 8) j1) = (mI M) (ad 2 j1) 2 := (by simpa [up2_ad hi, vw] using (iB.1 j1 (by assumption)).1.2.2.1.symm)
        rw [e9]
        exact h2 _ ⟨hsc, ad, nc, nb, nt, wk, nw, nx, nl, ne, nk, kd, op, rfl, rfl, rfl, hW.thr⟩
      · exact absurd ⟨j1, hj1, rfl⟩ c7
    refine ⟨fun (c8 : a2 = 3) => ?_, fun (c8n : ¬ (a2 = 3)) => ?_⟩
    · -- a2 = 3
      subst c8
      show Go (1311 - 1) 9 0 0 71 [.ref (ad 2 j1), .int 3] [] (mm M (mI M) (mJ M)) _
      refine go_blk 2 [] (pc' := 75) (vs' := [.ref (ad 2 j1), .int 3]) (st' := [.int ((mI M) (ad 2 j1) 3)]) (M' := mm M (mI M) (mJ M)) (ps := [ob (mm M (mI M) (mJ M)) (ad 2 j1) 0]) rfl ⟨(hB j1 (by assumption)).2, trivial⟩ ?_
      refine go_if rfl (fun (c9 : ((mI M) (ad 2 j1) 3) = 0) => ?_) (fun (c9 : ¬ (((mI M) (ad 2 j1) 3) = 0)) => ?_)
      · -- ((mI M) (ad 2 j1) 3) = 0
        refine go_blk 1 [] (pc' := 83) (vs' := [.ref (ad 2 j1), .int 3]) (st' := [.int 0]) (M' := mm M (mI M) (mJ M)) (ps := []) rfl trivial ?_
        refine go_iret rfl rfl ?_
        refine ⟨ne_i, ?_⟩
        show Go 1311 124 0 0 19 [.ref (ad 0 0), .int (nI j1), .int 3, .ref (ad 2 j1)] [.int 0] (mm M (mI M) (mJ M)) R
        refine go_iret rfl rfl ?_
        refine K _ _ hM.1 rfl (fun R2 h2 => ?_)
        show Go 1311 202 0 0 0 [.ref (ad 10 0), .int (nI j1), .int 3] [] (mm M (mI M) (mJ M)) R2
        refine go_blk 5 [] (pc' := 7) (vs' := [.ref (ad 10 0), .int (nI j1), .int 3]) (st' := [.int (nI j1), .ref (ad 10 0)]) (M' := mm M (up2 (mI M) (ad 10 0) 0 0) (mJ M)) (ps := [ob (mm M (mI M) (mJ M)) (ad 10 0) 12]) rfl ⟨hM.1, trivial⟩ ?_
        refine go_callV rfl rfl rfl (by omega) rfl (by decide) (by decide) hM.1 ?_
        refine s_Mo_isBooking hM (((up2_n _ _ (fun z => absurd z.2 (by decide))).trans (rfl)).trans nb2) (Nat.le_trans nb3 (by decide)) (fun j10 hj10 hx10 => ⟨ne_i, ?_⟩) (fun c10 => ⟨ne_i, ?_⟩)
        · -- 1
          show Go 1311 202 0 0 10 [.ref (ad 10 0), .int (nI j1), .int 3] [.int 1] (mm M (up2 (mI M) (ad 10 0) 0 0) (mJ M)) R2
          refine go_if rfl (fun _ => ?_) (fun (z : ¬ (¬ (1 : Int32) = 0)) => absurd (show ¬ (1 : Int32) = 0 from (by decide)) z)
          refine go_blk 1 [] (pc' := 16) (vs' := [.ref (ad 10 0), .int (nI j1), .int 3]) (st' := [.int 3]) (M' := mm M (up2 (mI M) (ad 10 0) 0 0) (mJ M)) (ps := []) rfl trivial ?_
          refine go_tsw rfl ?_
          refine ⟨fun (z : (3 : Int32) = 0) => absurd z (by decide), fun _ => ?_⟩
          refine ⟨fun (z : (3 : Int32) = 1) => absurd z (by decide), fun _ => ?_⟩
          refine ⟨fun (z : (3 : Int32) = 2) => absurd z (by decide), fun _ => ?_⟩
          refine ⟨fun _ => ?_, fun z => absurd rfl z⟩
          show Go 1311 202 0 0 93 [.ref (ad 10 0), .int (nI j1), .int 3] [] (mm M (up2 (mI M) (ad 10 0) 0 0) (mJ M)) R2
          refine go_blk 4 [some (.ref (ad 9 14)), some (.int ((mI M) (ad 9 14) j1))] (pc' := 99) (vs' := [.ref (ad 10 0), .int (nI j1), .int 3]) (st' := [.int ((mI M) (ad 9 14) j1)]) (M' := mm M (up2 (mI M) (ad 10 0) 0 0) (mJ M)) (ps := [ob (mm M (up2 (mI M) (ad 10 0) 0 0) (mJ M)) (ad 10 0) 12, mR (mm M (up2 (mI M) (ad 10 0) 0 0) (mJ M)) (ad 10 0) 14 = some (ad 9 14), va_rf (some (ad 9 14)) = .ref (ad 9 14), ob (mm M (up2 (mI M) (ad 10 0) 0 0) (mJ M)) (ad 9 14) 13, 13 = 13 ∨ 13 = 14, vp_in (nI j1) (mN (mm M (up2 (mI M) (ad 10 0) 0 0) (mJ M)) (ad 9 14)), (Value.int ((up2 (mI M) (ad 10 0) 0 0) (ad 9 14) ((nI j1).toNatClampNeg))) = .int ((mI M) (ad 9 14) j1)]) rfl ⟨hM.1, (hM.r 14 13 60), rfl, (hM.o 14 13 60), (by decide), (vpi (hM.n 14 13 60) (by omega)), congrArg Value.int ((congrArg (fun z => (up2 (mI M) (ad 10 0) 0 0) (ad 9 14) z) (nI_clamp (by omega))).trans ((up2_n _ _ (fun z => absurd (hi _ _ _ _ z.1).1 (by decide))).trans (rfl))), trivial⟩ ?_
          refine go_if rfl (fun (c11 : ((mI M) (ad 9 14) j1) = 0) => ?_) (fun (c11 : ¬ (((mI M) (ad 9 14) j1) = 0)) => ?_)
          · -- ((mI M) (ad 9 14) j1) = 0
            refine go_blk 1 [] (pc' := 107) (vs' := [.ref (ad 10 0), .int (nI j1), .int 3]) (st' := [.int 0]) (M' := mm M (up2 (mI M) (ad 10 0) 0 0) (mJ M)) (ps := []) rfl trivial ?_
            refine go_iret rfl rfl ?_
            exact h2 _ ⟨hsc, ad, nc, nb, nt, wk, nw, nx, nl, ne, nk, kd, op, rfl, rfl, rfl, hW.thr⟩
          · -- ¬ (((mI M) (ad 9 14) j1) = 0)
            refine go_blk 2 [] (pc' := 107) (vs' := [.ref (ad 10 0), .int (nI j1), .int 3]) (st' := [.int 1]) (M' := mm M (up2 (mI M) (ad 10 0) 0 0) (mJ M)) (ps := []) rfl trivial ?_
            refine go_iret rfl rfl ?_
            have hb := (iB.1 j1 (by assumption)).1
            simp only [vw] at hb
            exfalso
            clear K h2 hW hsc jO jR jB jX jL kO kC kD kP kX iC iB iR iL iT iS hC hB hT hX hF hM hi
            grind
        · exact absurd ⟨j1, hj1, rfl⟩ c10
      · -- ¬ (((mI M) (ad 2 j1) 3) = 0)
        refine go_blk 2 [] (pc' := 83) (vs' := [.ref (ad 2 j1), .int 3]) (st' := [.int 1]) (M' := mm M (mI M) (mJ M)) (ps := []) rfl trivial ?_
        refine go_iret rfl rfl ?_
        refine ⟨ne_i, ?_⟩
        show Go 1311 124 0 0 19 [.ref (ad 0 0), .int (nI j1), .int 3, .ref (ad 2 j1)] [.int 1] (mm M (mI M) (mJ M)) R
        refine go_iret rfl rfl ?_
        refine K _ _ hM.1 rfl (fun R2 h2 => ?_)
        show Go 1311 202 0 0 0 [.ref (ad 10 0), .int (nI j1), .int 3] [] (mm M (mI M) (mJ M)) R2
        refine go_blk 5 [] (pc' := 7) (vs' := [.ref (ad 10 0), .int (nI j1), .int 3]) (st' := [.int (nI j1), .ref (ad 10 0)]) (M' := mm M (up2 (mI M) (ad 10 0) 0 0) (mJ M)) (ps := [ob (mm M (mI M) (mJ M)) (ad 10 0) 12]) rfl ⟨hM.1, trivial⟩ ?_
        refine go_callV rfl rfl rfl (by omega) rfl (by decide) (by decide) hM.1 ?_
        refine s_Mo_isBooking hM (((up2_n _ _ (fun z => absurd z.2 (by decide))).trans (rfl)).trans nb2) (Nat.le_trans nb3 (by decide)) (fun j12 hj12 hx12 => ⟨ne_i, ?_⟩) (fun c12 => ⟨ne_i, ?_⟩)
        · -- 1
          show Go 1311 202 0 0 10 [.ref (ad 10 0), .int (nI j1), .int 3] [.int 1] (mm M (up2 (mI M) (ad 10 0) 0 0) (mJ M)) R2
          refine go_if rfl (fun _ => ?_) (fun (z : ¬ (¬ (1 : Int32) = 0)) => absurd (show ¬ (1 : Int32) = 0 from (by decide)) z)
          refine go_blk 1 [] (pc' := 16) (vs' := [.ref (ad 10 0), .int (nI j1), .int 3]) (st' := [.int 3]) (M' := mm M (up2 (mI M) (ad 10 0) 0 0) (mJ M)) (ps := []) rfl trivial ?_
          refine go_tsw rfl ?_
          refine ⟨fun (z : (3 : Int32) = 0) => absurd z (by decide), fun _ => ?_⟩
          refine ⟨fun (z : (3 : Int32) = 1) => absurd z (by decide), fun _ => ?_⟩
          refine ⟨fun (z : (3 : Int32) = 2) => absurd z (by decide), fun _ => ?_⟩
          refine ⟨fun _ => ?_, fun z => absurd rfl z⟩
          show Go 1311 202 0 0 93 [.ref (ad 10 0), .int (nI j1), .int 3] [] (mm M (up2 (mI M) (ad 10 0) 0 0) (mJ M)) R2
          refine go_blk 4 [some (.ref (ad 9 14)), some (.int ((mI M) (ad 9 14) j1))] (pc' := 99) (vs' := [.ref (ad 10 0), .int (nI j1), .int 3]) (st' := [.int ((mI M) (ad 9 14) j1)]) (M' := mm M (up2 (mI M) (ad 10 0) 0 0) (mJ M)) (ps := [ob (mm M (up2 (mI M) (ad 10 0) 0 0) (mJ M)) (ad 10 0) 12, mR (mm M (up2 (mI M) (ad 10 0) 0 0) (mJ M)) (ad 10 0) 14 = some (ad 9 14), va_rf (some (ad 9 14)) = .ref (ad 9 14), ob (mm M (up2 (mI M) (ad 10 0) 0 0) (mJ M)) (ad 9 14) 13, 13 = 13 ∨ 13 = 14, vp_in (nI j1) (mN (mm M (up2 (mI M) (ad 10 0) 0 0) (mJ M)) (ad 9 14)), (Value.int ((up2 (mI M) (ad 10 0) 0 0) (ad 9 14) ((nI j1).toNatClampNeg))) = .int ((mI M) (ad 9 14) j1)]) rfl ⟨hM.1, (hM.r 14 13 60), rfl, (hM.o 14 13 60), (by decide), (vpi (hM.n 14 13 60) (by omega)), congrArg Value.int ((congrArg (fun z => (up2 (mI M) (ad 10 0) 0 0) (ad 9 14) z) (nI_clamp (by omega))).trans ((up2_n _ _ (fun z => absurd (hi _ _ _ _ z.1).1 (by decide))).trans (rfl))), trivial⟩ ?_
          refine go_if rfl (fun (c13 : ((mI M) (ad 9 14) j1) = 0) => ?_) (fun (c13 : ¬ (((mI M) (ad 9 14) j1) = 0)) => ?_)
          · -- ((mI M) (ad 9 14) j1) = 0
            refine go_blk 1 [] (pc' := 107) (vs' := [.ref (ad 10 0), .int (nI j1), .int 3]) (st' := [.int 0]) (M' := mm M (up2 (mI M) (ad 10 0) 0 0) (mJ M)) (ps := []) rfl trivial ?_
            refine go_iret rfl rfl ?_
            have hb := (iB.1 j1 (by assumption)).1
            simp only [vw] at hb
            exfalso
            clear K h2 hW hsc jO jR jB jX jL kO kC kD kP kX iC iB iR iL iT iS hC hB hT hX hF hM hi
            grind
          · -- ¬ (((mI M) (ad 9 14) j1) = 0)
            refine go_blk 2 [] (pc' := 107) (vs' := [.ref (ad 10 0), .int (nI j1), .int 3]) (st' := [.int 1]) (M' := mm M (up2 (mI M) (ad 10 0) 0 0) (mJ M)) (ps := []) rfl trivial ?_
            refine go_iret rfl rfl ?_
            exact h2 _ ⟨hsc, ad, nc, nb, nt, wk, nw, nx, nl, ne, nk, kd, op, rfl, rfl, rfl, hW.thr⟩
        · exact absurd ⟨j1, hj1, rfl⟩ c12
    refine ⟨fun (c14 : a2 = 4) => ?_, fun (c14n : ¬ (a2 = 4)) => ?_⟩
    · -- a2 = 4
      subst c14
      show Go (1311 - 1) 9 0 0 84 [.ref (ad 2 j1), .int 4] [] (mm M (mI M) (mJ M)) _
      refine go_blk 2 [] (pc' := 88) (vs' := [.ref (ad 2 j1), .int 4]) (st' := [.int ((mI M) (ad 2 j1) 4)]) (M' := mm M (mI M) (mJ M)) (ps := [ob (mm M (mI M) (mJ M)) (ad 2 j1) 0]) rfl ⟨(hB j1 (by assumption)).2, trivial⟩ ?_
      refine go_iret rfl rfl ?_
      refine ⟨ne_i, ?_⟩
      show Go 1311 124 0 0 19 [.ref (ad 0 0), .int (nI j1), .int 4, .ref (ad 2 j1)] [.int ((mI M) (ad 2 j1) 4)] (mm M (mI M) (mJ M)) R
      refine go_iret rfl rfl ?_
      refine K _ _ hM.1 rfl (fun R2 h2 => ?_)
      show Go 1311 202 0 0 0 [.ref (ad 10 0), .int (nI j1), .int 4] [] (mm M (mI M) (mJ M)) R2
      refine go_blk 5 [] (pc' := 7) (vs' := [.ref (ad 10 0), .int (nI j1), .int 4]) (st' := [.int (nI j1), .ref (ad 10 0)]) (M' := mm M (up2 (mI M) (ad 10 0) 0 0) (mJ M)) (ps := [ob (mm M (mI M) (mJ M)) (ad 10 0) 12]) rfl ⟨hM.1, trivial⟩ ?_
      refine go_callV rfl rfl rfl (by omega) rfl (by decide) (by decide) hM.1 ?_
      refine s_Mo_isBooking hM (((up2_n _ _ (fun z => absurd z.2 (by decide))).trans (rfl)).trans nb2) (Nat.le_trans nb3 (by decide)) (fun j15 hj15 hx15 => ⟨ne_i, ?_⟩) (fun c15 => ⟨ne_i, ?_⟩)
      · -- 1
        show Go 1311 202 0 0 10 [.ref (ad 10 0), .int (nI j1), .int 4] [.int 1] (mm M (up2 (mI M) (ad 10 0) 0 0) (mJ M)) R2
        refine go_if rfl (fun _ => ?_) (fun (z : ¬ (¬ (1 : Int32) = 0)) => absurd (show ¬ (1 : Int32) = 0 from (by decide)) z)
        refine go_blk 1 [] (pc' := 16) (vs' := [.ref (ad 10 0), .int (nI j1), .int 4]) (st' := [.int 4]) (M' := mm M (up2 (mI M) (ad 10 0) 0 0) (mJ M)) (ps := []) rfl trivial ?_
        refine go_tsw rfl ?_
        refine ⟨fun (z : (4 : Int32) = 0) => absurd z (by decide), fun _ => ?_⟩
        refine ⟨fun (z : (4 : Int32) = 1) => absurd z (by decide), fun _ => ?_⟩
        refine ⟨fun (z : (4 : Int32) = 2) => absurd z (by decide), fun _ => ?_⟩
        refine ⟨fun (z : (4 : Int32) = 3) => absurd z (by decide), fun _ => ?_⟩
        refine ⟨fun _ => ?_, fun z => absurd rfl z⟩
        show Go 1311 202 0 0 108 [.ref (ad 10 0), .int (nI j1), .int 4] [] (mm M (up2 (mI M) (ad 10 0) 0 0) (mJ M)) R2
        refine go_blk 4 [some (.ref (ad 9 9)), some (.int ((mI M) (ad 9 9) j1))] (pc' := 114) (vs' := [.ref (ad 10 0), .int (nI j1), .int 4]) (st' := [.int ((mI M) (ad 9 9) j1)]) (M' := mm M (up2 (mI M) (ad 10 0) 0 0) (mJ M)) (ps := [ob (mm M (up2 (mI M) (ad 10 0) 0 0) (mJ M)) (ad 10 0) 12, mR (mm M (up2 (mI M) (ad 10 0) 0 0) (mJ M)) (ad 10 0) 9 = some (ad 9 9), va_rf (some (ad 9 9)) = .ref (ad 9 9), ob (mm M (up2 (mI M) (ad 10 0) 0 0) (mJ M)) (ad 9 9) 15, vp_in (nI j1) (mN (mm M (up2 (mI M) (ad 10 0) 0 0) (mJ M)) (ad 9 9)), (Value.int ((up2 (mI M) (ad 10 0) 0 0) (ad 9 9) ((nI j1).toNatClampNeg))) = .int ((mI M) (ad 9 9) j1)]) rfl ⟨hM.1, (hM.r 9 15 60), rfl, (hM.o 9 15 60), (vpi (hM.n 9 15 60) (by omega)), congrArg Value.int ((congrArg (fun z => (up2 (mI M) (ad 10 0) 0 0) (ad 9 9) z) (nI_clamp (by omega))).trans ((up2_n _ _ (fun z => absurd (hi _ _ _ _ z.1).1 (by decide))).trans (rfl))), trivial⟩ ?_
        refine go_iret rfl rfl ?_
        have e9 : ((mI M) (ad 9 9) j1) = (mI M) (ad 2 j1) 4 := (by simpa [up2_ad hi, vw] using (iB.1 j1 (by assumption)).1.2.2.2.2.1.symm)
        rw [e9]
        exact h2 _ ⟨hsc, ad, nc, nb, nt, wk, nw, nx, nl, ne, nk, kd, op, rfl, rfl, rfl, hW.thr⟩
      · exact absurd ⟨j1, hj1, rfl⟩ c15
    refine ⟨fun (c16 : a2 = 5) => ?_, fun (c16n : ¬ (a2 = 5)) => ?_⟩
    · -- a2 = 5
      subst c16
      show Go (1311 - 1) 9 0 0 89 [.ref (ad 2 j1), .int 5] [] (mm M (mI M) (mJ M)) _
      refine go_blk 2 [] (pc' := 93) (vs' := [.ref (ad 2 j1), .int 5]) (st' := [.int ((mI M) (ad 2 j1) 5)]) (M' := mm M (mI M) (mJ M)) (ps := [ob (mm M (mI M) (mJ M)) (ad 2 j1) 0]) rfl ⟨(hB j1 (by assumption)).2, trivial⟩ ?_
      refine go_iret rfl rfl ?_
      refine ⟨ne_i, ?_⟩
      show Go 1311 124 0 0 19 [.ref (ad 0 0), .int (nI j1), .int 5, .ref (ad 2 j1)] [.int ((mI M) (ad 2 j1) 5)] (mm M (mI M) (mJ M)) R
      refine go_iret rfl rfl ?_
      refine K _ _ hM.1 rfl (fun R2 h2 => ?_)
      show Go 1311 202 0 0 0 [.ref (ad 10 0), .int (nI j1), .int 5] [] (mm M (mI M) (mJ M)) R2
      refine go_blk 5 [] (pc' := 7) (vs' := [.ref (ad 10 0), .int (nI j1), .int 5]) (st' := [.int (nI j1), .ref (ad 10 0)]) (M' := mm M (up2 (mI M) (ad 10 0) 0 0) (mJ M)) (ps := [ob (mm M (mI M) (mJ M)) (ad 10 0) 12]) rfl ⟨hM.1, trivial⟩ ?_
      refine go_callV rfl rfl rfl (by omega) rfl (by decide) (by decide) hM.1 ?_
      refine s_Mo_isBooking hM (((up2_n _ _ (fun z => absurd z.2 (by decide))).trans (rfl)).trans nb2) (Nat.le_trans nb3 (by decide)) (fun j17 hj17 hx17 => ⟨ne_i, ?_⟩) (fun c17 => ⟨ne_i, ?_⟩)
      · -- 1
        show Go 1311 202 0 0 10 [.ref (ad 10 0), .int (nI j1), .int 5] [.int 1] (mm M (up2 (mI M) (ad 10 0) 0 0) (mJ M)) R2
        refine go_if rfl (fun _ => ?_) (fun (z : ¬ (¬ (1 : Int32) = 0)) => absurd (show ¬ (1 : Int32) = 0 from (by decide)) z)
        refine go_blk 1 [] (pc' := 16) (vs' := [.ref (ad 10 0), .int (nI j1), .int 5]) (st' := [.int 5]) (M' := mm M (up2 (mI M) (ad 10 0) 0 0) (mJ M)) (ps := []) rfl trivial ?_
        refine go_tsw rfl ?_
        refine ⟨fun (z : (5 : Int32) = 0) => absurd z (by decide), fun _ => ?_⟩
        refine ⟨fun (z : (5 : Int32) = 1) => absurd z (by decide), fun _ => ?_⟩
        refine ⟨fun (z : (5 : Int32) = 2) => absurd z (by decide), fun _ => ?_⟩
        refine ⟨fun (z : (5 : Int32) = 3) => absurd z (by decide), fun _ => ?_⟩
        refine ⟨fun (z : (5 : Int32) = 4) => absurd z (by decide), fun _ => ?_⟩
        refine ⟨fun _ => ?_, fun z => absurd rfl z⟩
        show Go 1311 202 0 0 115 [.ref (ad 10 0), .int (nI j1), .int 5] [] (mm M (up2 (mI M) (ad 10 0) 0 0) (mJ M)) R2
        refine go_blk 4 [some (.ref (ad 9 10)), some (.int ((mI M) (ad 9 10) j1))] (pc' := 121) (vs' := [.ref (ad 10 0), .int (nI j1), .int 5]) (st' := [.int ((mI M) (ad 9 10) j1)]) (M' := mm M (up2 (mI M) (ad 10 0) 0 0) (mJ M)) (ps := [ob (mm M (up2 (mI M) (ad 10 0) 0 0) (mJ M)) (ad 10 0) 12, mR (mm M (up2 (mI M) (ad 10 0) 0 0) (mJ M)) (ad 10 0) 10 = some (ad 9 10), va_rf (some (ad 9 10)) = .ref (ad 9 10), ob (mm M (up2 (mI M) (ad 10 0) 0 0) (mJ M)) (ad 9 10) 15, vp_in (nI j1) (mN (mm M (up2 (mI M) (ad 10 0) 0 0) (mJ M)) (ad 9 10)), (Value.int ((up2 (mI M) (ad 10 0) 0 0) (ad 9 10) ((nI j1).toNatClampNeg))) = .int ((mI M) (ad 9 10) j1)]) rfl ⟨hM.1, (hM.r 10 15 60), rfl, (hM.o 10 15 60), (vpi (hM.n 10 15 60) (by omega)), congrArg Value.int ((congrArg (fun z => (up2 (mI M) (ad 10 0) 0 0) (ad 9 10) z) (nI_clamp (by omega))).trans ((up2_n _ _ (fun z => absurd (hi _ _ _ _ z.1).1 (by decide))).trans (rfl))), trivial⟩ ?_
        refine go_iret rfl rfl ?_
        have e9 : ((mI M) (ad 9 10) j1) = (mI M) (ad 2 j1) 5 := (by simpa [up2_ad hi, vw] using (iB.1 j1 (by assumption)).1.2.2.2.2.2.1.symm)
        rw [e9]
        exact h2 _ ⟨hsc, ad, nc, nb, nt, wk, nw, nx, nl, ne, nk, kd, op, rfl, rfl, rfl, hW.thr⟩
      · exact absurd ⟨j1, hj1, rfl⟩ c17
    refine ⟨fun (c18 : a2 = 6) => ?_, fun (c18n : ¬ (a2 = 6)) => ?_⟩
    · -- a2 = 6
      subst c18
      show Go (1311 - 1) 9 0 0 94 [.ref (ad 2 j1), .int 6] [] (mm M (mI M) (mJ M)) _
      refine go_blk 2 [] (pc' := 98) (vs' := [.ref (ad 2 j1), .int 6]) (st' := [.int ((mI M) (ad 2 j1) 6)]) (M' := mm M (mI M) (mJ M)) (ps := [ob (mm M (mI M) (mJ M)) (ad 2 j1) 0]) rfl ⟨(hB j1 (by assumption)).2, trivial⟩ ?_
      refine go_if rfl (fun (c19 : ((mI M) (ad 2 j1) 6) = 0) => ?_) (fun (c19 : ¬ (((mI M) (ad 2 j1) 6) = 0)) => ?_)
      · -- ((mI M) (ad 2 j1) 6) = 0
        refine go_blk 1 [] (pc' := 106) (vs' := [.ref (ad 2 j1), .int 6]) (st' := [.int 0]) (M' := mm M (mI M) (mJ M)) (ps := []) rfl trivial ?_
        refine go_iret rfl rfl ?_
        refine ⟨ne_i, ?_⟩
        show Go 1311 124 0 0 19 [.ref (ad 0 0), .int (nI j1), .int 6, .ref (ad 2 j1)] [.int 0] (mm M (mI M) (mJ M)) R
        refine go_iret rfl rfl ?_
        refine K _ _ hM.1 rfl (fun R2 h2 => ?_)
        show Go 1311 202 0 0 0 [.ref (ad 10 0), .int (nI j1), .int 6] [] (mm M (mI M) (mJ M)) R2
        refine go_blk 5 [] (pc' := 7) (vs' := [.ref (ad 10 0), .int (nI j1), .int 6]) (st' := [.int (nI j1), .ref (ad 10 0)]) (M' := mm M (up2 (mI M) (ad 10 0) 0 0) (mJ M)) (ps := [ob (mm M (mI M) (mJ M)) (ad 10 0) 12]) rfl ⟨hM.1, trivial⟩ ?_
        refine go_callV rfl rfl rfl (by omega) rfl (by decide) (by decide) hM.1 ?_
        refine s_Mo_isBooking hM (((up2_n _ _ (fun z => absurd z.2 (by decide))).trans (rfl)).trans nb2) (Nat.le_trans nb3 (by decide)) (fun j20 hj20 hx20 => ⟨ne_i, ?_⟩) (fun c20 => ⟨ne_i, ?_⟩)
        · -- 1
          show Go 1311 202 0 0 10 [.ref (ad 10 0), .int (nI j1), .int 6] [.int 1] (mm M (up2 (mI M) (ad 10 0) 0 0) (mJ M)) R2
          refine go_if rfl (fun _ => ?_) (fun (z : ¬ (¬ (1 : Int32) = 0)) => absurd (show ¬ (1 : Int32) = 0 from (by decide)) z)
          refine go_blk 1 [] (pc' := 16) (vs' := [.ref (ad 10 0), .int (nI j1), .int 6]) (st' := [.int 6]) (M' := mm M (up2 (mI M) (ad 10 0) 0 0) (mJ M)) (ps := []) rfl trivial ?_
          refine go_tsw rfl ?_
          refine ⟨fun (z : (6 : Int32) = 0) => absurd z (by decide), fun _ => ?_⟩
          refine ⟨fun (z : (6 : Int32) = 1) => absurd z (by decide), fun _ => ?_⟩
          refine ⟨fun (z : (6 : Int32) = 2) => absurd z (by decide), fun _ => ?_⟩
          refine ⟨fun (z : (6 : Int32) = 3) => absurd z (by decide), fun _ => ?_⟩
          refine ⟨fun (z : (6 : Int32) = 4) => absurd z (by decide), fun _ => ?_⟩
          refine ⟨fun (z : (6 : Int32) = 5) => absurd z (by decide), fun _ => ?_⟩
          refine ⟨fun _ => ?_, fun z => absurd rfl z⟩
          show Go 1311 202 0 0 122 [.ref (ad 10 0), .int (nI j1), .int 6] [] (mm M (up2 (mI M) (ad 10 0) 0 0) (mJ M)) R2
          refine go_blk 4 [some (.ref (ad 9 15)), some (.int ((mI M) (ad 9 15) j1))] (pc' := 128) (vs' := [.ref (ad 10 0), .int (nI j1), .int 6]) (st' := [.int ((mI M) (ad 9 15) j1)]) (M' := mm M (up2 (mI M) (ad 10 0) 0 0) (mJ M)) (ps := [ob (mm M (up2 (mI M) (ad 10 0) 0 0) (mJ M)) (ad 10 0) 12, mR (mm M (up2 (mI M) (ad 10 0) 0 0) (mJ M)) (ad 10 0) 15 = some (ad 9 15), va_rf (some (ad 9 15)) = .ref (ad 9 15), ob (mm M (up2 (mI M) (ad 10 0) 0 0) (mJ M)) (ad 9 15) 13, 13 = 13 ∨ 13 = 14, vp_in (nI j1) (mN (mm M (up2 (mI M) (ad 10 0) 0 0) (mJ M)) (ad 9 15)), (Value.int ((up2 (mI M) (ad 10 0) 0 0) (ad 9 15) ((nI j1).toNatClampNeg))) = .int ((mI M) (ad 9 15) j1)]) rfl ⟨hM.1, (hM.r 15 13 60), rfl, (hM.o 15 13 60), (by decide), (vpi (hM.n 15 13 60) (by omega)), congrArg Value.int ((congrArg (fun z => (up2 (mI M) (ad 10 0) 0 0) (ad 9 15) z) (nI_clamp (by omega))).trans ((up2_n _ _ (fun z => absurd (hi _ _ _ _ z.1).1 (by decide))).trans (rfl))), trivial⟩ ?_
          refine go_if rfl (fun (c21 : ((mI M) (ad 9 15) j1) = 0) => ?_) (fun (c21 : ¬ (((mI M) (ad 9 15) j1) = 0)) => ?_)
          · -- ((mI M) (ad 9 15) j1) = 0
            refine go_blk 1 [] (pc' := 136) (vs' := [.ref (ad 10 0), .int (nI j1), .int 6]) (st' := [.int 0]) (M' := mm M (up2 (mI M) (ad 10 0) 0 0) (mJ M)) (ps := []) rfl trivial ?_
            refine go_iret rfl rfl ?_
            exact h2 _ ⟨hsc, ad, nc, nb, nt, wk, nw, nx, nl, ne, nk, kd, op, rfl, rfl, rfl, hW.thr⟩
          · -- ¬ (((mI M) (ad 9 15) j1) = 0)
            refine go_blk 2 [] (pc' := 136) (vs' := [.ref (ad 10 0), .int (nI j1), .int 6]) (st' := [.int 1]) (M' := mm M (up2 (mI M) (ad 10 0) 0 0) (mJ M)) (ps := []) rfl trivial ?_
            refine go_iret rfl rfl ?_
            have hb := (iB.1 j1 (by assumption)).1
            simp only [vw] at hb
            exfalso
            clear K h2 hW hsc jO jR jB jX jL kO kC kD kP kX iC iB iR iL iT iS hC hB hT hX hF hM hi
            grind
        · exact absurd ⟨j1, hj1, rfl⟩ c20
      · -- ¬ (((mI M) (ad 2 j1) 6) = 0)
        refine go_blk 2 [] (pc' := 106) (vs' := [.ref (ad 2 j1), .int 6]) (st' := [.int 1]) (M' := mm M (mI M) (mJ M)) (ps := []) rfl trivial ?_
        refine go_iret rfl rfl ?_
        refine ⟨ne_i, ?_⟩
        show Go 1311 124 0 0 19 [.ref (ad 0 0), .int (nI j1), .int 6, .ref (ad 2 j1)] [.int 1] (mm M (mI M) (mJ M)) R
        refine go_iret rfl rfl ?_
        refine K _ _ hM.1 rfl (fun R2 h2 => ?_)
        show Go 1311 202 0 0 0 [.ref (ad 10 0), .int (nI j1), .int 6] [] (mm M (mI M) (mJ M)) R2
        refine go_blk 5 [] (pc' := 7) (vs' := [.ref (ad 10 0), .int (nI j1), .int 6]) (st' := [.int (nI j1), .ref (ad 10 0)]) (M' := mm M (up2 (mI M) (ad 10 0) 0 0) (mJ M)) (ps := [ob (mm M (mI M) (mJ M)) (ad 10 0) 12]) rfl ⟨hM.1, trivial⟩ ?_
        refine go_callV rfl rfl rfl (by omega) rfl (by decide) (by decide) hM.1 ?_
        refine s_Mo_isBooking hM (((up2_n _ _ (fun z => absurd z.2 (by decide))).trans (rfl)).trans nb2) (Nat.le_trans nb3 (by decide)) (fun j22 hj22 hx22 => ⟨ne_i, ?_⟩) (fun c22 => ⟨ne_i, ?_⟩)
        · -- 1
          show Go 1311 202 0 0 10 [.ref (ad 10 0), .int (nI j1), .int 6] [.int 1] (mm M (up2 (mI M) (ad 10 0) 0 0) (mJ M)) R2
          refine go_if rfl (fun _ => ?_) (fun (z : ¬ (¬ (1 : Int32) = 0)) => absurd (show ¬ (1 : Int32) = 0 from (by decide)) z)
          refine go_blk 1 [] (pc' := 16) (vs' := [.ref (ad 10 0), .int (nI j1), .int 6]) (st' := [.int 6]) (M' := mm M (up2 (mI M) (ad 10 0) 0 0) (mJ M)) (ps := []) rfl trivial ?_
          refine go_tsw rfl ?_
          refine ⟨fun (z : (6 : Int32) = 0) => absurd z (by decide), fun _ => ?_⟩
          refine ⟨fun (z : (6 : Int32) = 1) => absurd z (by decide), fun _ => ?_⟩
          refine ⟨fun (z : (6 : Int32) = 2) => absurd z (by decide), fun _ => ?_⟩
          refine ⟨fun (z : (6 : Int32) = 3) => absurd z (by decide), fun _ => ?_⟩
          refine ⟨fun (z : (6 : Int32) = 4) => absurd z (by decide), fun _ => ?_⟩
          refine ⟨fun (z : (6 : Int32) = 5) => absurd z (by decide), fun _ => ?_⟩
          refine ⟨fun _ => ?_, fun z => absurd rfl z⟩
          show Go 1311 202 0 0 122 [.ref (ad 10 0), .int (nI j1), .int 6] [] (mm M (up2 (mI M) (ad 10 0) 0 0) (mJ M)) R2
          refine go_blk 4 [some (.ref (ad 9 15)), some (.int ((mI M) (ad 9 15) j1))] (pc' := 128) (vs' := [.ref (ad 10 0), .int (nI j1), .int 6]) (st' := [.int ((mI M) (ad 9 15) j1)]) (M' := mm M (up2 (mI M) (ad 10 0) 0 0) (mJ M)) (ps := [ob (mm M (up2 (mI M) (ad 10 0) 0 0) (mJ M)) (ad 10 0) 12, mR (mm M (up2 (mI M) (ad 10 0) 0 0) (mJ M)) (ad 10 0) 15 = some (ad 9 15), va_rf (some (ad 9 15)) = .ref (ad 9 15), ob (mm M (up2 (mI M) (ad 10 0) 0 0) (mJ M)) (ad 9 15) 13, 13 = 13 ∨ 13 = 14, vp_in (nI j1) (mN (mm M (up2 (mI M) (ad 10 0) 0 0) (mJ M)) (ad 9 15)), (Value.int ((up2 (mI M) (ad 10 0) 0 0) (ad 9 15) ((nI j1).toNatClampNeg))) = .int ((mI M) (ad 9 15) j1)]) rfl ⟨hM.1, (hM.r 15 13 60), rfl, (hM.o 15 13 60), (by decide), (vpi (hM.n 15 13 60) (by omega)), congrArg Value.int ((congrArg (fun z => (up2 (mI M) (ad 10 0) 0 0) (ad 9 15) z) (nI_clamp (by omega))).trans ((up2_n _ _ (fun z => absurd (hi _ _ _ _ z.1).1 (by decide))).trans (rfl))), trivial⟩ ?_
          refine go_if rfl (fun (c23 : ((mI M) (ad 9 15) j1) = 0) => ?_) (fun (c23 : ¬ (((mI M) (ad 9 15) j1) = 0)) => ?_)
          · -- ((mI M) (ad 9 15) j1) = 0
            refine go_blk 1 [] (pc' := 136) (vs' := [.ref (ad 10 0), .int (nI j1), .int 6]) (st' := [.int 0]) (M' := mm M (up2 (mI M) (ad 10 0) 0 0) (mJ M)) (ps := []) rfl trivial ?_
            refine go_iret rfl rfl ?_
            have hb := (iB.1 j1 (by assumption)).1
            simp only [vw] at hb
            exfalso
            clear K h2 hW hsc jO jR jB jX jL kO kC kD kP kX iC iB iR iL iT iS hC hB hT hX hF hM hi
            grind
          · -- ¬ (((mI M) (ad 9 15) j1) = 0)
            refine go_blk 2 [] (pc' := 136) (vs' := [.ref (ad 10 0), .int (nI j1), .int 6]) (st' := [.int 1]) (M' := mm M (up2 (mI M) (ad 10 0) 0 0) (mJ M)) (ps := []) rfl trivial ?_
            refine go_iret rfl rfl ?_
            exact h2 _ ⟨hsc, ad, nc, nb, nt, wk, nw, nx, nl, ne, nk, kd, op, rfl, rfl, rfl, hW.thr⟩
        · exact absurd ⟨j1, hj1, rfl⟩ c22
    refine ⟨fun (c24 : a2 = 7) => ?_, fun (c24n : ¬ (a2 = 7)) => ?_⟩
    · -- a2 = 7
      subst c24
      show Go (1311 - 1) 9 0 0 107 [.ref (ad 2 j1), .int 7] [] (mm M (mI M) (mJ M)) _
      refine go_blk 2 [] (pc' := 111) (vs' := [.ref (ad 2 j1), .int 7]) (st' := [.int ((mI M) (ad 2 j1) 7)]) (M' := mm M (mI M) (mJ M)) (ps := [ob (mm M (mI M) (mJ M)) (ad 2 j1) 0]) rfl ⟨(hB j1 (by assumption)).2, trivial⟩ ?_
      refine go_if rfl (fun (c25 : ((mI M) (ad 2 j1) 7) = 0) => ?_) (fun (c25 : ¬ (((mI M) (ad 2 j1) 7) = 0)) => ?_)
      · -- ((mI M) (ad 2 j1) 7) = 0
        refine go_blk 1 [] (pc' := 119) (vs' := [.ref (ad 2 j1), .int 7]) (st' := [.int 0]) (M' := mm M (mI M) (mJ M)) (ps := []) rfl trivial ?_
        refine go_iret rfl rfl ?_
        refine ⟨ne_i, ?_⟩
        show Go 1311 124 0 0 19 [.ref (ad 0 0), .int (nI j1), .int 7, .ref (ad 2 j1)] [.int 0] (mm M (mI M) (mJ M)) R
        refine go_iret rfl rfl ?_
        refine K _ _ hM.1 rfl (fun R2 h2 => ?_)
        show Go 1311 202 0 0 0 [.ref (ad 10 0), .int (nI j1), .int 7] [] (mm M (mI M) (mJ M)) R2
        refine go_blk 5 [] (pc' := 7) (vs' := [.ref (ad 10 0), .int (nI j1), .int 7]) (st' := [.int (nI j1), .ref (ad 10 0)]) (M' := mm M (up2 (mI M) (ad 10 0) 0 0) (mJ M)) (ps := [ob (mm M (mI M) (mJ M)) (ad 10 0) 12]) rfl ⟨hM.1, trivial⟩ ?_
        refine go_callV rfl rfl rfl (by omega) rfl (by decide) (by decide) hM.1 ?_
        refine s_Mo_isBooking hM (((up2_n _ _ (fun z => absurd z.2 (by decide))).trans (rfl)).trans nb2) (Nat.le_trans nb3 (by decide)) (fun j26 hj26 hx26 => ⟨ne_i, ?_⟩) (fun c26 => ⟨ne_i, ?_⟩)
        · -- 1
          show Go 1311 202 0 0 10 [.ref (ad 10 0), .int (nI j1), .int 7] [.int 1] (mm M (up2 (mI M) (ad 10 0) 0 0) (mJ M)) R2
          refine go_if rfl (fun _ => ?_) (fun (z : ¬ (¬ (1 : Int32) = 0)) => absurd (show ¬ (1 : Int32) = 0 from (by decide)) z)
          refine go_blk 1 [] (pc' := 16) (vs' := [.ref (ad 10 0), .int (nI j1), .int 7]) (st' := [.int 7]) (M' := mm M (up2 (mI M) (ad 10 0) 0 0) (mJ M)) (ps := []) rfl trivial ?_
          refine go_tsw rfl ?_
          refine ⟨fun (z : (7 : Int32) = 0) => absurd z (by decide), fun _ => ?_⟩
          refine ⟨fun (z : (7 : Int32) = 1) => absurd z (by decide), fun _ => ?_⟩
          refine ⟨fun (z : (7 : Int32) = 2) => absurd z (by decide), fun _ => ?_⟩
          refine ⟨fun (z : (7 : Int32) = 3) => absurd z (by decide), fun _ => ?_⟩
          refine ⟨fun (z : (7 : Int32) = 4) => absurd z (by decide), fun _ => ?_⟩
          refine ⟨fun (z : (7 : Int32) = 5) => absurd z (by decide), fun _ => ?_⟩
          refine ⟨fun (z : (7 : Int32) = 6) => absurd z (by decide), fun _ => ?_⟩
          refine ⟨fun _ => ?_, fun z => absurd rfl z⟩
          show Go 1311 202 0 0 137 [.ref (ad 10 0), .int (nI j1), .int 7] [] (mm M (up2 (mI M) (ad 10 0) 0 0) (mJ M)) R2
          refine go_blk 4 [some (.ref (ad 9 16)), some (.int ((mI M) (ad 9 16) j1))] (pc' := 143) (vs' := [.ref (ad 10 0), .int (nI j1), .int 7]) (st' := [.int ((mI M) (ad 9 16) j1)]) (M' := mm M (up2 (mI M) (ad 10 0) 0 0) (mJ M)) (ps := [ob (mm M (up2 (mI M) (ad 10 0) 0 0) (mJ M)) (ad 10 0) 12, mR (mm M (up2 (mI M) (ad 10 0) 0 0) (mJ M)) (ad 10 0) 16 = some (ad 9 16), va_rf (some (ad 9 16)) = .ref (ad 9 16), ob (mm M (up2 (mI M) (ad 10 0) 0 0) (mJ M)) (ad 9 16) 13, 13 = 13 ∨ 13 = 14, vp_in (nI j1) (mN (mm M (up2 (mI M) (ad 10 0) 0 0) (mJ M)) (ad 9 16)), (Value.int ((up2 (mI M) (ad 10 0) 0 0) (ad 9 16) ((nI j1).toNatClampNeg))) = .int ((mI M) (ad 9 16) j1)]) rfl ⟨hM.1, (hM.r 16 13 60), rfl, (hM.o 16 13 60), (by decide), (vpi (hM.n 16 13 60) (by omega)), congrArg Value.int ((congrArg (fun z => (up2 (mI M) (ad 10 0) 0 0) (ad 9 16) z) (nI_clamp (by omega))).trans ((up2_n _ _ (fun z => absurd (hi _ _ _ _ z.1).1 (by decide))).trans (rfl))), trivial⟩ ?_
          refine go_if rfl (fun (c27 : ((mI M) (ad 9 16) j1) = 0) => ?_) (fun (c27 : ¬ (((mI M) (ad 9 16) j1) = 0)) => ?_)
          · -- ((mI M) (ad 9 16) j1) = 0
            refine go_blk 1 [] (pc' := 151) (vs' := [.ref (ad 10 0), .int (nI j1), .int 7]) (st' := [.int 0]) (M' := mm M (up2 (mI M) (ad 10 0) 0 0) (mJ M)) (ps := []) rfl trivial ?_
            refine go_iret rfl rfl ?_
            exact h2 _ ⟨hsc, ad, nc, nb, nt, wk, nw, nx, nl, ne, nk, kd, op, rfl, rfl, rfl, hW.thr⟩
          · -- ¬ (((mI M) (ad 9 16) j1) = 0)
            refine go_blk 2 [] (pc' := 151) (vs' := [.ref (ad 10 0), .int (nI j1), .int 7]) (st' := [.int 1]) (M' := mm M (up2 (mI M) (ad 10 0) 0 0) (mJ M)) (ps := []) rfl trivial ?_
            refine go_iret rfl rfl ?_
            have hb := (iB.1 j1 (by assumption)).1
            simp only [vw] at hb
            exfalso
            clear K h2 hW hsc jO jR jB jX jL kO kC kD kP kX iC iB iR iL iT iS hC hB hT hX hF hM hi
            grind
        · exact absurd ⟨j1, hj1, rfl⟩ c26
      · -- ¬ (((mI M) (ad 2 j1) 7) = 0)
        refine go_blk 2 [] (pc' := 119) (vs' := [.ref (ad 2 j1), .int 7]) (st' := [.int 1]) (M' := mm M (mI M) (mJ M)) (ps := []) rfl trivial ?_
        refine go_iret rfl rfl ?_
        refine ⟨ne_i, ?_⟩
        show Go 1311 124 0 0 19 [.ref (ad 0 0), .int (nI j1), .int 7, .ref (ad 2 j1)] [.int 1] (mm M (mI M) (mJ M)) R
        refine go_iret rfl rfl ?_
        refine K _ _ hM.1 rfl (fun R2 h2 => ?_)
        show Go 1311 202 0 0 0 [.ref (ad 10 0), .int (nI j1), .int 7] [] (mm M (mI M) (mJ M)) R2
        refine go_blk 5 [] (pc' := 7) (vs' := [.ref (ad 10 0), .int (nI j1), .int 7]) (st' := [.int (nI j1), .ref (ad 10 0)]) (M' := mm M (up2 (mI M) (ad 10 0) 0 0) (mJ M)) (ps := [ob (mm M (mI M) (mJ M)) (ad 10 0) 12]) rfl ⟨hM.1, trivial⟩ ?_
        refine go_callV rfl rfl rfl (by omega) rfl (by decide) (by decide) hM.1 ?_
        refine s_Mo_isBooking hM (((up2_n _ _ (fun z => absurd z.2 (by decide))).trans (rfl)).trans nb2) (Nat.le_trans nb3 (by decide)) (fun j28 hj28 hx28 => ⟨ne_i, ?_⟩) (fun c28 => ⟨ne_i, ?_⟩)
        · -- 1
          show Go 1311 202 0 0 10 [.ref (ad 10 0), .int (nI j1), .int 7] [.int 1] (mm M (up2 (mI M) (ad 10 0) 0 0) (mJ M)) R2
          refine go_if rfl (fun _ => ?_) (fun (z : ¬ (¬ (1 : Int32) = 0)) => absurd (show ¬ (1 : Int32) = 0 from (by decide)) z)
          refine go_blk 1 [] (pc' := 16) (vs' := [.ref (ad 10 0), .int (nI j1), .int 7]) (st' := [.int 7]) (M' := mm M (up2 (mI M) (ad 10 0) 0 0) (mJ M)) (ps := []) rfl trivial ?_
          refine go_tsw rfl ?_
          refine ⟨fun (z : (7 : Int32) = 0) => absurd z (by decide), fun _ => ?_⟩
          refine ⟨fun (z : (7 : Int32) = 1) => absurd z (by decide), fun _ => ?_⟩
          refine ⟨fun (z : (7 : Int32) = 2) => absurd z (by decide), fun _ => ?_⟩
          refine ⟨fun (z : (7 : Int32) = 3) => absurd z (by decide), fun _ => ?_⟩
          refine ⟨fun (z : (7 : Int32) = 4) => absurd z (by decide), fun _ => ?_⟩
          refine ⟨fun (z : (7 : Int32) = 5) => absurd z (by decide), fun _ => ?_⟩
          refine ⟨fun (z : (7 : Int32) = 6) => absurd z (by decide), fun _ => ?_⟩
          refine ⟨fun _ => ?_, fun z => absurd rfl z⟩
          show Go 1311 202 0 0 137 [.ref (ad 10 0), .int (nI j1), .int 7] [] (mm M (up2 (mI M) (ad 10 0) 0 0) (mJ M)) R2
          refine go_blk 4 [some (.ref (ad 9 16)), some (.int ((mI M) (ad 9 16) j1))] (pc' := 143) (vs' := [.ref (ad 10 0), .int (nI j1), .int 7]) (st' := [.int ((mI M) (ad 9 16) j1)]) (M' := mm M (up2 (mI M) (ad 10 0) 0 0) (mJ M)) (ps := [ob (mm M (up2 (mI M) (ad 10 0) 0 0) (mJ M)) (ad 10 0) 12, mR (mm M (up2 (mI M) (ad 10 0) 0 0) (mJ M)) (ad 10 0) 16 = some (ad 9 16), va_rf (some (ad 9 16)) = .ref (ad 9 16), ob (mm M (up2 (mI M) (ad 10 0) 0 0) (mJ M)) (ad 9 16) 13, 13 = 13 ∨ 13 = 14, vp_in (nI j1) (mN (mm M (up2 (mI M) (ad 10 0) 0 0) (mJ M)) (ad 9 16)), (Value.int ((up2 (mI M) (ad 10 0) 0 0) (ad 9 16) ((nI j1).toNatClampNeg))) = .int ((mI M) (ad 9 16) j1)]) rfl ⟨hM.1, (hM.r 16 13 60), rfl, (hM.o 16 13 60), (by decide), (vpi (hM.n 16 13 60) (by omega)), congrArg Value.int ((congrArg (fun z => (up2 (mI M) (ad 10 0) 0 0) (ad 9 16) z) (nI_clamp (by omega))).trans ((up2_n _ _ (fun z => absurd (hi _ _ _ _ z.1).1 (by decide))).trans (rfl))), trivial⟩ ?_
          refine go_if rfl (fun (c29 : ((mI M) (ad 9 16) j1) = 0) => ?_) (fun (c29 : ¬ (((mI M) (ad 9 16) j1) = 0)) => ?_)
          · -- ((mI M) (ad 9 16) j1) = 0
            refine go_blk 1 [] (pc' := 151) (vs' := [.ref (ad 10 0), .int (nI j1), .int 7]) (st' := [.int 0]) (M' := mm M (up2 (mI M) (ad 10 0) 0 0) (mJ M)) (ps := []) rfl trivial ?_
            refine go_iret rfl rfl ?_
            have hb := (iB.1 j1 (by assumption)).1
            simp only [vw] at hb
            exfalso
            clear K h2 hW hsc jO jR jB jX jL kO kC kD kP kX iC iB iR iL iT iS hC hB hT hX hF hM hi
            grind
          · -- ¬ (((mI M) (ad 9 16) j1) = 0)
            refine go_blk 2 [] (pc' := 151) (vs' := [.ref (ad 10 0), .int (nI j1), .int 7]) (st' := [.int 1]) (M' := mm M (up2 (mI M) (ad 10 0) 0 0) (mJ M)) (ps := []) rfl trivial ?_
            refine go_iret rfl rfl ?_
            exact h2 _ ⟨hsc, ad, nc, nb, nt, wk, nw, nx, nl, ne, nk, kd, op, rfl, rfl, rfl, hW.thr⟩
        · exact absurd ⟨j1, hj1, rfl⟩ c28
    refine ⟨fun (c30 : a2 = 8) => ?_, fun (c30n : ¬ (a2 = 8)) => ?_⟩
    · -- a2 = 8
      subst c30
      show Go (1311 - 1) 9 0 0 120 [.ref (ad 2 j1), .int 8] [] (mm M (mI M) (mJ M)) _
      refine go_blk 2 [] (pc' := 124) (vs' := [.ref (ad 2 j1), .int 8]) (st' := [.int ((mI M) (ad 2 j1) 8)]) (M' := mm M (mI M) (mJ M)) (ps := [ob (mm M (mI M) (mJ M)) (ad 2 j1) 0]) rfl ⟨(hB j1 (by assumption)).2, trivial⟩ ?_
      refine go_iret rfl rfl ?_
      refine ⟨ne_i, ?_⟩
      show Go 1311 124 0 0 19 [.ref (ad 0 0), .int (nI j1), .int 8, .ref (ad 2 j1)] [.int ((mI M) (ad 2 j1) 8)] (mm M (mI M) (mJ M)) R
      refine go_iret rfl rfl ?_
      refine K _ _ hM.1 rfl (fun R2 h2 => ?_)
      show Go 1311 202 0 0 0 [.ref (ad 10 0), .int (nI j1), .int 8] [] (mm M (mI M) (mJ M)) R2
      refine go_blk 5 [] (pc' := 7) (vs' := [.ref (ad 10 0), .int (nI j1), .int 8]) (st' := [.int (nI j1), .ref (ad 10 0)]) (M' := mm M (up2 (mI M) (ad 10 0) 0 0) (mJ M)) (ps := [ob (mm M (mI M) (mJ M)) (ad 10 0) 12]) rfl ⟨hM.1, trivial⟩ ?_
      refine go_callV rfl rfl rfl (by omega) rfl (by decide) (by decide) hM.1 ?_
      refine s_Mo_isBooking hM (((up2_n _ _ (fun z => absurd z.2 (by decide))).trans (rfl)).trans nb2) (Nat.le_trans nb3 (by decide)) (fun j31 hj31 hx31 => ⟨ne_i, ?_⟩) (fun c31 => ⟨ne_i, ?_⟩)
      · -- 1
        show Go 1311 202 0 0 10 [.ref (ad 10 0), .int (nI j1), .int 8] [.int 1] (mm M (up2 (mI M) (ad 10 0) 0 0) (mJ M)) R2
        refine go_if rfl (fun _ => ?_) (fun (z : ¬ (¬ (1 : Int32) = 0)) => absurd (show ¬ (1 : Int32) = 0 from (by decide)) z)
        refine go_blk 1 [] (pc' := 16) (vs' := [.ref (ad 10 0), .int (nI j1), .int 8]) (st' := [.int 8]) (M' := mm M (up2 (mI M) (ad 10 0) 0 0) (mJ M)) (ps := []) rfl trivial ?_
        refine go_tsw rfl ?_
        refine ⟨fun (z : (8 : Int32) = 0) => absurd z (by decide), fun _ => ?_⟩
        refine ⟨fun (z : (8 : Int32) = 1) => absurd z (by decide), fun _ => ?_⟩
        refine ⟨fun (z : (8 : Int32) = 2) => absurd z (by decide), fun _ => ?_⟩
        refine ⟨fun (z : (8 : Int32) = 3) => absurd z (by decide), fun _ => ?_⟩
        refine ⟨fun (z : (8 : Int32) = 4) => absurd z (by decide), fun _ => ?_⟩
        refine ⟨fun (z : (8 : Int32) = 5) => absurd z (by decide), fun _ => ?_⟩
        refine ⟨fun (z : (8 : Int32) = 6) => absurd z (by decide), fun _ => ?_⟩
        refine ⟨fun (z : (8 : Int32) = 7) => absurd z (by decide), fun _ => ?_⟩
        refine ⟨fun _ => ?_, fun z => absurd rfl z⟩
        show Go 1311 202 0 0 152 [.ref (ad 10 0), .int (nI j1), .int 8] [] (mm M (up2 (mI M) (ad 10 0) 0 0) (mJ M)) R2
        refine go_blk 4 [some (.ref (ad 9 13)), some (.int ((mI M) (ad 9 13) j1))] (pc' := 158) (vs' := [.ref (ad 10 0), .int (nI j1), .int 8]) (st' := [.int ((mI M) (ad 9 13) j1)]) (M' := mm M (up2 (mI M) (ad 10 0) 0 0) (mJ M)) (ps := [ob (mm M (up2 (mI M) (ad 10 0) 0 0) (mJ M)) (ad 10 0) 12, mR (mm M (up2 (mI M) (ad 10 0) 0 0) (mJ M)) (ad 10 0) 13 = some (ad 9 13), va_rf (some (ad 9 13)) = .ref (ad 9 13), ob (mm M (up2 (mI M) (ad 10 0) 0 0) (mJ M)) (ad 9 13) 15, vp_in (nI j1) (mN (mm M (up2 (mI M) (ad 10 0) 0 0) (mJ M)) (ad 9 13)), (Value.int ((up2 (mI M) (ad 10 0) 0 0) (ad 9 13) ((nI j1).toNatClampNeg))) = .int ((mI M) (ad 9 13) j1)]) rfl ⟨hM.1, (hM.r 13 15 60), rfl, (hM.o 13 15 60), (vpi (hM.n 13 15 60) (by omega)), congrArg Value.int ((congrArg (fun z => (up2 (mI M) (ad 10 0) 0 0) (ad 9 13) z) (nI_clamp (by omega))).trans ((up2_n _ _ (fun z => absurd (hi _ _ _ _ z.1).1 (by decide))).trans (rfl))), trivial⟩ ?_
        refine go_iret rfl rfl ?_
        have e9 : ((mI M) (ad 9 13) j1) = (mI M) (ad 2 j1) 8 := (by simpa [up2_ad hi, vw] using (iB.1 j1 (by assumption)).1.2.2.2.2.2.2.2.2.1.symm)
        rw [e9]
        exact h2 _ ⟨hsc, ad, nc, nb, nt, wk, nw, nx, nl, ne, nk, kd, op, rfl, rfl, rfl, hW.thr⟩
      · exact absurd ⟨j1, hj1, rfl⟩ c31
    refine ⟨fun (c32 : a2 = 9) => ?_, fun (c32n : ¬ (a2 = 9)) => ?_⟩
    · -- a2 = 9
      subst c32
      show Go (1311 - 1) 9 0 0 125 [.ref (ad 2 j1), .int 9] [] (mm M (mI M) (mJ M)) _
      refine go_blk 2 [] (pc' := 129) (vs' := [.ref (ad 2 j1), .int 9]) (st' := [.int ((mI M) (ad 2 j1) 9)]) (M' := mm M (mI M) (mJ M)) (ps := [ob (mm M (mI M) (mJ M)) (ad 2 j1) 0]) rfl ⟨(hB j1 (by assumption)).2, trivial⟩ ?_
      refine go_iret rfl rfl ?_
      refine ⟨ne_i, ?_⟩
      show Go 1311 124 0 0 19 [.ref (ad 0 0), .int (nI j1), .int 9, .ref (ad 2 j1)] [.int ((mI M) (ad 2 j1) 9)] (mm M (mI M) (mJ M)) R
      refine go_iret rfl rfl ?_
      refine K _ _ hM.1 rfl (fun R2 h2 => ?_)
      show Go 1311 202 0 0 0 [.ref (ad 10 0), .int (nI j1), .int 9] [] (mm M (mI M) (mJ M)) R2
      refine go_blk 5 [] (pc' := 7) (vs' := [.ref (ad 10 0), .int (nI j1), .int 9]) (st' := [.int (nI j1), .ref (ad 10 0)]) (M' := mm M (up2 (mI M) (ad 10 0) 0 0) (mJ M)) (ps := [ob (mm M (mI M) (mJ M)) (ad 10 0) 12]) rfl ⟨hM.1, trivial⟩ ?_
      refine go_callV rfl rfl rfl (by omega) rfl (by decide) (by decide) hM.1 ?_
      refine s_Mo_isBooking hM (((up2_n _ _ (fun z => absurd z.2 (by decide))).trans (rfl)).trans nb2) (Nat.le_trans nb3 (by decide)) (fun j33 hj33 hx33 => ⟨ne_i, ?_⟩) (fun c33 => ⟨ne_i, ?_⟩)
      · -- 1
        show Go 1311 202 0 0 10 [.ref (ad 10 0), .int (nI j1), .int 9] [.int 1] (mm M (up2 (mI M) (ad 10 0) 0 0) (mJ M)) R2
        refine go_if rfl (fun _ => ?_) (fun (z : ¬ (¬ (1 : Int32) = 0)) => absurd (show ¬ (1 : Int32) = 0 from (by decide)) z)
        refine go_blk 1 [] (pc' := 16) (vs' := [.ref (ad 10 0), .int (nI j1), .int 9]) (st' := [.int 9]) (M' := mm M (up2 (mI M) (ad 10 0) 0 0) (mJ M)) (ps := []) rfl trivial ?_
        refine go_tsw rfl ?_
        refine ⟨fun (z : (9 : Int32) = 0) => absurd z (by decide), fun _ => ?_⟩
        refine ⟨fun (z : (9 : Int32) = 1) => absurd z (by decide), fun _ => ?_⟩
        refine ⟨fun (z : (9 : Int32) = 2) => absurd z (by decide), fun _ => ?_⟩
        refine ⟨fun (z : (9 : Int32) = 3) => absurd z (by decide), fun _ => ?_⟩
        refine ⟨fun (z : (9 : Int32) = 4) => absurd z (by decide), fun _ => ?_⟩
        refine ⟨fun (z : (9 : Int32) = 5) => absurd z (by decide), fun _ => ?_⟩
        refine ⟨fun (z : (9 : Int32) = 6) => absurd z (by decide), fun _ => ?_⟩
        refine ⟨fun (z : (9 : Int32) = 7) => absurd z (by decide), fun _ => ?_⟩
        refine ⟨fun (z : (9 : Int32) = 8) => absurd z (by decide), fun _ => ?_⟩
        refine ⟨fun _ => ?_, fun z => absurd rfl z⟩
        show Go 1311 202 0 0 159 [.ref (ad 10 0), .int (nI j1), .int 9] [] (mm M (up2 (mI M) (ad 10 0) 0 0) (mJ M)) R2
        refine go_blk 4 [some (.ref (ad 9 11)), some (.int ((mI M) (ad 9 11) j1))] (pc' := 165) (vs' := [.ref (ad 10 0), .int (nI j1), .int 9]) (st' := [.int ((mI M) (ad 9 11) j1)]) (M' := mm M (up2 (mI M) (ad 10 0) 0 0) (mJ M)) (ps := [ob (mm M (up2 (mI M) (ad 10 0) 0 0) (mJ M)) (ad 10 0) 12, mR (mm M (up2 (mI M) (ad 10 0) 0 0) (mJ M)) (ad 10 0) 11 = some (ad 9 11), va_rf (some (ad 9 11)) = .ref (ad 9 11), ob (mm M (up2 (mI M) (ad 10 0) 0 0) (mJ M)) (ad 9 11) 15, vp_in (nI j1) (mN (mm M (up2 (mI M) (ad 10 0) 0 0) (mJ M)) (ad 9 11)), (Value.int ((up2 (mI M) (ad 10 0) 0 0) (ad 9 11) ((nI j1).toNatClampNeg))) = .int ((mI M) (ad 9 11) j1)]) rfl ⟨hM.1, (hM.r 11 15 60), rfl, (hM.o 11 15 60), (vpi (hM.n 11 15 60) (by omega)), congrArg Value.int ((congrArg (fun z => (up2 (mI M) (ad 10 0) 0 0) (ad 9 11) z) (nI_clamp (by omega))).trans ((up2_n _ _ (fun z => absurd (hi _ _ _ _ z.1).1 (by decide))).trans (rfl))), trivial⟩ ?_
        refine go_iret rfl rfl ?_
        have e9 : ((mI M) (ad 9 11) j1) = (mI M) (ad 2 j1) 9 := (by simpa [up2_ad hi, vw] using (iB.1 j1 (by assumption)).1.2.2.2.2.2.2.2.2.2.symm)
        rw [e9]
        exact h2 _ ⟨hsc, ad, nc, nb, nt, wk, nw, nx, nl, ne, nk, kd, op, rfl, rfl, rfl, hW.thr⟩
      · exact absurd ⟨j1, hj1, rfl⟩ c33
    show Go (1311 - 1) 9 0 0 130 [.ref (ad 2 j1), .int a2] [] (mm M (mI M) (mJ M)) _
    refine go_blk 1 [] (pc' := 131) (vs' := [.ref (ad 2 j1), .int a2]) (st' := [.int (-1)]) (M' := mm M (mI M) (mJ M)) (ps := []) rfl trivial ?_
    refine go_iret rfl rfl ?_
    refine ⟨ne_i, ?_⟩
    show Go 1311 124 0 0 19 [.ref (ad 0 0), .int (nI j1), .int a2, .ref (ad 2 j1)] [.int (-1)] (mm M (mI M) (mJ M)) R
    refine go_iret rfl rfl ?_
    refine K _ _ hM.1 rfl (fun R2 h2 => ?_)
    show Go 1311 202 0 0 0 [.ref (ad 10 0), .int (nI j1), .int a2] [] (mm M (mI M) (mJ M)) R2
    refine go_blk 5 [] (pc' := 7) (vs' := [.ref (ad 10 0), .int (nI j1), .int a2]) (st' := [.int (nI j1), .ref (ad 10 0)]) (M' := mm M (up2 (mI M) (ad 10 0) 0 0) (mJ M)) (ps := [ob (mm M (mI M) (mJ M)) (ad 10 0) 12]) rfl ⟨hM.1, trivial⟩ ?_
    refine go_callV rfl rfl rfl (by omega) rfl (by decide) (by decide) hM.1 ?_
    refine s_Mo_isBooking hM (((up2_n _ _ (fun z => absurd z.2 (by decide))).trans (rfl)).trans nb2) (Nat.le_trans nb3 (by decide)) (fun j34 hj34 hx34 => ⟨ne_i, ?_⟩) (fun c34 => ⟨ne_i, ?_⟩)
    · -- 1
      show Go 1311 202 0 0 10 [.ref (ad 10 0), .int (nI j1), .int a2] [.int 1] (mm M (up2 (mI M) (ad 10 0) 0 0) (mJ M)) R2
      refine go_if rfl (fun _ => ?_) (fun (z : ¬ (¬ (1 : Int32) = 0)) => absurd (show ¬ (1 : Int32) = 0 from (by decide)) z)
      refine go_blk 1 [] (pc' := 16) (vs' := [.ref (ad 10 0), .int (nI j1), .int a2]) (st' := [.int a2]) (M' := mm M (up2 (mI M) (ad 10 0) 0 0) (mJ M)) (ps := []) rfl trivial ?_
      refine go_tsw rfl ?_
      refine ⟨fun (z : a2 = 0) => absurd z c2n, fun _ => ?_⟩
      refine ⟨fun (z : a2 = 1) => absurd z c4n, fun _ => ?_⟩
      refine ⟨fun (z : a2 = 2) => absurd z c6n, fun _ => ?_⟩
      refine ⟨fun (z : a2 = 3) => absurd z c8n, fun _ => ?_⟩
      refine ⟨fun (z : a2 = 4) => absurd z c14n, fun _ => ?_⟩
      refine ⟨fun (z : a2 = 5) => absurd z c16n, fun _ => ?_⟩
      refine ⟨fun (z : a2 = 6) => absurd z c18n, fun _ => ?_⟩
      refine ⟨fun (z : a2 = 7) => absurd z c24n, fun _ => ?_⟩
      refine ⟨fun (z : a2 = 8) => absurd z c30n, fun _ => ?_⟩
      refine ⟨fun (z : a2 = 9) => absurd z c32n, fun _ => ?_⟩
      show Go 1311 202 0 0 166 [.ref (ad 10 0), .int (nI j1), .int a2] [] (mm M (up2 (mI M) (ad 10 0) 0 0) (mJ M)) R2
      refine go_blk 1 [] (pc' := 167) (vs' := [.ref (ad 10 0), .int (nI j1), .int a2]) (st' := [.int (-1)]) (M' := mm M (up2 (mI M) (ad 10 0) 0 0) (mJ M)) (ps := []) rfl trivial ?_
      refine go_iret rfl rfl ?_
      exact h2 _ ⟨hsc, ad, nc, nb, nt, wk, nw, nx, nl, ne, nk, kd, op, rfl, rfl, rfl, hW.thr⟩
    · exact absurd ⟨j1, hj1, rfl⟩ c34
  · -- ('n',)
    show Go 1311 124 0 0 5 [.ref (ad 0 0), .int a1, .int a2, .retAddr 0] [.null] (mm M (mI M) (mJ M)) R
    refine go_blk 2 [] (pc' := 7) (vs' := [.ref (ad 0 0), .int a1, .int a2, .null]) (st' := [.null]) (M' := mm M (mI M) (mJ M)) (ps := []) rfl trivial ?_
    refine go_ifnon0 rfl ?_
    refine go_blk 2 [] (pc' := 19) (vs' := [.ref (ad 0 0), .int a1, .int a2, .null]) (st' := [.int (-1)]) (M' := mm M (mI M) (mJ M)) (ps := []) rfl trivial ?_
    refine go_iret rfl rfl ?_
    refine K _ _ hM.1 rfl (fun R2 h2 => ?_)
    show Go 1311 202 0 0 0 [.ref (ad 10 0), .int a1, .int a2] [] (mm M (mI M) (mJ M)) R2
    refine go_blk 5 [] (pc' := 7) (vs' := [.ref (ad 10 0), .int a1, .int a2]) (st' := [.int a1, .ref (ad 10 0)]) (M' := mm M (up2 (mI M) (ad 10 0) 0 0) (mJ M)) (ps := [ob (mm M (mI M) (mJ M)) (ad 10 0) 12]) rfl ⟨hM.1, trivial⟩ ?_
    refine go_callV rfl rfl rfl (by omega) rfl (by decide) (by decide) hM.1 ?_
    refine s_Mo_isBooking hM (((up2_n _ _ (fun z => absurd z.2 (by decide))).trans (rfl)).trans nb2) (Nat.le_trans nb3 (by decide)) (fun j35 hj35 hx35 => ⟨ne_i, ?_⟩) (fun c35 => ⟨ne_i, ?_⟩)
    · exact absurd ⟨j35, hj35, hx35⟩ c1
    · -- 0
      show Go 1311 202 0 0 10 [.ref (ad 10 0), .int a1, .int a2] [.int 0] (mm M (up2 (mI M) (ad 10 0) 0 0) (mJ M)) R2
      refine go_if rfl (fun (z : ¬ (0 : Int32) = 0) => absurd z (show ¬ (¬ (0 : Int32) = 0) from (by decide))) (fun _ => ?_)
      refine go_blk 1 [] (pc' := 14) (vs' := [.ref (ad 10 0), .int a1, .int a2]) (st' := [.int (-1)]) (M' := mm M (up2 (mI M) (ad 10 0) 0 0) (mJ M)) (ps := []) rfl trivial ?_
      refine go_iret rfl rfl ?_
      exact h2 _ ⟨hsc, ad, nc, nb, nt, wk, nw, nx, nl, ne, nk, kd, op, rfl, rfl, rfl, hW.thr⟩

set_option maxRecDepth 100000 in
theorem op24 {x o u : Nat} {sc : Nat × Nat × (Nat → Int32)} : Op24 (II x o u sc) x o := by
  intro M a1 hI R K
  obtain ⟨hsc, ad, nc, nb, nt, wk, nw, nx, nl, ne, nk, kd, op, rfl, rfl, rfl, hW⟩ := hI
  obtain ⟨hi, ⟨hF, hM, hC, hB, hT, hX⟩, ⟨iS, iC, iB, iR, iL, iT⟩, ⟨jO, jR, jB, jX, jL⟩, kO, kC, kD, kP, kX⟩ := id hW
  obtain ⟨⟨nc1, nc2, nc3⟩, ⟨nb1, nb2, nb3⟩, ⟨nt1, nt2, nt3⟩, ⟨wk1, wk2, wk3⟩, ⟨nw1, nw2, nw3⟩, ⟨op1, op2, op3⟩, ncm, ncm1, ncm2, ncm3⟩ := id iS
  simp only [vw] at nc1 nc2 nb1 nb2 nt1 nt2 wk1 wk2 nw1 nw2 op1 op2 ncm2 ncm3
  show Go 1311 140 0 0 0 [.ref (ad 0 0), .int a1] [] (mm M (mI M) (mJ M)) R
  refine go_blk 3 [some (.ref (ad 0 8))] (pc' := 5) (vs' := [.ref (ad 0 0), .int a1]) (st' := [.int a1, .ref (ad 0 8)]) (M' := mm M (mI M) (mJ M)) (ps := [ob (mm M (mI M) (mJ M)) (ad 0 0) 11, mR (mm M (mI M) (mJ M)) (ad 0 0) 15 = some (ad 0 8), va_rf (some (ad 0 8)) = .ref (ad 0 8)]) rfl ⟨(hF.o 0), (hF.r 0 15 8), rfl, trivial⟩ ?_
  refine go_callV rfl rfl rfl (by omega) rfl (by decide) (by decide) (hF.o 8) ?_
  show Go (1311 - 1) 33 0 0 0 [.ref (ad 0 8), .int a1] [] (mm M (mI M) (mJ M)) _
  refine go_blk 1 [] (pc' := 1) (vs' := [.ref (ad 0 8), .int a1]) (st' := [.int a1]) (M' := mm M (mI M) (mJ M)) (ps := []) rfl trivial ?_
  refine go_tsw rfl ?_
  refine ⟨fun (c1 : a1 = 0) => ?_, fun (c1n : ¬ (a1 = 0)) => ?_⟩
  · -- a1 = 0
    subst c1
    show Go (1311 - 1) 33 0 0 36 [.ref (ad 0 8), .int 0] [] (mm M (mI M) (mJ M)) _
    refine go_blk 2 [] (pc' := 40) (vs' := [.ref (ad 0 8), .int 0]) (st' := [.int ((mI M) (ad 0 8) 0)]) (M' := mm M (mI M) (mJ M)) (ps := [ob (mm M (mI M) (mJ M)) (ad 0 8) 4]) rfl ⟨(hF.o 8), trivial⟩ ?_
    refine go_iret rfl rfl ?_
    refine ⟨ne_i, ?_⟩
    show Go 1311 140 0 0 8 [.ref (ad 0 0), .int 0] [.int ((mI M) (ad 0 8) 0)] (mm M (mI M) (mJ M)) R
    refine go_iret rfl rfl ?_
    refine K _ _ hM.1 rfl (fun R2 h2 => ?_)
    show Go 1311 232 0 0 0 [.ref (ad 10 0), .int 0] [] (mm M (mI M) (mJ M)) R2
    refine go_blk 4 [] (pc' := 6) (vs' := [.ref (ad 10 0), .int 0]) (st' := [.int 0]) (M' := mm M (up2 (mI M) (ad 10 0) 0 0) (mJ M)) (ps := [ob (mm M (mI M) (mJ M)) (ad 10 0) 12]) rfl ⟨hM.1, trivial⟩ ?_
    refine go_tsw rfl ?_
    refine ⟨fun _ => ?_, fun z => absurd rfl z⟩
    show Go 1311 232 0 0 40 [.ref (ad 10 0), .int 0] [] (mm M (up2 (mI M) (ad 10 0) 0 0) (mJ M)) R2
    refine go_blk 2 [some (.int ((mI M) (ad 10 0) 64))] (pc' := 44) (vs' := [.ref (ad 10 0), .int 0]) (st' := [.int ((mI M) (ad 10 0) 64)]) (M' := mm M (up2 (mI M) (ad 10 0) 0 0) (mJ M)) (ps := [ob (mm M (up2 (mI M) (ad 10 0) 0 0) (mJ M)) (ad 10 0) 12, (Value.int ((up2 (mI M) (ad 10 0) 0 0) (ad 10 0) 64)) = .int ((mI M) (ad 10 0) 64)]) rfl ⟨hM.1, congrArg Value.int ((up2_n _ _ (fun z => absurd z.2 (by decide))).trans (rfl)), trivial⟩ ?_
    refine go_iret rfl rfl ?_
    have e9 : ((mI M) (ad 10 0) 64) = (mI M) (ad 0 8) 0 := (by have q0 := (iL.1); simp only [vw] at q0; simp [q0])
    rw [e9]
    exact h2 _ ⟨hsc, ad, nc, nb, nt, wk, nw, nx, nl, ne, nk, kd, op, rfl, rfl, rfl, hW.thr⟩
  refine ⟨fun (c2 : a1 = 1) => ?_, fun (c2n : ¬ (a1 = 1)) => ?_⟩
  · -- a1 = 1
    subst c2
    show Go (1311 - 1) 33 0 0 41 [.ref (ad 0 8), .int 1] [] (mm M (mI M) (mJ M)) _
    refine go_blk 5 [] (pc' := 50) (vs' := [.ref (ad 0 8), .int 1]) (st' := [.int (((mI M) (ad 0 8) 3) + ((mI M) (ad 0 8) 4))]) (M' := mm M (mI M) (mJ M)) (ps := [ob (mm M (mI M) (mJ M)) (ad 0 8) 4, ob (mm M (mI M) (mJ M)) (ad 0 8) 4]) rfl ⟨(hF.o 8), (hF.o 8), trivial⟩ ?_
    refine go_iret rfl rfl ?_
    refine ⟨ne_i, ?_⟩
    show Go 1311 140 0 0 8 [.ref (ad 0 0), .int 1] [.int (((mI M) (ad 0 8) 3) + ((mI M) (ad 0 8) 4))] (mm M (mI M) (mJ M)) R
    refine go_iret rfl rfl ?_
    refine K _ _ hM.1 rfl (fun R2 h2 => ?_)
    show Go 1311 232 0 0 0 [.ref (ad 10 0), .int 1] [] (mm M (mI M) (mJ M)) R2
    refine go_blk 4 [] (pc' := 6) (vs' := [.ref (ad 10 0), .int 1]) (st' := [.int 1]) (M' := mm M (up2 (mI M) (ad 10 0) 0 0) (mJ M)) (ps := [ob (mm M (mI M) (mJ M)) (ad 10 0) 12]) rfl ⟨hM.1, trivial⟩ ?_
    refine go_tsw rfl ?_
    refine ⟨fun (z : (1 : Int32) = 0) => absurd z (by decide), fun _ => ?_⟩
    refine ⟨fun _ => ?_, fun z => absurd rfl z⟩
    show Go 1311 232 0 0 45 [.ref (ad 10 0), .int 1] [] (mm M (up2 (mI M) (ad 10 0) 0 0) (mJ M)) R2
    refine go_blk 5 [some (.int ((mI M) (ad 10 0) 66)), some (.int ((mI M) (ad 10 0) 67))] (pc' := 54) (vs' := [.ref (ad 10 0), .int 1]) (st' := [.int (((mI M) (ad 10 0) 66) + ((mI M) (ad 10 0) 67))]) (M' := mm M (up2 (mI M) (ad 10 0) 0 0) (mJ M)) (ps := [ob (mm M (up2 (mI M) (ad 10 0) 0 0) (mJ M)) (ad 10 0) 12, (Value.int ((up2 (mI M) (ad 10 0) 0 0) (ad 10 0) 66)) = .int ((mI M) (ad 10 0) 66), ob (mm M (up2 (mI M) (ad 10 0) 0 0) (mJ M)) (ad 10 0) 12, (Value.int ((up2 (mI M) (ad 10 0) 0 0) (ad 10 0) 67)) = .int ((mI M) (ad 10 0) 67)]) rfl ⟨hM.1, congrArg Value.int ((up2_n _ _ (fun z => absurd z.2 (by decide))).trans (rfl)), hM.1, congrArg Value.int ((up2_n _ _ (fun z => absurd z.2 (by decide))).trans (rfl)), trivial⟩ ?_
    refine go_iret rfl rfl ?_
    have e9 : (((mI M) (ad 10 0) 66) + ((mI M) (ad 10 0) 67)) = ((mI M) (ad 0 8) 3) + ((mI M) (ad 0 8) 4) := (by have q0 := (iL.1); simp only [vw] at q0; simp [q0])
    rw [e9]
    exact h2 _ ⟨hsc, ad, nc, nb, nt, wk, nw, nx, nl, ne, nk, kd, op, rfl, rfl, rfl, hW.thr⟩
  refine ⟨fun (c3 : a1 = 2) => ?_, fun (c3n : ¬ (a1 = 2)) => ?_⟩
  · -- a1 = 2
    subst c3
    show Go (1311 - 1) 33 0 0 51 [.ref (ad 0 8), .int 2] [] (mm M (mI M) (mJ M)) _
    refine go_blk 2 [] (pc' := 55) (vs' := [.ref (ad 0 8), .int 2]) (st' := [.int ((mI M) (ad 0 8) 2)]) (M' := mm M (mI M) (mJ M)) (ps := [ob (mm M (mI M) (mJ M)) (ad 0 8) 4]) rfl ⟨(hF.o 8), trivial⟩ ?_
    refine go_iret rfl rfl ?_
    refine ⟨ne_i, ?_⟩
    show Go 1311 140 0 0 8 [.ref (ad 0 0), .int 2] [.int ((mI M) (ad 0 8) 2)] (mm M (mI M) (mJ M)) R
    refine go_iret rfl rfl ?_
    refine K _ _ hM.1 rfl (fun R2 h2 => ?_)
    show Go 1311 232 0 0 0 [.ref (ad 10 0), .int 2] [] (mm M (mI M) (mJ M)) R2
    refine go_blk 4 [] (pc' := 6) (vs' := [.ref (ad 10 0), .int 2]) (st' := [.int 2]) (M' := mm M (up2 (mI M) (ad 10 0) 0 0) (mJ M)) (ps := [ob (mm M (mI M) (mJ M)) (ad 10 0) 12]) rfl ⟨hM.1, trivial⟩ ?_
    refine go_tsw rfl ?_
    refine ⟨fun (z : (2 : Int32) = 0) => absurd z (by decide), fun _ => ?_⟩
    refine ⟨fun (z : (2 : Int32) = 1) => absurd z (by decide), fun _ => ?_⟩
    refine ⟨fun _ => ?_, fun z => absurd rfl z⟩
    show Go 1311 232 0 0 55 [.ref (ad 10 0), .int 2] [] (mm M (up2 (mI M) (ad 10 0) 0 0) (mJ M)) R2
    refine go_blk 2 [some (.int ((mI M) (ad 10 0) 65))] (pc' := 59) (vs' := [.ref (ad 10 0), .int 2]) (st' := [.int ((mI M) (ad 10 0) 65)]) (M' := mm M (up2 (mI M) (ad 10 0) 0 0) (mJ M)) (ps := [ob (mm M (up2 (mI M) (ad 10 0) 0 0) (mJ M)) (ad 10 0) 12, (Value.int ((up2 (mI M) (ad 10 0) 0 0) (ad 10 0) 65)) = .int ((mI M) (ad 10 0) 65)]) rfl ⟨hM.1, congrArg Value.int ((up2_n _ _ (fun z => absurd z.2 (by decide))).trans (rfl)), trivial⟩ ?_
    refine go_iret rfl rfl ?_
    have e9 : ((mI M) (ad 10 0) 65) = (mI M) (ad 0 8) 2 := (by have q0 := (iL.1); simp only [vw] at q0; simp [q0])
    rw [e9]
    exact h2 _ ⟨hsc, ad, nc, nb, nt, wk, nw, nx, nl, ne, nk, kd, op, rfl, rfl, rfl, hW.thr⟩
  refine ⟨fun (c4 : a1 = 3) => ?_, fun (c4n : ¬ (a1 = 3)) => ?_⟩
  · -- a1 = 3
    subst c4
    show Go (1311 - 1) 33 0 0 56 [.ref (ad 0 8), .int 3] [] (mm M (mI M) (mJ M)) _
    refine go_blk 5 [] (pc' := 65) (vs' := [.ref (ad 0 8), .int 3]) (st' := [.int (((mI M) (ad 0 8) 5) + ((mI M) (ad 0 8) 6))]) (M' := mm M (mI M) (mJ M)) (ps := [ob (mm M (mI M) (mJ M)) (ad 0 8) 4, ob (mm M (mI M) (mJ M)) (ad 0 8) 4]) rfl ⟨(hF.o 8), (hF.o 8), trivial⟩ ?_
    refine go_iret rfl rfl ?_
    refine ⟨ne_i, ?_⟩
    show Go 1311 140 0 0 8 [.ref (ad 0 0), .int 3] [.int (((mI M) (ad 0 8) 5) + ((mI M) (ad 0 8) 6))] (mm M (mI M) (mJ M)) R
    refine go_iret rfl rfl ?_
    refine K _ _ hM.1 rfl (fun R2 h2 => ?_)
    show Go 1311 232 0 0 0 [.ref (ad 10 0), .int 3] [] (mm M (mI M) (mJ M)) R2
    refine go_blk 4 [] (pc' := 6) (vs' := [.ref (ad 10 0), .int 3]) (st' := [.int 3]) (M' := mm M (up2 (mI M) (ad 10 0) 0 0) (mJ M)) (ps := [ob (mm M (mI M) (mJ M)) (ad 10 0) 12]) rfl ⟨hM.1, trivial⟩ ?_
    refine go_tsw rfl ?_
    refine ⟨fun (z : (3 : Int32) = 0) => absurd z (by decide), fun _ => ?_⟩
    refine ⟨fun (z : (3 : Int32) = 1) => absurd z (by decide), fun _ => ?_⟩
    refine ⟨fun (z : (3 : Int32) = 2) => absurd z (by decide), fun _ => ?_⟩
    refine ⟨fun _ => ?_, fun z => absurd rfl z⟩
    show Go 1311 232 0 0 60 [.ref (ad 10 0), .int 3] [] (mm M (up2 (mI M) (ad 10 0) 0 0) (mJ M)) R2
    refine go_blk 5 [some (.int ((mI M) (ad 10 0) 68)), some (.int ((mI M) (ad 10 0) 69))] (pc' := 69) (vs' := [.ref (ad 10 0), .int 3]) (st' := [.int (((mI M) (ad 10 0) 68) + ((mI M) (ad 10 0) 69))]) (M' := mm M (up2 (mI M) (ad 10 0) 0 0) (mJ M)) (ps := [ob (mm M (up2 (mI M) (ad 10 0) 0 0) (mJ M)) (ad 10 0) 12, (Value.int ((up2 (mI M) (ad 10 0) 0 0) (ad 10 0) 68)) = .int ((mI M) (ad 10 0) 68), ob (mm M (up2 (mI M) (ad 10 0) 0 0) (mJ M)) (ad 10 0) 12, (Value.int ((up2 (mI M) (ad 10 0) 0 0) (ad 10 0) 69)) = .int ((mI M) (ad 10 0) 69)]) rfl ⟨hM.1, congrArg Value.int ((up2_n _ _ (fun z => absurd z.2 (by decide))).trans (rfl)), hM.1, congrArg Value.int ((up2_n _ _ (fun z => absurd z.2 (by decide))).trans (rfl)), trivial⟩ ?_
    refine go_iret rfl rfl ?_
    have e9 : (((mI M) (ad 10 0) 68) + ((mI M) (ad 10 0) 69)) = ((mI M) (ad 0 8) 5) + ((mI M) (ad 0 8) 6) := (by have q0 := (iL.1); simp only [vw] at q0; simp [q0])
    rw [e9]
    exact h2 _ ⟨hsc, ad, nc, nb, nt, wk, nw, nx, nl, ne, nk, kd, op, rfl, rfl, rfl, hW.thr⟩
  refine ⟨fun (c5 : a1 = 4) => ?_, fun (c5n : ¬ (a1 = 4)) => ?_⟩
  · -- a1 = 4
    subst c5
    show Go (1311 - 1) 33 0 0 66 [.ref (ad 0 8), .int 4] [] (mm M (mI M) (mJ M)) _
    refine go_blk 2 [] (pc' := 70) (vs' := [.ref (ad 0 8), .int 4]) (st' := [.int ((mI M) (ad 0 8) 7)]) (M' := mm M (mI M) (mJ M)) (ps := [ob (mm M (mI M) (mJ M)) (ad 0 8) 4]) rfl ⟨(hF.o 8), trivial⟩ ?_
    refine go_iret rfl rfl ?_
    refine ⟨ne_i, ?_⟩
    show Go 1311 140 0 0 8 [.ref (ad 0 0), .int 4] [.int ((mI M) (ad 0 8) 7)] (mm M (mI M) (mJ M)) R
    refine go_iret rfl rfl ?_
    refine K _ _ hM.1 rfl (fun R2 h2 => ?_)
    show Go 1311 232 0 0 0 [.ref (ad 10 0), .int 4] [] (mm M (mI M) (mJ M)) R2
    refine go_blk 4 [] (pc' := 6) (vs' := [.ref (ad 10 0), .int 4]) (st' := [.int 4]) (M' := mm M (up2 (mI M) (ad 10 0) 0 0) (mJ M)) (ps := [ob (mm M (mI M) (mJ M)) (ad 10 0) 12]) rfl ⟨hM.1, trivial⟩ ?_
    refine go_tsw rfl ?_
    refine ⟨fun (z : (4 : Int32) = 0) => absurd z (by decide), fun _ => ?_⟩
    refine ⟨fun (z : (4 : Int32) = 1) => absurd z (by decide), fun _ => ?_⟩
    refine ⟨fun (z : (4 : Int32) = 2) => absurd z (by decide), fun _ => ?_⟩
    refine ⟨fun (z : (4 : Int32) = 3) => absurd z (by decide), fun _ => ?_⟩
    refine ⟨fun _ => ?_, fun z => absurd rfl z⟩
    show Go 1311 232 0 0 70 [.ref (ad 10 0), .int 4] [] (mm M (up2 (mI M) (ad 10 0) 0 0) (mJ M)) R2
    refine go_blk 2 [some (.int ((mI M) (ad 10 0) 70))] (pc' := 74) (vs' := [.ref (ad 10 0), .int 4]) (st' := [.int ((mI M) (ad 10 0) 70)]) (M' := mm M (up2 (mI M) (ad 10 0) 0 0) (mJ M)) (ps := [ob (mm M (up2 (mI M) (ad 10 0) 0 0) (mJ M)) (ad 10 0) 12, (Value.int ((up2 (mI M) (ad 10 0) 0 0) (ad 10 0) 70)) = .int ((mI M) (ad 10 0) 70)]) rfl ⟨hM.1, congrArg Value.int ((up2_n _ _ (fun z => absurd z.2 (by decide))).trans (rfl)), trivial⟩ ?_
    refine go_iret rfl rfl ?_
    have e9 : ((mI M) (ad 10 0) 70) = (mI M) (ad 0 8) 7 := (by have q0 := (iL.1); simp only [vw] at q0; simp [q0])
    rw [e9]
    exact h2 _ ⟨hsc, ad, nc, nb, nt, wk, nw, nx, nl, ne, nk, kd, op, rfl, rfl, rfl, hW.thr⟩
  show Go (1311 - 1) 33 0 0 71 [.ref (ad 0 8), .int a1] [] (mm M (mI M) (mJ M)) _
  refine go_blk 1 [] (pc' := 72) (vs' := [.ref (ad 0 8), .int a1]) (st' := [.int (-1)]) (M' := mm M (mI M) (mJ M)) (ps := []) rfl trivial ?_
  refine go_iret rfl rfl ?_
  refine ⟨ne_i, ?_⟩
  show Go 1311 140 0 0 8 [.ref (ad 0 0), .int a1] [.int (-1)] (mm M (mI M) (mJ M)) R
  refine go_iret rfl rfl ?_
  refine K _ _ hM.1 rfl (fun R2 h2 => ?_)
  show Go 1311 232 0 0 0 [.ref (ad 10 0), .int a1] [] (mm M (mI M) (mJ M)) R2
  refine go_blk 4 [] (pc' := 6) (vs' := [.ref (ad 10 0), .int a1]) (st' := [.int a1]) (M' := mm M (up2 (mI M) (ad 10 0) 0 0) (mJ M)) (ps := [ob (mm M (mI M) (mJ M)) (ad 10 0) 12]) rfl ⟨hM.1, trivial⟩ ?_
  refine go_tsw rfl ?_
  refine ⟨fun (z : a1 = 0) => absurd z c1n, fun _ => ?_⟩
  refine ⟨fun (z : a1 = 1) => absurd z c2n, fun _ => ?_⟩
  refine ⟨fun (z : a1 = 2) => absurd z c3n, fun _ => ?_⟩
  refine ⟨fun (z : a1 = 3) => absurd z c4n, fun _ => ?_⟩
  refine ⟨fun (z : a1 = 4) => absurd z c5n, fun _ => ?_⟩
  show Go 1311 232 0 0 75 [.ref (ad 10 0), .int a1] [] (mm M (up2 (mI M) (ad 10 0) 0 0) (mJ M)) R2
  refine go_blk 1 [] (pc' := 76) (vs' := [.ref (ad 10 0), .int a1]) (st' := [.int (-1)]) (M' := mm M (up2 (mI M) (ad 10 0) 0 0) (mJ M)) (ps := []) rfl trivial ?_
  refine go_iret rfl rfl ?_
  exact h2 _ ⟨hsc, ad, nc, nb, nt, wk, nw, nx, nl, ne, nk, kd, op, rfl, rfl, rfl, hW.thr⟩

