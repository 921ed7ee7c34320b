/-! calls of the law: second part -/
set_option maxRecDepth 100000 in
theorem op12 {x o u : Nat} {sc : Nat × Nat × (Nat → Int32)} : Op12 (II x o u sc) x o := by
  intro M a1 hI R K
  obtain ⟨hsc, ad, nc, nb, nt, wk, nw, nx, nl, ne, nk, kd, op, rfl, rfl, rfl, hW⟩ := hI
  obtain ⟨hi, ⟨hF, hM, hC, hB, hT, hX⟩, ⟨iS, iC, iB, iR, iL, iT⟩, ⟨jO, jR, jB, jX, jL⟩, kO, kC, kD, kP, kX⟩ := id hW
  obtain ⟨⟨nc1, nc2, nc3⟩, ⟨nb1, nb2, nb3⟩, ⟨nt1, nt2, nt3⟩, ⟨wk1, wk2, wk3⟩, ⟨nw1, nw2, nw3⟩, ⟨op1, op2, op3⟩, ncm, ncm1, ncm2, ncm3⟩ := id iS
  simp only [vw] at nc1 nc2 nb1 nb2 nt1 nt2 wk1 wk2 nw1 nw2 op1 op2 ncm2 ncm3
  show Go 1311 128 0 0 0 [.ref (ad 0 0), .int a1] [] (mm M (mI M) (mJ M)) R
  refine go_blk 3 [] (pc' := 4) (vs' := [.ref (ad 0 0), .int a1]) (st' := [.int 60, .int 0, .int a1]) (M' := mm M (mI M) (mJ M)) (ps := []) rfl trivial ?_
  refine go_callS rfl (by decide) rfl rfl (by omega) rfl (by decide) (by decide) ?_
  refine s_CY_withinK 0 60 (by decide) (by decide) (fun j1 hl1 hj1 hx1 => ⟨ne_i, ?_⟩) (fun c1 => ⟨ne_i, ?_⟩)
  · -- 1
    subst hx1
    show Go 1311 128 0 0 7 [.ref (ad 0 0), .int (nI j1)] [.int 1] (mm M (mI M) (mJ M)) R
    refine go_if rfl (fun _ => ?_) (fun (z : ¬ (¬ (1 : Int32) = 0)) => absurd (show ¬ (1 : Int32) = 0 from (by decide)) z)
    refine go_blk 7 [some (.ref (ad 0 7)), some (.ref (ad 0 16)), some (.ref (ad 0 7))] (pc' := 27) (vs' := [.ref (ad 0 0), .int (nI j1)]) (st' := [.ref (ad 0 7)]) (M' := mm M (up2 (mI M) (ad 0 16) 1 (nI j1)) (mJ M)) (ps := [ob (mm M (mI M) (mJ M)) (ad 0 0) 11, mR (mm M (mI M) (mJ M)) (ad 0 0) 14 = some (ad 0 7), va_rf (some (ad 0 7)) = .ref (ad 0 7), ob (mm M (mI M) (mJ M)) (ad 0 7) 6, mR (mm M (mI M) (mJ M)) (ad 0 7) 0 = some (ad 0 16), va_rf (some (ad 0 16)) = .ref (ad 0 16), ob (mm M (mI M) (mJ M)) (ad 0 16) 7, ob (mm M (up2 (mI M) (ad 0 16) 1 (nI j1)) (mJ M)) (ad 0 0) 11, mR (mm M (up2 (mI M) (ad 0 16) 1 (nI j1)) (mJ M)) (ad 0 0) 14 = some (ad 0 7), va_rf (some (ad 0 7)) = .ref (ad 0 7)]) rfl ⟨(hF.o 0), (hF.r 0 14 7), rfl, (hF.o 7), (hF.r 7 0 16), rfl, (hF.o 16), (hF.o 0), (hF.r 0 14 7), rfl, trivial⟩ ?_
    refine go_callV rfl rfl rfl (by omega) rfl (by decide) (by decide) (hF.o 7) ?_
    show Go (1311 - 1) 46 0 0 0 [.ref (ad 0 7)] [] (mm M (up2 (mI M) (ad 0 16) 1 (nI j1)) (mJ M)) _
    refine go_blk 3 [] (pc' := 5) (vs' := [.ref (ad 0 7)]) (st' := []) (M' := mm M (up2 (up2 (mI M) (ad 0 16) 1 (nI j1)) (ad 0 7) 19 0) (mJ M)) (ps := [ob (mm M (up2 (mI M) (ad 0 16) 1 (nI j1)) (mJ M)) (ad 0 7) 6, 0 = 0 ∨ 0 = 1]) rfl ⟨(hF.o 7), (Or.inl rfl), trivial⟩ ?_
    refine go_vret rfl rfl ?_
    refine ⟨ne_v, ?_⟩
    show Go 1311 128 0 0 30 [.ref (ad 0 0), .int (nI j1)] [] (mm M (up2 (up2 (mI M) (ad 0 16) 1 (nI j1)) (ad 0 7) 19 0) (mJ M)) R
    refine go_blk 1 [] (pc' := 31) (vs' := [.ref (ad 0 0), .int (nI j1)]) (st' := [.int 1]) (M' := mm M (up2 (up2 (mI M) (ad 0 16) 1 (nI j1)) (ad 0 7) 19 0) (mJ M)) (ps := []) rfl trivial ?_
    refine go_zret rfl rfl (Or.inr rfl) ?_
    refine K _ _ hM.1 rfl (fun R2 h2 => ?_)
    show Go 1311 206 0 0 0 [.ref (ad 10 0), .int (nI j1)] [] (mm M (up2 (up2 (mI M) (ad 0 16) 1 (nI j1)) (ad 0 7) 19 0) (mJ M)) R2
    refine go_blk 6 [] (pc' := 9) (vs' := [.ref (ad 10 0), .int (nI j1)]) (st' := [.int 60, .int 0, .int (nI j1)]) (M' := mm M (up2 (up2 (up2 (mI M) (ad 0 16) 1 (nI j1)) (ad 0 7) 19 0) (ad 10 0) 0 0) (mJ M)) (ps := [ob (mm M (up2 (up2 (mI M) (ad 0 16) 1 (nI j1)) (ad 0 7) 19 0) (mJ M)) (ad 10 0) 12]) rfl ⟨hM.1, trivial⟩ ?_
    refine go_callS rfl (by decide) rfl rfl (by omega) rfl (by decide) (by decide) ?_
    refine s_Mo_isInK 0 60 (by decide) (by decide) (fun j2 hl2 hj2 hx2 => ⟨ne_i, ?_⟩) (fun c2 => ⟨ne_i, ?_⟩)
    · -- 1
      show Go 1311 206 0 0 12 [.ref (ad 10 0), .int (nI j1)] [.int 1] (mm M (up2 (up2 (up2 (mI M) (ad 0 16) 1 (nI j1)) (ad 0 7) 19 0) (ad 10 0) 0 0) (mJ M)) R2
      refine go_if rfl (fun _ => ?_) (fun (z : ¬ (¬ (1 : Int32) = 0)) => absurd (show ¬ (1 : Int32) = 0 from (by decide)) z)
      refine go_blk 4 [] (pc' := 23) (vs' := [.ref (ad 10 0), .int (nI j1)]) (st' := [.int 1]) (M' := mm M (up2 (up2 (up2 (up2 (mI M) (ad 0 16) 1 (nI j1)) (ad 0 7) 19 0) (ad 10 0) 0 0) (ad 10 0) 31 (nI j1)) (mJ M)) (ps := [ob (mm M (up2 (up2 (up2 (mI M) (ad 0 16) 1 (nI j1)) (ad 0 7) 19 0) (ad 10 0) 0 0) (mJ M)) (ad 10 0) 12]) rfl ⟨hM.1, trivial⟩ ?_
      refine go_zret rfl rfl (Or.inr rfl) ?_
      have ch : ∀ t i k, ¬ ((t = 0 ∧ i = 16 ∧ k = 1) ∨ (t = 0 ∧ i = 7 ∧ k = 19) ∨ (t = 10 ∧ i = 0 ∧ k = 0) ∨ (t = 10 ∧ i = 0 ∧ k = 31)) → vw ad (up2 (up2 (up2 (up2 (mI M) (ad 0 16) 1 (nI j1)) (ad 0 7) 19 0) (ad 10 0) 0 0) (ad 10 0) 31 (nI j1)) t i k = vw ad (mI M) t i k := by
        intro t i k hn
        simp only [vw_up2 hi]
        rw [up3_n _ _ (by omega), up3_n _ _ (by omega), up3_n _ _ (by omega), up3_n _ _ (by omega)]
      have chj : ∀ t i k, ¬ ((t = 1000 ∧ i = 0 ∧ k = 0)) → vw ad (mJ M) t i k = vw ad (mJ M) t i k := by
        intro t i k hn
        rfl
      have eJ1 : eJ nb (vw ad (mI M)) (vw ad (up2 (up2 (up2 (up2 (mI M) (ad 0 16) 1 (nI j1)) (ad 0 7) 19 0) (ad 10 0) 0 0) (ad 10 0) 31 (nI j1))) := fun i k h => ch 9 i k (by omega)
      refine h2 _ ⟨hsc, ad, nc, nb, nt, wk, nw, nx, nl, ne, nk, kd, op, rfl, rfl, rfl, hi, ⟨hF, hM, hC, hB, hT, hX⟩, ⟨iS.congr (fun t k h => ch t 0 k (by omega)), iC.congr nc3 (fun t i k h => ch t i k (by omega)) (fun c hc => chj 1 c 4 (by omega)), iB.congr (fun t i k h => ch t i k (by omega)), ?_, iL.congr (fun t i k h => ch t i k (by omega)), iT.congr (fun t i k h => ch t i k (by omega))⟩, ⟨jO.congr eJ1 (fun b k _ _ _ => ch 6 b k (by omega)), jR.congr eJ1, jB.congr nb3 (fun t i k h => ch t i k (by omega)), jX.congr (fun t i k h => ch t i k (by omega)), jL.congr eJ1 (fun b k _ _ _ => ch 6 b k (by omega)) (fun t i k h => ch t i k (by omega))⟩, kO.congr iB wk3 (fun t i k h => ch t i k (by omega)) (fun b _ _ => ch 6 b 8 (by omega)), kC.congr (fun t i k h => ch t i k (by omega)) ⟨chj 0 0 12 (by omega), chj 10 0 99 (by omega)⟩, kD.congr (fun i k h => ch 9 i k (by omega)), Or.inl ?_, kX.congr (fun t i k h => ch t i k (by omega))⟩
      · show IRd (vw ad (up2 (up2 (up2 (up2 (mI M) (ad 0 16) 1 (nI j1)) (ad 0 7) 19 0) (ad 10 0) 0 0) (ad 10 0) 31 (nI j1)))
        refine ⟨fun i j h1 h2 => ?_, ?_⟩
        · rw [ch 0 31 _ (by omega), ch 9 29 _ (by omega)]
          exact iR.1 i j h1 h2
        · simp only [vw_up2 hi]
          simp [up3]
          exact ⟨j1, hl1, hj1, rfl⟩
      · show vw ad (up2 (up2 (up2 (up2 (mI M) (ad 0 16) 1 (nI j1)) (ad 0 7) 19 0) (ad 10 0) 0 0) (ad 10 0) 31 (nI j1)) 0 7 19 = 0
        simp only [vw_up2 hi]
        simp [up3]
    · exact absurd ⟨j1, hl1, hj1, rfl⟩ c2
  · -- 0
    show Go 1311 128 0 0 7 [.ref (ad 0 0), .int a1] [.int 0] (mm M (mI M) (mJ M)) R
    refine go_if rfl (fun (z : ¬ (0 : Int32) = 0) => absurd z (show ¬ (¬ (0 : Int32) = 0) from (by decide))) (fun _ => ?_)
    refine go_blk 1 [] (pc' := 11) (vs' := [.ref (ad 0 0), .int a1]) (st' := [.int 0]) (M' := mm M (mI M) (mJ M)) (ps := []) rfl trivial ?_
    refine go_zret rfl rfl (Or.inl rfl) ?_
    refine K _ _ hM.1 rfl (fun R2 h2 => ?_)
    show Go 1311 206 0 0 0 [.ref (ad 10 0), .int a1] [] (mm M (mI M) (mJ M)) R2
    refine go_blk 6 [] (pc' := 9) (vs' := [.ref (ad 10 0), .int a1]) (st' := [.int 60, .int 0, .int a1]) (M' := mm M (up2 (mI M) (ad 10 0) 0 0) (mJ M)) (ps := [ob (mm M (mI M) (mJ M)) (ad 10 0) 12]) rfl ⟨hM.1, trivial⟩ ?_
    refine go_callS rfl (by decide) rfl rfl (by omega) rfl (by decide) (by decide) ?_
    refine s_Mo_isInK 0 60 (by decide) (by decide) (fun j3 hl3 hj3 hx3 => ⟨ne_i, ?_⟩) (fun c3 => ⟨ne_i, ?_⟩)
    · exact absurd ⟨j3, hl3, hj3, hx3⟩ c1
    · -- 0
      show Go 1311 206 0 0 12 [.ref (ad 10 0), .int a1] [.int 0] (mm M (up2 (mI M) (ad 10 0) 0 0) (mJ M)) R2
      refine go_if rfl (fun (z : ¬ (0 : Int32) = 0) => absurd z (show ¬ (¬ (0 : Int32) = 0) from (by decide))) (fun _ => ?_)
      refine go_blk 1 [] (pc' := 16) (vs' := [.ref (ad 10 0), .int a1]) (st' := [.int 0]) (M' := mm M (up2 (mI M) (ad 10 0) 0 0) (mJ M)) (ps := []) rfl trivial ?_
      refine go_zret rfl rfl (Or.inl rfl) ?_
      exact h2 _ ⟨hsc, ad, nc, nb, nt, wk, nw, nx, nl, ne, nk, kd, op, rfl, rfl, rfl, hW.thr⟩

set_option maxRecDepth 100000 in
theorem op23 {x o u : Nat} {sc : Nat × Nat × (Nat → Int32)} : Op23 (II x o u sc) x o := by
  intro M a1 a2 hI R K
  obtain ⟨hsc, ad, nc, nb, nt, wk, nw, nx, nl, ne, nk, kd, op, rfl, rfl, rfl, hW⟩ := hI
  obtain ⟨hi, ⟨hF, hM, hC, hB, hT, hX⟩, ⟨iS, iC, iB, iR, iL, iT⟩, ⟨jO, jR, jB, jX, jL⟩, kO, kC, kD, kP, kX⟩ := id hW
  obtain ⟨⟨nc1, nc2, nc3⟩, ⟨nb1, nb2, nb3⟩, ⟨nt1, nt2, nt3⟩, ⟨wk1, wk2, wk3⟩, ⟨nw1, nw2, nw3⟩, ⟨op1, op2, op3⟩, ncm, ncm1, ncm2, ncm3⟩ := id iS
  simp only [vw] at nc1 nc2 nb1 nb2 nt1 nt2 wk1 wk2 nw1 nw2 op1 op2 ncm2 ncm3
  show Go 1311 139 0 0 0 [.ref (ad 0 0), .int a1, .int a2] [] (mm M (mI M) (mJ M)) R
  refine go_blk 3 [] (pc' := 5) (vs' := [.ref (ad 0 0), .int a1, .int a2]) (st' := [.int 200, .int 0, .int a1]) (M' := mm M (mI M) (mJ M)) (ps := []) rfl trivial ?_
  refine go_callS rfl (by decide) rfl rfl (by omega) rfl (by decide) (by decide) ?_
  refine s_CY_withinK 0 200 (by decide) (by decide) (fun j1 hl1 hj1 hx1 => ⟨ne_i, ?_⟩) (fun c1 => ⟨ne_i, ?_⟩)
  · -- 1
    subst hx1
    show Go 1311 139 0 0 8 [.ref (ad 0 0), .int (nI j1), .int a2] [.int 1] (mm M (mI M) (mJ M)) R
    refine go_if rfl (fun (z : (1 : Int32) = 0) => absurd z (show ¬ ((1 : Int32) = 0) from (by decide))) (fun _ => ?_)
    refine go_blk 3 [] (pc' := 15) (vs' := [.ref (ad 0 0), .int (nI j1), .int a2]) (st' := [.int 100, .int 0, .int a2]) (M' := mm M (mI M) (mJ M)) (ps := []) rfl trivial ?_
    refine go_callS rfl (by decide) rfl rfl (by omega) rfl (by decide) (by decide) ?_
    refine s_CY_withinK 0 100 (by decide) (by decide) (fun j2 hl2 hj2 hx2 => ⟨ne_i, ?_⟩) (fun c2 => ⟨ne_i, ?_⟩)
    · -- 1
      subst hx2
      show Go 1311 139 0 0 18 [.ref (ad 0 0), .int (nI j1), .int (nI j2)] [.int 1] (mm M (mI M) (mJ M)) R
      refine go_if rfl (fun (z : (1 : Int32) = 0) => absurd z (show ¬ ((1 : Int32) = 0) from (by decide))) (fun _ => ?_)
      refine go_blk 2 [] (pc' := 25) (vs' := [.ref (ad 0 0), .int (nI j1), .int (nI j2)]) (st' := [.int ((mI M) (ad 0 0) 8)]) (M' := mm M (mI M) (mJ M)) (ps := [ob (mm M (mI M) (mJ M)) (ad 0 0) 11]) rfl ⟨(hF.o 0), trivial⟩ ?_
      refine go_if rfl (fun (c3 : ¬ ((mI M) (ad 0 0) 8) = 0) => ?_) (fun (c3 : ¬ (¬ ((mI M) (ad 0 0) 8) = 0)) => ?_)
      · -- ¬ ((mI M) (ad 0 0) 8) = 0
        refine go_blk 1 [] (pc' := 36) (vs' := [.ref (ad 0 0), .int (nI j1), .int (nI j2)]) (st' := [.int 0]) (M' := mm M (mI M) (mJ M)) (ps := []) rfl trivial ?_
        refine go_zret rfl rfl (Or.inl rfl) ?_
        refine K _ _ hM.1 rfl (fun R2 h2 => ?_)
        show Go 1311 231 0 0 0 [.ref (ad 10 0), .int (nI j1), .int (nI j2)] [] (mm M (mI M) (mJ M)) R2
        refine go_blk 5 [some (.int ((mI M) (ad 10 0) 71))] (pc' := 9) (vs' := [.ref (ad 10 0), .int (nI j1), .int (nI j2)]) (st' := [.int ((mI M) (ad 10 0) 71)]) (M' := mm M (up2 (mI M) (ad 10 0) 0 0) (mJ M)) (ps := [ob (mm M (mI M) (mJ M)) (ad 10 0) 12, ob (mm M (up2 (mI M) (ad 10 0) 0 0) (mJ M)) (ad 10 0) 12, (Value.int ((up2 (mI M) (ad 10 0) 0 0) (ad 10 0) 71)) = .int ((mI M) (ad 10 0) 71)]) rfl ⟨hM.1, hM.1, congrArg Value.int ((up2_n _ _ (fun z => absurd z.2 (by decide))).trans (rfl)), trivial⟩ ?_
        refine go_if rfl (fun (c4 : ¬ ((mI M) (ad 10 0) 71) = 0) => ?_) (fun (c4 : ¬ (¬ ((mI M) (ad 10 0) 71) = 0)) => ?_)
        · -- ¬ ((mI M) (ad 10 0) 71) = 0
          refine go_blk 1 [] (pc' := 34) (vs' := [.ref (ad 10 0), .int (nI j1), .int (nI j2)]) (st' := [.int 0]) (M' := mm M (up2 (mI M) (ad 10 0) 0 0) (mJ M)) (ps := []) rfl trivial ?_
          refine go_zret rfl rfl (Or.inl rfl) ?_
          exact h2 _ ⟨hsc, ad, nc, nb, nt, wk, nw, nx, nl, ne, nk, kd, op, rfl, rfl, rfl, hW.thr⟩
        · -- ¬ (¬ ((mI M) (ad 10 0) 71) = 0)
          refine go_blk 3 [] (pc' := 17) (vs' := [.ref (ad 10 0), .int (nI j1), .int (nI j2)]) (st' := [.int 200, .int 0, .int (nI j1)]) (M' := mm M (up2 (mI M) (ad 10 0) 0 0) (mJ M)) (ps := []) rfl trivial ?_
          refine go_callS rfl (by decide) rfl rfl (by omega) rfl (by decide) (by decide) ?_
          refine s_Mo_isInK 0 200 (by decide) (by decide) (fun j5 hl5 hj5 hx5 => ⟨ne_i, ?_⟩) (fun c5 => ⟨ne_i, ?_⟩)
          · -- 1
            show Go 1311 231 0 0 20 [.ref (ad 10 0), .int (nI j1), .int (nI j2)] [.int 1] (mm M (up2 (mI M) (ad 10 0) 0 0) (mJ M)) R2
            refine go_if rfl (fun (z : (1 : Int32) = 0) => absurd z (show ¬ ((1 : Int32) = 0) from (by decide))) (fun _ => ?_)
            refine go_blk 3 [] (pc' := 27) (vs' := [.ref (ad 10 0), .int (nI j1), .int (nI j2)]) (st' := [.int 100, .int 0, .int (nI j2)]) (M' := mm M (up2 (mI M) (ad 10 0) 0 0) (mJ M)) (ps := []) rfl trivial ?_
            refine go_callS rfl (by decide) rfl rfl (by omega) rfl (by decide) (by decide) ?_
            refine s_Mo_isInK 0 100 (by decide) (by decide) (fun j6 hl6 hj6 hx6 => ⟨ne_i, ?_⟩) (fun c6 => ⟨ne_i, ?_⟩)
            · -- 1
              show Go 1311 231 0 0 30 [.ref (ad 10 0), .int (nI j1), .int (nI j2)] [.int 1] (mm M (up2 (mI M) (ad 10 0) 0 0) (mJ M)) R2
              refine go_if rfl (fun _ => ?_) (fun (z : ¬ (¬ (1 : Int32) = 0)) => absurd (show ¬ (1 : Int32) = 0 from (by decide)) z)
              refine go_blk 10 [] (pc' := 51) (vs' := [.ref (ad 10 0), .int (nI j1), .int (nI j2)]) (st' := [.int 1]) (M' := mm M (up2 (up2 (up2 (up2 (mI M) (ad 10 0) 0 0) (ad 10 0) 62 (nI j1)) (ad 10 0) 64 (nI j1)) (ad 10 0) 63 (nI j2)) (mJ M)) (ps := [ob (mm M (up2 (mI M) (ad 10 0) 0 0) (mJ M)) (ad 10 0) 12, ob (mm M (up2 (up2 (mI M) (ad 10 0) 0 0) (ad 10 0) 62 (nI j1)) (mJ M)) (ad 10 0) 12, ob (mm M (up2 (up2 (up2 (mI M) (ad 10 0) 0 0) (ad 10 0) 62 (nI j1)) (ad 10 0) 64 (nI j1)) (mJ M)) (ad 10 0) 12]) rfl ⟨hM.1, hM.1, hM.1, trivial⟩ ?_
              refine go_zret rfl rfl (Or.inr rfl) ?_
              have q := iL.2.2
              simp only [vw] at q
              have q2 := nI_0lt (n := wk) (by omega)
              exfalso
              clear K h2 hW hsc jO jR jB jX jL kO kC kD kP kX iC iB iR iL iT iS hC hB hT hX hF hM hi
              grind
            · exact absurd ⟨j2, hl2, hj2, rfl⟩ c6
          · exact absurd ⟨j1, hl1, hj1, rfl⟩ c5
      · -- ¬ (¬ ((mI M) (ad 0 0) 8) = 0)
        refine go_blk 2 [some (.int (nI wk))] (pc' := 32) (vs' := [.ref (ad 0 0), .int (nI j1), .int (nI j2)]) (st' := [.int (nI wk)]) (M' := mm M (mI M) (mJ M)) (ps := [ob (mm M (mI M) (mJ M)) (ad 0 0) 11, (Value.int ((mI M) (ad 0 0) 7)) = .int (nI wk)]) rfl ⟨(hF.o 0), congrArg Value.int wk1, trivial⟩ ?_
        refine go_if rfl (fun (c7 : (nI wk) ≤ 0) => ?_) (fun (c7 : ¬ ((nI wk) ≤ 0)) => ?_)
        · -- (nI wk) ≤ 0
          refine go_blk 9 [some (.ref (ad 0 8)), some (.ref (ad 0 8))] (pc' := 54) (vs' := [.ref (ad 0 0), .int (nI j1), .int (nI j2)]) (st' := [.int 1]) (M' := mm M (up2 (up2 (mI M) (ad 0 8) 0 (nI j1)) (ad 0 8) 1 (nI j2)) (mJ M)) (ps := [ob (mm M (mI M) (mJ M)) (ad 0 0) 11, mR (mm M (mI M) (mJ M)) (ad 0 0) 15 = some (ad 0 8), va_rf (some (ad 0 8)) = .ref (ad 0 8), ob (mm M (mI M) (mJ M)) (ad 0 8) 4, ob (mm M (up2 (mI M) (ad 0 8) 0 (nI j1)) (mJ M)) (ad 0 0) 11, mR (mm M (up2 (mI M) (ad 0 8) 0 (nI j1)) (mJ M)) (ad 0 0) 15 = some (ad 0 8), va_rf (some (ad 0 8)) = .ref (ad 0 8), ob (mm M (up2 (mI M) (ad 0 8) 0 (nI j1)) (mJ M)) (ad 0 8) 4]) rfl ⟨(hF.o 0), (hF.r 0 15 8), rfl, (hF.o 8), (hF.o 0), (hF.r 0 15 8), rfl, (hF.o 8), trivial⟩ ?_
          refine go_zret rfl rfl (Or.inr rfl) ?_
          refine K _ _ hM.1 rfl (fun R2 h2 => ?_)
          show Go 1311 231 0 0 0 [.ref (ad 10 0), .int (nI j1), .int (nI j2)] [] (mm M (up2 (up2 (mI M) (ad 0 8) 0 (nI j1)) (ad 0 8) 1 (nI j2)) (mJ M)) R2
          refine go_blk 5 [some (.int ((mI M) (ad 10 0) 71))] (pc' := 9) (vs' := [.ref (ad 10 0), .int (nI j1), .int (nI j2)]) (st' := [.int ((mI M) (ad 10 0) 71)]) (M' := mm M (up2 (up2 (up2 (mI M) (ad 0 8) 0 (nI j1)) (ad 0 8) 1 (nI j2)) (ad 10 0) 0 0) (mJ M)) (ps := [ob (mm M (up2 (up2 (mI M) (ad 0 8) 0 (nI j1)) (ad 0 8) 1 (nI j2)) (mJ M)) (ad 10 0) 12, ob (mm M (up2 (up2 (up2 (mI M) (ad 0 8) 0 (nI j1)) (ad 0 8) 1 (nI j2)) (ad 10 0) 0 0) (mJ M)) (ad 10 0) 12, (Value.int ((up2 (up2 (up2 (mI M) (ad 0 8) 0 (nI j1)) (ad 0 8) 1 (nI j2)) (ad 10 0) 0 0) (ad 10 0) 71)) = .int ((mI M) (ad 10 0) 71)]) rfl ⟨hM.1, hM.1, congrArg Value.int ((up2_n _ _ (fun z => absurd z.2 (by decide))).trans ((up2_n _ _ (fun z => absurd (hi _ _ _ _ z.1).1 (by decide))).trans ((up2_n _ _ (fun z => absurd (hi _ _ _ _ z.1).1 (by decide))).trans (rfl)))), trivial⟩ ?_
          refine go_if rfl (fun (c8 : ¬ ((mI M) (ad 10 0) 71) = 0) => ?_) (fun (c8 : ¬ (¬ ((mI M) (ad 10 0) 71) = 0)) => ?_)
          · -- ¬ ((mI M) (ad 10 0) 71) = 0
            refine go_blk 1 [] (pc' := 34) (vs' := [.ref (ad 10 0), .int (nI j1), .int (nI j2)]) (st' := [.int 0]) (M' := mm M (up2 (up2 (up2 (mI M) (ad 0 8) 0 (nI j1)) (ad 0 8) 1 (nI j2)) (ad 10 0) 0 0) (mJ M)) (ps := []) rfl trivial ?_
            refine go_zret rfl rfl (Or.inl rfl) ?_
            have q := iL.2.2
            simp only [vw] at q
            have q2 := nI_0lt (n := wk) (by omega)
            exfalso
            clear K h2 hW hsc jO jR jB jX jL kO kC kD kP kX iC iB iR iL iT iS hC hB hT hX hF hM hi
            grind
          · -- ¬ (¬ ((mI M) (ad 10 0) 71) = 0)
            refine go_blk 3 [] (pc' := 17) (vs' := [.ref (ad 10 0), .int (nI j1), .int (nI j2)]) (st' := [.int 200, .int 0, .int (nI j1)]) (M' := mm M (up2 (up2 (up2 (mI M) (ad 0 8) 0 (nI j1)) (ad 0 8) 1 (nI j2)) (ad 10 0) 0 0) (mJ M)) (ps := []) rfl trivial ?_
            refine go_callS rfl (by decide) rfl rfl (by omega) rfl (by decide) (by decide) ?_
            refine s_Mo_isInK 0 200 (by decide) (by decide) (fun j9 hl9 hj9 hx9 => ⟨ne_i, ?_⟩) (fun c9 => ⟨ne_i, ?_⟩)
            · -- 1
              show Go 1311 231 0 0 20 [.ref (ad 10 0), .int (nI j1), .int (nI j2)] [.int 1] (mm M (up2 (up2 (up2 (mI M) (ad 0 8) 0 (nI j1)) (ad 0 8) 1 (nI j2)) (ad 10 0) 0 0) (mJ M)) R2
              refine go_if rfl (fun (z : (1 : Int32) = 0) => absurd z (show ¬ ((1 : Int32) = 0) from (by decide))) (fun _ => ?_)
              refine go_blk 3 [] (pc' := 27) (vs' := [.ref (ad 10 0), .int (nI j1), .int (nI j2)]) (st' := [.int 100, .int 0, .int (nI j2)]) (M' := mm M (up2 (up2 (up2 (mI M) (ad 0 8) 0 (nI j1)) (ad 0 8) 1 (nI j2)) (ad 10 0) 0 0) (mJ M)) (ps := []) rfl trivial ?_
              refine go_callS rfl (by decide) rfl rfl (by omega) rfl (by decide) (by decide) ?_
              refine s_Mo_isInK 0 100 (by decide) (by decide) (fun j10 hl10 hj10 hx10 => ⟨ne_i, ?_⟩) (fun c10 => ⟨ne_i, ?_⟩)
              · -- 1
                show Go 1311 231 0 0 30 [.ref (ad 10 0), .int (nI j1), .int (nI j2)] [.int 1] (mm M (up2 (up2 (up2 (mI M) (ad 0 8) 0 (nI j1)) (ad 0 8) 1 (nI j2)) (ad 10 0) 0 0) (mJ M)) R2
                refine go_if rfl (fun _ => ?_) (fun (z : ¬ (¬ (1 : Int32) = 0)) => absurd (show ¬ (1 : Int32) = 0 from (by decide)) z)
                refine go_blk 10 [] (pc' := 51) (vs' := [.ref (ad 10 0), .int (nI j1), .int (nI j2)]) (st' := [.int 1]) (M' := mm M (up2 (up2 (up2 (up2 (up2 (up2 (mI M) (ad 0 8) 0 (nI j1)) (ad 0 8) 1 (nI j2)) (ad 10 0) 0 0) (ad 10 0) 62 (nI j1)) (ad 10 0) 64 (nI j1)) (ad 10 0) 63 (nI j2)) (mJ M)) (ps := [ob (mm M (up2 (up2 (up2 (mI M) (ad 0 8) 0 (nI j1)) (ad 0 8) 1 (nI j2)) (ad 10 0) 0 0) (mJ M)) (ad 10 0) 12, ob (mm M (up2 (up2 (up2 (up2 (mI M) (ad 0 8) 0 (nI j1)) (ad 0 8) 1 (nI j2)) (ad 10 0) 0 0) (ad 10 0) 62 (nI j1)) (mJ M)) (ad 10 0) 12, ob (mm M (up2 (up2 (up2 (up2 (up2 (mI M) (ad 0 8) 0 (nI j1)) (ad 0 8) 1 (nI j2)) (ad 10 0) 0 0) (ad 10 0) 62 (nI j1)) (ad 10 0) 64 (nI j1)) (mJ M)) (ad 10 0) 12]) rfl ⟨hM.1, hM.1, hM.1, trivial⟩ ?_
                refine go_zret rfl rfl (Or.inr rfl) ?_
                have ch : ∀ t i k, ¬ ((t = 0 ∧ i = 8 ∧ k = 0) ∨ (t = 0 ∧ i = 8 ∧ k = 1) ∨ (t = 10 ∧ i = 0 ∧ k = 0) ∨ (t = 10 ∧ i = 0 ∧ k = 62) ∨ (t = 10 ∧ i = 0 ∧ k = 64) ∨ (t = 10 ∧ i = 0 ∧ k = 63)) → vw ad (up2 (up2 (up2 (up2 (up2 (up2 (mI M) (ad 0 8) 0 (nI j1)) (ad 0 8) 1 (nI j2)) (ad 10 0) 0 0) (ad 10 0) 62 (nI j1)) (ad 10 0) 64 (nI j1)) (ad 10 0) 63 (nI j2)) t i k = vw ad (mI M) t i k := by
                  intro t i k hn
                  simp only [vw_up2 hi]
                  rw [up3_n _ _ (by omega), up3_n _ _ (by omega), up3_n _ _ (by omega), up3_n _ _ (by omega), up3_n _ _ (by omega), up3_n _ _ (by omega)]
                have chj : ∀ t i k, ¬ ((t = 1000 ∧ i = 0 ∧ k = 0)) → vw ad (mJ M) t i k = vw ad (mJ M) t i k := by
                  intro t i k hn
                  rfl
                have eJ1 : eJ nb (vw ad (mI M)) (vw ad (up2 (up2 (up2 (up2 (up2 (up2 (mI M) (ad 0 8) 0 (nI j1)) (ad 0 8) 1 (nI j2)) (ad 10 0) 0 0) (ad 10 0) 62 (nI j1)) (ad 10 0) 64 (nI j1)) (ad 10 0) 63 (nI j2))) := fun i k h => ch 9 i k (by omega)
                refine h2 _ ⟨hsc, ad, nc, nb, nt, wk, nw, nx, nl, ne, nk, kd, op, rfl, rfl, rfl, hi, ⟨hF, hM, hC, hB, hT, hX⟩, ⟨iS.congr (fun t k h => ch t 0 k (by omega)), iC.congr nc3 (fun t i k h => ch t i k (by omega)) (fun c hc => chj 1 c 4 (by omega)), iB.congr (fun t i k h => ch t i k (by omega)), iR.congr (fun t i k h => ch t i k (by omega)), ?_, iT.congr (fun t i k h => ch t i k (by omega))⟩, ⟨jO.congr eJ1 (fun b k _ _ _ => ch 6 b k (by omega)), jR.congr eJ1, jB.congr nb3 (fun t i k h => ch t i k (by omega)), jX.congr (fun t i k h => ch t i k (by omega)), jL.congr eJ1 (fun b k _ _ _ => ch 6 b k (by omega)) (fun t i k h => ch t i k (by omega))⟩, kO.congr iB wk3 (fun t i k h => ch t i k (by omega)) (fun b _ _ => ch 6 b 8 (by omega)), kC.congr (fun t i k h => ch t i k (by omega)) ⟨chj 0 0 12 (by omega), chj 10 0 99 (by omega)⟩, kD.congr (fun i k h => ch 9 i k (by omega)), kP.congr eJ1 (fun i k h => ch 9 i k (by have := ppS_sp h; omega)) ⟨ch 10 0 31 (by omega), ch 0 7 19 (by omega), ch 0 7 2 (by omega), ch 0 7 4 (by omega), fun t => ch 0 30 t (by omega)⟩ (chj 0 7 17 (by omega)), kX.congr (fun t i k h => ch t i k (by omega))⟩
                show ILa (vw ad (up2 (up2 (up2 (up2 (up2 (up2 (mI M) (ad 0 8) 0 (nI j1)) (ad 0 8) 1 (nI j2)) (ad 10 0) 0 0) (ad 10 0) 62 (nI j1)) (ad 10 0) 64 (nI j1)) (ad 10 0) 63 (nI j2))) wk op
                obtain ⟨g1, g2, g3⟩ := iL
                simp only [vw] at g1 g2 g3
                simp only [vw_up2 hi, ILa]
                simp [up3, vw]
                exact ⟨g1.2.2, ⟨j2, hl2, hj2, rfl⟩, g3⟩
              · exact absurd ⟨j2, hl2, hj2, rfl⟩ c10
            · exact absurd ⟨j1, hl1, hj1, rfl⟩ c9
        · -- ¬ ((nI wk) ≤ 0)
          refine go_blk 1 [] (pc' := 36) (vs' := [.ref (ad 0 0), .int (nI j1), .int (nI j2)]) (st' := [.int 0]) (M' := mm M (mI M) (mJ M)) (ps := []) rfl trivial ?_
          refine go_zret rfl rfl (Or.inl rfl) ?_
          refine K _ _ hM.1 rfl (fun R2 h2 => ?_)
          show Go 1311 231 0 0 0 [.ref (ad 10 0), .int (nI j1), .int (nI j2)] [] (mm M (mI M) (mJ M)) R2
          refine go_blk 5 [some (.int ((mI M) (ad 10 0) 71))] (pc' := 9) (vs' := [.ref (ad 10 0), .int (nI j1), .int (nI j2)]) (st' := [.int ((mI M) (ad 10 0) 71)]) (M' := mm M (up2 (mI M) (ad 10 0) 0 0) (mJ M)) (ps := [ob (mm M (mI M) (mJ M)) (ad 10 0) 12, ob (mm M (up2 (mI M) (ad 10 0) 0 0) (mJ M)) (ad 10 0) 12, (Value.int ((up2 (mI M) (ad 10 0) 0 0) (ad 10 0) 71)) = .int ((mI M) (ad 10 0) 71)]) rfl ⟨hM.1, hM.1, congrArg Value.int ((up2_n _ _ (fun z => absurd z.2 (by decide))).trans (rfl)), trivial⟩ ?_
          refine go_if rfl (fun (c11 : ¬ ((mI M) (ad 10 0) 71) = 0) => ?_) (fun (c11 : ¬ (¬ ((mI M) (ad 10 0) 71) = 0)) => ?_)
          · -- ¬ ((mI M) (ad 10 0) 71) = 0
            refine go_blk 1 [] (pc' := 34) (vs' := [.ref (ad 10 0), .int (nI j1), .int (nI j2)]) (st' := [.int 0]) (M' := mm M (up2 (mI M) (ad 10 0) 0 0) (mJ M)) (ps := []) rfl trivial ?_
            refine go_zret rfl rfl (Or.inl rfl) ?_
            exact h2 _ ⟨hsc, ad, nc, nb, nt, wk, nw, nx, nl, ne, nk, kd, op, rfl, rfl, rfl, hW.thr⟩
          · -- ¬ (¬ ((mI M) (ad 10 0) 71) = 0)
            refine go_blk 3 [] (pc' := 17) (vs' := [.ref (ad 10 0), .int (nI j1), .int (nI j2)]) (st' := [.int 200, .int 0, .int (nI j1)]) (M' := mm M (up2 (mI M) (ad 10 0) 0 0) (mJ M)) (ps := []) rfl trivial ?_
            refine go_callS rfl (by decide) rfl rfl (by omega) rfl (by decide) (by decide) ?_
            refine s_Mo_isInK 0 200 (by decide) (by decide) (fun j12 hl12 hj12 hx12 => ⟨ne_i, ?_⟩) (fun c12 => ⟨ne_i, ?_⟩)
            · -- 1
              show Go 1311 231 0 0 20 [.ref (ad 10 0), .int (nI j1), .int (nI j2)] [.int 1] (mm M (up2 (mI M) (ad 10 0) 0 0) (mJ M)) R2
              refine go_if rfl (fun (z : (1 : Int32) = 0) => absurd z (show ¬ ((1 : Int32) = 0) from (by decide))) (fun _ => ?_)
              refine go_blk 3 [] (pc' := 27) (vs' := [.ref (ad 10 0), .int (nI j1), .int (nI j2)]) (st' := [.int 100, .int 0, .int (nI j2)]) (M' := mm M (up2 (mI M) (ad 10 0) 0 0) (mJ M)) (ps := []) rfl trivial ?_
              refine go_callS rfl (by decide) rfl rfl (by omega) rfl (by decide) (by decide) ?_
              refine s_Mo_isInK 0 100 (by decide) (by decide) (fun j13 hl13 hj13 hx13 => ⟨ne_i, ?_⟩) (fun c13 => ⟨ne_i, ?_⟩)
              · -- 1
                show Go 1311 231 0 0 30 [.ref (ad 10 0), .int (nI j1), .int (nI j2)] [.int 1] (mm M (up2 (mI M) (ad 10 0) 0 0) (mJ M)) R2
                refine go_if rfl (fun _ => ?_) (fun (z : ¬ (¬ (1 : Int32) = 0)) => absurd (show ¬ (1 : Int32) = 0 from (by decide)) z)
                refine go_blk 10 [] (pc' := 51) (vs' := [.ref (ad 10 0), .int (nI j1), .int (nI j2)]) (st' := [.int 1]) (M' := mm M (up2 (up2 (up2 (up2 (mI M) (ad 10 0) 0 0) (ad 10 0) 62 (nI j1)) (ad 10 0) 64 (nI j1)) (ad 10 0) 63 (nI j2)) (mJ M)) (ps := [ob (mm M (up2 (mI M) (ad 10 0) 0 0) (mJ M)) (ad 10 0) 12, ob (mm M (up2 (up2 (mI M) (ad 10 0) 0 0) (ad 10 0) 62 (nI j1)) (mJ M)) (ad 10 0) 12, ob (mm M (up2 (up2 (up2 (mI M) (ad 10 0) 0 0) (ad 10 0) 62 (nI j1)) (ad 10 0) 64 (nI j1)) (mJ M)) (ad 10 0) 12]) rfl ⟨hM.1, hM.1, hM.1, trivial⟩ ?_
                refine go_zret rfl rfl (Or.inr rfl) ?_
                have q := iL.2.2
                simp only [vw] at q
                have q2 := nI_0lt (n := wk) (by omega)
                exfalso
                clear K h2 hW hsc jO jR jB jX jL kO kC kD kP kX iC iB iR iL iT iS hC hB hT hX hF hM hi
                grind
              · exact absurd ⟨j2, hl2, hj2, rfl⟩ c13
            · exact absurd ⟨j1, hl1, hj1, rfl⟩ c12
    · -- 0
      show Go 1311 139 0 0 18 [.ref (ad 0 0), .int (nI j1), .int a2] [.int 0] (mm M (mI M) (mJ M)) R
      refine go_if rfl (fun _ => ?_) (fun (z : ¬ ((0 : Int32) = 0)) => absurd (show (0 : Int32) = 0 from (by decide)) z)
      refine go_blk 1 [] (pc' := 36) (vs' := [.ref (ad 0 0), .int (nI j1), .int a2]) (st' := [.int 0]) (M' := mm M (mI M) (mJ M)) (ps := []) rfl trivial ?_
      refine go_zret rfl rfl (Or.inl rfl) ?_
      refine K _ _ hM.1 rfl (fun R2 h2 => ?_)
      show Go 1311 231 0 0 0 [.ref (ad 10 0), .int (nI j1), .int a2] [] (mm M (mI M) (mJ M)) R2
      refine go_blk 5 [some (.int ((mI M) (ad 10 0) 71))] (pc' := 9) (vs' := [.ref (ad 10 0), .int (nI j1), .int a2]) (st' := [.int ((mI M) (ad 10 0) 71)]) (M' := mm M (up2 (mI M) (ad 10 0) 0 0) (mJ M)) (ps := [ob (mm M (mI M) (mJ M)) (ad 10 0) 12, ob (mm M (up2 (mI M) (ad 10 0) 0 0) (mJ M)) (ad 10 0) 12, (Value.int ((up2 (mI M) (ad 10 0) 0 0) (ad 10 0) 71)) = .int ((mI M) (ad 10 0) 71)]) rfl ⟨hM.1, hM.1, congrArg Value.int ((up2_n _ _ (fun z => absurd z.2 (by decide))).trans (rfl)), trivial⟩ ?_
      refine go_if rfl (fun (c14 : ¬ ((mI M) (ad 10 0) 71) = 0) => ?_) (fun (c14 : ¬ (¬ ((mI M) (ad 10 0) 71) = 0)) => ?_)
      · -- ¬ ((mI M) (ad 10 0) 71) = 0
        refine go_blk 1 [] (pc' := 34) (vs' := [.ref (ad 10 0), .int (nI j1), .int a2]) (st' := [.int 0]) (M' := mm M (up2 (mI M) (ad 10 0) 0 0) (mJ M)) (ps := []) rfl trivial ?_
        refine go_zret rfl rfl (Or.inl rfl) ?_
        exact h2 _ ⟨hsc, ad, nc, nb, nt, wk, nw, nx, nl, ne, nk, kd, op, rfl, rfl, rfl, hW.thr⟩
      · -- ¬ (¬ ((mI M) (ad 10 0) 71) = 0)
        refine go_blk 3 [] (pc' := 17) (vs' := [.ref (ad 10 0), .int (nI j1), .int a2]) (st' := [.int 200, .int 0, .int (nI j1)]) (M' := mm M (up2 (mI M) (ad 10 0) 0 0) (mJ M)) (ps := []) rfl trivial ?_
        refine go_callS rfl (by decide) rfl rfl (by omega) rfl (by decide) (by decide) ?_
        refine s_Mo_isInK 0 200 (by decide) (by decide) (fun j15 hl15 hj15 hx15 => ⟨ne_i, ?_⟩) (fun c15 => ⟨ne_i, ?_⟩)
        · -- 1
          show Go 1311 231 0 0 20 [.ref (ad 10 0), .int (nI j1), .int a2] [.int 1] (mm M (up2 (mI M) (ad 10 0) 0 0) (mJ M)) R2
          refine go_if rfl (fun (z : (1 : Int32) = 0) => absurd z (show ¬ ((1 : Int32) = 0) from (by decide))) (fun _ => ?_)
          refine go_blk 3 [] (pc' := 27) (vs' := [.ref (ad 10 0), .int (nI j1), .int a2]) (st' := [.int 100, .int 0, .int a2]) (M' := mm M (up2 (mI M) (ad 10 0) 0 0) (mJ M)) (ps := []) rfl trivial ?_
          refine go_callS rfl (by decide) rfl rfl (by omega) rfl (by decide) (by decide) ?_
          refine s_Mo_isInK 0 100 (by decide) (by decide) (fun j16 hl16 hj16 hx16 => ⟨ne_i, ?_⟩) (fun c16 => ⟨ne_i, ?_⟩)
          · exact absurd ⟨j16, hl16, hj16, hx16⟩ c2
          · -- 0
            show Go 1311 231 0 0 30 [.ref (ad 10 0), .int (nI j1), .int a2] [.int 0] (mm M (up2 (mI M) (ad 10 0) 0 0) (mJ M)) R2
            refine go_if rfl (fun (z : ¬ (0 : Int32) = 0) => absurd z (show ¬ (¬ (0 : Int32) = 0) from (by decide))) (fun _ => ?_)
            refine go_blk 1 [] (pc' := 34) (vs' := [.ref (ad 10 0), .int (nI j1), .int a2]) (st' := [.int 0]) (M' := mm M (up2 (mI M) (ad 10 0) 0 0) (mJ M)) (ps := []) rfl trivial ?_
            refine go_zret rfl rfl (Or.inl rfl) ?_
            exact h2 _ ⟨hsc, ad, nc, nb, nt, wk, nw, nx, nl, ne, nk, kd, op, rfl, rfl, rfl, hW.thr⟩
        · exact absurd ⟨j1, hl1, hj1, rfl⟩ c15
  · -- 0
    show Go 1311 139 0 0 8 [.ref (ad 0 0), .int a1, .int a2] [.int 0] (mm M (mI M) (mJ M)) R
    refine go_if rfl (fun _ => ?_) (fun (z : ¬ ((0 : Int32) = 0)) => absurd (show (0 : Int32) = 0 from (by decide)) z)
    refine go_blk 1 [] (pc' := 36) (vs' := [.ref (ad 0 0), .int a1, .int a2]) (st' := [.int 0]) (M' := mm M (mI M) (mJ M)) (ps := []) rfl trivial ?_
    refine go_zret rfl rfl (Or.inl rfl) ?_
    refine K _ _ hM.1 rfl (fun R2 h2 => ?_)
    show Go 1311 231 0 0 0 [.ref (ad 10 0), .int a1, .int a2] [] (mm M (mI M) (mJ M)) R2
    refine go_blk 5 [some (.int ((mI M) (ad 10 0) 71))] (pc' := 9) (vs' := [.ref (ad 10 0), .int a1, .int a2]) (st' := [.int ((mI M) (ad 10 0) 71)]) (M' := mm M (up2 (mI M) (ad 10 0) 0 0) (mJ M)) (ps := [ob (mm M (mI M) (mJ M)) (ad 10 0) 12, ob (mm M (up2 (mI M) (ad 10 0) 0 0) (mJ M)) (ad 10 0) 12, (Value.int ((up2 (mI M) (ad 10 0) 0 0) (ad 10 0) 71)) = .int ((mI M) (ad 10 0) 71)]) rfl ⟨hM.1, hM.1, congrArg Value.int ((up2_n _ _ (fun z => absurd z.2 (by decide))).trans (rfl)), trivial⟩ ?_
    refine go_if rfl (fun (c17 : ¬ ((mI M) (ad 10 0) 71) = 0) => ?_) (fun (c17 : ¬ (¬ ((mI M) (ad 10 0) 71) = 0)) => ?_)
    · -- ¬ ((mI M) (ad 10 0) 71) = 0
      refine go_blk 1 [] (pc' := 34) (vs' := [.ref (ad 10 0), .int a1, .int a2]) (st' := [.int 0]) (M' := mm M (up2 (mI M) (ad 10 0) 0 0) (mJ M)) (ps := []) rfl trivial ?_
      refine go_zret rfl rfl (Or.inl rfl) ?_
      exact h2 _ ⟨hsc, ad, nc, nb, nt, wk, nw, nx, nl, ne, nk, kd, op, rfl, rfl, rfl, hW.thr⟩
    · -- ¬ (¬ ((mI M) (ad 10 0) 71) = 0)
      refine go_blk 3 [] (pc' := 17) (vs' := [.ref (ad 10 0), .int a1, .int a2]) (st' := [.int 200, .int 0, .int a1]) (M' := mm M (up2 (mI M) (ad 10 0) 0 0) (mJ M)) (ps := []) rfl trivial ?_
      refine go_callS rfl (by decide) rfl rfl (by omega) rfl (by decide) (by decide) ?_
      refine s_Mo_isInK 0 200 (by decide) (by decide) (fun j18 hl18 hj18 hx18 => ⟨ne_i, ?_⟩) (fun c18 => ⟨ne_i, ?_⟩)
      · exact absurd ⟨j18, hl18, hj18, hx18⟩ c1
      · -- 0
        show Go 1311 231 0 0 20 [.ref (ad 10 0), .int a1, .int a2] [.int 0] (mm M (up2 (mI M) (ad 10 0) 0 0) (mJ M)) R2
        refine go_if rfl (fun _ => ?_) (fun (z : ¬ ((0 : Int32) = 0)) => absurd (show (0 : Int32) = 0 from (by decide)) z)
        refine go_blk 1 [] (pc' := 34) (vs' := [.ref (ad 10 0), .int a1, .int a2]) (st' := [.int 0]) (M' := mm M (up2 (mI M) (ad 10 0) 0 0) (mJ M)) (ps := []) rfl trivial ?_
        refine go_zret rfl rfl (Or.inl rfl) ?_
        exact h2 _ ⟨hsc, ad, nc, nb, nt, wk, nw, nx, nl, ne, nk, kd, op, rfl, rfl, rfl, hW.thr⟩

theorem IBo.mkw {φ φ' : VI} {ad : Nat → Nat → Nat} {ne nk nb nc : Nat} (h : IBo φ ne nk nb nc) (hnb : nb ≤ 60) (e : ∀ t i k, (t = 0 ∧ (i = 9 ∨ (32 ≤ i ∧ i ≤ 34))) ∨ (t = 10 ∧ i = 0 ∧ (k = 95 ∨ k = 96)) ∨ (t = 9 ∧ (91 ≤ i ∧ i ≤ 93)) ∨ (t = 9 ∧ k < nb ∧ (i = 16 ∨ i = 6)) ∨ (t = 2 ∧ i < nb ∧ k = 11) → φ' t i k = φ t i k) (hw : ∀ th, th < 3 → φ' 0 35 th = φ' 9 94 th) : IBo φ' ne nk nb nc := by
  have h1 : IBo (fun t i k => if t = 0 ∧ i = 35 then φ 0 35 k else if t = 9 ∧ i = 94 then φ 9 94 k else φ' t i k) ne nk nb nc := by
    refine h.congr hnb (fun t i k hh => ?_)
    by_cases c1 : t = 0 ∧ i = 35
    · simp only [if_pos c1]; rw [c1.1, c1.2]
    · by_cases c2 : t = 9 ∧ i = 94
      · simp only [if_neg c1, if_pos c2]; rw [c2.1, c2.2]
      · simp only [if_neg c1, if_neg c2]
        exact e t i k (by omega)
  obtain ⟨g1, g2, g3, g4⟩ := h1
  exact ⟨by simpa using g1, hw, by simpa using g3, by simpa using g4⟩
set_option maxRecDepth 100000 in
theorem op34 {x o u : Nat} {sc : Nat × Nat × (Nat → Int32)} : Op34 (II x o u sc) x o := by
  intro M a1 a2 hI R K
  obtain ⟨hsc, ad, nc, nb, nt, wk, nw, nx, nl, ne, nk, kd, op, rfl, rfl, rfl, hW⟩ := hI
  obtain ⟨hi, ⟨hF, hM, hC, hB, hT, hX⟩, ⟨iS, iC, iB, iR, iL, iT⟩, ⟨jO, jR, jB, jX, jL⟩, kO, kC, kD, kP, kX⟩ := id hW
  obtain ⟨⟨nc1, nc2, nc3⟩, ⟨nb1, nb2, nb3⟩, ⟨nt1, nt2, nt3⟩, ⟨wk1, wk2, wk3⟩, ⟨nw1, nw2, nw3⟩, ⟨op1, op2, op3⟩, ncm, ncm1, ncm2, ncm3⟩ := id iS
  simp only [vw] at nc1 nc2 nb1 nb2 nt1 nt2 wk1 wk2 nw1 nw2 op1 op2 ncm2 ncm3
  show Go 1311 150 0 0 0 [.ref (ad 0 0), .int a1, .int a2] [] (mm M (mI M) (mJ M)) R
  refine go_blk 3 [] (pc' := 3) (vs' := [.ref (ad 0 0), .int a1, .int a2]) (st' := [.int 2, .int 0, .int a1]) (M' := mm M (mI M) (mJ M)) (ps := []) rfl trivial ?_
  refine go_callS rfl (by decide) rfl rfl (by omega) rfl (by decide) (by decide) ?_
  refine s_CY_withinK 0 2 (by decide) (by decide) (fun j1 hl1 hj1 hx1 => ⟨ne_i, ?_⟩) (fun c1 => ⟨ne_i, ?_⟩)
  · -- 1
    subst hx1
    show Go 1311 150 0 0 6 [.ref (ad 0 0), .int (nI j1), .int a2] [.int 1] (mm M (mI M) (mJ M)) R
    refine go_if rfl (fun (z : (1 : Int32) = 0) => absurd z (show ¬ ((1 : Int32) = 0) from (by decide))) (fun _ => ?_)
    refine go_blk 3 [] (pc' := 13) (vs' := [.ref (ad 0 0), .int (nI j1), .int a2]) (st' := [.int 100, .int 0, .int a2]) (M' := mm M (mI M) (mJ M)) (ps := []) rfl trivial ?_
    refine go_callS rfl (by decide) rfl rfl (by omega) rfl (by decide) (by decide) ?_
    refine s_CY_withinK 0 100 (by decide) (by decide) (fun j2 hl2 hj2 hx2 => ⟨ne_i, ?_⟩) (fun c2 => ⟨ne_i, ?_⟩)
    · -- 1
      subst hx2
      show Go 1311 150 0 0 16 [.ref (ad 0 0), .int (nI j1), .int (nI j2)] [.int 1] (mm M (mI M) (mJ M)) R
      refine go_if rfl (fun _ => ?_) (fun (z : ¬ (¬ (1 : Int32) = 0)) => absurd (show ¬ (1 : Int32) = 0 from (by decide)) z)
      refine go_blk 7 [some (.ref (ad 0 9)), some (.ref (ad 0 35))] (pc' := 32) (vs' := [.ref (ad 0 0), .int (nI j1), .int (nI j2)]) (st' := [.int 1]) (M' := mm M (up2 (mI M) (ad 0 35) ((nI j1).toNatClampNeg) (nI j2)) (mJ M)) (ps := [ob (mm M (mI M) (mJ M)) (ad 0 0) 11, mR (mm M (mI M) (mJ M)) (ad 0 0) 16 = some (ad 0 9), va_rf (some (ad 0 9)) = .ref (ad 0 9), ob (mm M (mI M) (mJ M)) (ad 0 9) 1, mR (mm M (mI M) (mJ M)) (ad 0 9) 5 = some (ad 0 35), va_rf (some (ad 0 35)) = .ref (ad 0 35), ob (mm M (mI M) (mJ M)) (ad 0 35) 15, vp_in (nI j1) (mN (mm M (mI M) (mJ M)) (ad 0 35))]) rfl ⟨(hF.o 0), (hF.r 0 16 9), rfl, (hF.o 9), (hF.r 9 5 35), rfl, (hF.o 35), (vpi (hF.n 35) (show j1 < 3 by omega)), trivial⟩ ?_
      rw [nI_clamp (n := j1) (by omega)]
      refine go_zret rfl rfl (Or.inr rfl) ?_
      refine K _ _ hM.1 rfl (fun R2 h2 => ?_)
      show Go 1311 262 0 0 0 [.ref (ad 10 0), .int (nI j1), .int (nI j2)] [] (mm M (up2 (mI M) (ad 0 35) (j1) (nI j2)) (mJ M)) R2
      refine go_blk 6 [] (pc' := 8) (vs' := [.ref (ad 10 0), .int (nI j1), .int (nI j2)]) (st' := [.int 2, .int 0, .int (nI j1)]) (M' := mm M (up2 (up2 (mI M) (ad 0 35) (j1) (nI j2)) (ad 10 0) 0 0) (mJ M)) (ps := [ob (mm M (up2 (mI M) (ad 0 35) (j1) (nI j2)) (mJ M)) (ad 10 0) 12]) rfl ⟨hM.1, trivial⟩ ?_
      refine go_callS rfl (by decide) rfl rfl (by omega) rfl (by decide) (by decide) ?_
      refine s_Mo_isInK 0 2 (by decide) (by decide) (fun j3 hl3 hj3 hx3 => ⟨ne_i, ?_⟩) (fun c3 => ⟨ne_i, ?_⟩)
      · -- 1
        show Go 1311 262 0 0 11 [.ref (ad 10 0), .int (nI j1), .int (nI j2)] [.int 1] (mm M (up2 (up2 (mI M) (ad 0 35) (j1) (nI j2)) (ad 10 0) 0 0) (mJ M)) R2
        refine go_if rfl (fun (z : (1 : Int32) = 0) => absurd z (show ¬ ((1 : Int32) = 0) from (by decide))) (fun _ => ?_)
        refine go_blk 3 [] (pc' := 18) (vs' := [.ref (ad 10 0), .int (nI j1), .int (nI j2)]) (st' := [.int 100, .int 0, .int (nI j2)]) (M' := mm M (up2 (up2 (mI M) (ad 0 35) (j1) (nI j2)) (ad 10 0) 0 0) (mJ M)) (ps := []) rfl trivial ?_
        refine go_callS rfl (by decide) rfl rfl (by omega) rfl (by decide) (by decide) ?_
        refine s_Mo_isInK 0 100 (by decide) (by decide) (fun j4 hl4 hj4 hx4 => ⟨ne_i, ?_⟩) (fun c4 => ⟨ne_i, ?_⟩)
        · -- 1
          show Go 1311 262 0 0 21 [.ref (ad 10 0), .int (nI j1), .int (nI j2)] [.int 1] (mm M (up2 (up2 (mI M) (ad 0 35) (j1) (nI j2)) (ad 10 0) 0 0) (mJ M)) R2
          refine go_if rfl (fun _ => ?_) (fun (z : ¬ (¬ (1 : Int32) = 0)) => absurd (show ¬ (1 : Int32) = 0 from (by decide)) z)
          refine go_blk 6 [some (.ref (ad 9 94))] (pc' := 34) (vs' := [.ref (ad 10 0), .int (nI j1), .int (nI j2)]) (st' := [.int 1]) (M' := mm M (up2 (up2 (up2 (mI M) (ad 0 35) (j1) (nI j2)) (ad 10 0) 0 0) (ad 9 94) ((nI j1).toNatClampNeg) (nI j2)) (mJ M)) (ps := [ob (mm M (up2 (up2 (mI M) (ad 0 35) (j1) (nI j2)) (ad 10 0) 0 0) (mJ M)) (ad 10 0) 12, mR (mm M (up2 (up2 (mI M) (ad 0 35) (j1) (nI j2)) (ad 10 0) 0 0) (mJ M)) (ad 10 0) 94 = some (ad 9 94), va_rf (some (ad 9 94)) = .ref (ad 9 94), ob (mm M (up2 (up2 (mI M) (ad 0 35) (j1) (nI j2)) (ad 10 0) 0 0) (mJ M)) (ad 9 94) 15, vp_in (nI j1) (mN (mm M (up2 (up2 (mI M) (ad 0 35) (j1) (nI j2)) (ad 10 0) 0 0) (mJ M)) (ad 9 94))]) rfl ⟨hM.1, (hM.r 94 15 3), rfl, (hM.o 94 15 3), (vpi (hM.n 94 15 3) (by omega)), trivial⟩ ?_
          rw [nI_clamp (n := j1) (by omega)]
          refine go_zret rfl rfl (Or.inr rfl) ?_
          have ch : ∀ t i k, ¬ ((t = 0 ∧ i = 35 ∧ k = j1) ∨ (t = 10 ∧ i = 0 ∧ k = 0) ∨ (t = 9 ∧ i = 94 ∧ k = j1)) → vw ad (up2 (up2 (up2 (mI M) (ad 0 35) (j1) (nI j2)) (ad 10 0) 0 0) (ad 9 94) (j1) (nI j2)) t i k = vw ad (mI M) t i k := by
            intro t i k hn
            simp only [vw_up2 hi]
            rw [up3_n _ _ (by omega), up3_n _ _ (by omega), up3_n _ _ (by omega)]
          have chj : ∀ t i k, ¬ ((t = 1000 ∧ i = 0 ∧ k = 0)) → vw ad (mJ M) t i k = vw ad (mJ M) t i k := by
            intro t i k hn
            rfl
          have eJ1 : eJ nb (vw ad (mI M)) (vw ad (up2 (up2 (up2 (mI M) (ad 0 35) (j1) (nI j2)) (ad 10 0) 0 0) (ad 9 94) (j1) (nI j2))) := fun i k h => ch 9 i k (by omega)
          refine h2 _ ⟨hsc, ad, nc, nb, nt, wk, nw, nx, nl, ne, nk, kd, op, rfl, rfl, rfl, hi, ⟨hF, hM, hC, hB, hT, hX⟩, ⟨iS.congr (fun t k h => ch t 0 k (by omega)), iC.congr nc3 (fun t i k h => ch t i k (by omega)) (fun c hc => chj 1 c 4 (by omega)), iB.congr (fun t i k h => ch t i k (by omega)), iR.congr (fun t i k h => ch t i k (by omega)), iL.congr (fun t i k h => ch t i k (by omega)), iT.congr (fun t i k h => ch t i k (by omega))⟩, ⟨jO.congr eJ1 (fun b k _ _ _ => ch 6 b k (by omega)), jR.congr eJ1, ?_, jX.congr (fun t i k h => ch t i k (by omega)), jL.congr eJ1 (fun b k _ _ _ => ch 6 b k (by omega)) (fun t i k h => ch t i k (by omega))⟩, kO.congr iB wk3 (fun t i k h => ch t i k (by omega)) (fun b _ _ => ch 6 b 8 (by omega)), kC.congr (fun t i k h => ch t i k (by omega)) ⟨chj 0 0 12 (by omega), chj 10 0 99 (by omega)⟩, kD.congr (fun i k h => ch 9 i k (by omega)), kP.congr eJ1 (fun i k h => ch 9 i k (by have := ppS_sp h; omega)) ⟨ch 10 0 31 (by omega), ch 0 7 19 (by omega), ch 0 7 2 (by omega), ch 0 7 4 (by omega), fun t => ch 0 30 t (by omega)⟩ (chj 0 7 17 (by omega)), kX.congr (fun t i k h => ch t i k (by omega))⟩
          show IBo (vw ad (up2 (up2 (up2 (mI M) (ad 0 35) (j1) (nI j2)) (ad 10 0) 0 0) (ad 9 94) (j1) (nI j2))) ne nk nb nc
          obtain ⟨g1, g2, g3, g4⟩ := jB
          refine IBo.mkw (ad := ad) ⟨g1, g2, g3, g4⟩ nb3 (fun t i k h => ch t i k (by omega)) (fun th hth => ?_)
          simp only [vw_up2 hi]
          by_cases hcj : th = j1
          · subst hcj; simp [up3]
          · simp [up3, hcj]; exact g2 th hth
        · exact absurd ⟨j2, hl2, hj2, rfl⟩ c4
      · exact absurd ⟨j1, hl1, hj1, rfl⟩ c3
    · -- 0
      show Go 1311 150 0 0 16 [.ref (ad 0 0), .int (nI j1), .int a2] [.int 0] (mm M (mI M) (mJ M)) R
      refine go_if rfl (fun (z : ¬ (0 : Int32) = 0) => absurd z (show ¬ (¬ (0 : Int32) = 0) from (by decide))) (fun _ => ?_)
      refine go_blk 1 [] (pc' := 20) (vs' := [.ref (ad 0 0), .int (nI j1), .int a2]) (st' := [.int 0]) (M' := mm M (mI M) (mJ M)) (ps := []) rfl trivial ?_
      refine go_zret rfl rfl (Or.inl rfl) ?_
      refine K _ _ hM.1 rfl (fun R2 h2 => ?_)
      show Go 1311 262 0 0 0 [.ref (ad 10 0), .int (nI j1), .int a2] [] (mm M (mI M) (mJ M)) R2
      refine go_blk 6 [] (pc' := 8) (vs' := [.ref (ad 10 0), .int (nI j1), .int a2]) (st' := [.int 2, .int 0, .int (nI j1)]) (M' := mm M (up2 (mI M) (ad 10 0) 0 0) (mJ M)) (ps := [ob (mm M (mI M) (mJ M)) (ad 10 0) 12]) rfl ⟨hM.1, trivial⟩ ?_
      refine go_callS rfl (by decide) rfl rfl (by omega) rfl (by decide) (by decide) ?_
      refine s_Mo_isInK 0 2 (by decide) (by decide) (fun j5 hl5 hj5 hx5 => ⟨ne_i, ?_⟩) (fun c5 => ⟨ne_i, ?_⟩)
      · -- 1
        show Go 1311 262 0 0 11 [.ref (ad 10 0), .int (nI j1), .int a2] [.int 1] (mm M (up2 (mI M) (ad 10 0) 0 0) (mJ M)) R2
        refine go_if rfl (fun (z : (1 : Int32) = 0) => absurd z (show ¬ ((1 : Int32) = 0) from (by decide))) (fun _ => ?_)
        refine go_blk 3 [] (pc' := 18) (vs' := [.ref (ad 10 0), .int (nI j1), .int a2]) (st' := [.int 100, .int 0, .int a2]) (M' := mm M (up2 (mI M) (ad 10 0) 0 0) (mJ M)) (ps := []) rfl trivial ?_
        refine go_callS rfl (by decide) rfl rfl (by omega) rfl (by decide) (by decide) ?_
        refine s_Mo_isInK 0 100 (by decide) (by decide) (fun j6 hl6 hj6 hx6 => ⟨ne_i, ?_⟩) (fun c6 => ⟨ne_i, ?_⟩)
        · exact absurd ⟨j6, hl6, hj6, hx6⟩ c2
        · -- 0
          show Go 1311 262 0 0 21 [.ref (ad 10 0), .int (nI j1), .int a2] [.int 0] (mm M (up2 (mI M) (ad 10 0) 0 0) (mJ M)) R2
          refine go_if rfl (fun (z : ¬ (0 : Int32) = 0) => absurd z (show ¬ (¬ (0 : Int32) = 0) from (by decide))) (fun _ => ?_)
          refine go_blk 1 [] (pc' := 25) (vs' := [.ref (ad 10 0), .int (nI j1), .int a2]) (st' := [.int 0]) (M' := mm M (up2 (mI M) (ad 10 0) 0 0) (mJ M)) (ps := []) rfl trivial ?_
          refine go_zret rfl rfl (Or.inl rfl) ?_
          exact h2 _ ⟨hsc, ad, nc, nb, nt, wk, nw, nx, nl, ne, nk, kd, op, rfl, rfl, rfl, hW.thr⟩
      · exact absurd ⟨j1, hl1, hj1, rfl⟩ c5
  · -- 0
    show Go 1311 150 0 0 6 [.ref (ad 0 0), .int a1, .int a2] [.int 0] (mm M (mI M) (mJ M)) R
    refine go_if rfl (fun _ => ?_) (fun (z : ¬ ((0 : Int32) = 0)) => absurd (show (0 : Int32) = 0 from (by decide)) z)
    refine go_blk 1 [] (pc' := 20) (vs' := [.ref (ad 0 0), .int a1, .int a2]) (st' := [.int 0]) (M' := mm M (mI M) (mJ M)) (ps := []) rfl trivial ?_
    refine go_zret rfl rfl (Or.inl rfl) ?_
    refine K _ _ hM.1 rfl (fun R2 h2 => ?_)
    show Go 1311 262 0 0 0 [.ref (ad 10 0), .int a1, .int a2] [] (mm M (mI M) (mJ M)) R2
    refine go_blk 6 [] (pc' := 8) (vs' := [.ref (ad 10 0), .int a1, .int a2]) (st' := [.int 2, .int 0, .int a1]) (M' := mm M (up2 (mI M) (ad 10 0) 0 0) (mJ M)) (ps := [ob (mm M (mI M) (mJ M)) (ad 10 0) 12]) rfl ⟨hM.1, trivial⟩ ?_
    refine go_callS rfl (by decide) rfl rfl (by omega) rfl (by decide) (by decide) ?_
    refine s_Mo_isInK 0 2 (by decide) (by decide) (fun j7 hl7 hj7 hx7 => ⟨ne_i, ?_⟩) (fun c7 => ⟨ne_i, ?_⟩)
    · exact absurd ⟨j7, hl7, hj7, hx7⟩ c1
    · -- 0
      show Go 1311 262 0 0 11 [.ref (ad 10 0), .int a1, .int a2] [.int 0] (mm M (up2 (mI M) (ad 10 0) 0 0) (mJ M)) R2
      refine go_if rfl (fun _ => ?_) (fun (z : ¬ ((0 : Int32) = 0)) => absurd (show (0 : Int32) = 0 from (by decide)) z)
      refine go_blk 1 [] (pc' := 25) (vs' := [.ref (ad 10 0), .int a1, .int a2]) (st' := [.int 0]) (M' := mm M (up2 (mI M) (ad 10 0) 0 0) (mJ M)) (ps := []) rfl trivial ?_
      refine go_zret rfl rfl (Or.inl rfl) ?_
      exact h2 _ ⟨hsc, ad, nc, nb, nt, wk, nw, nx, nl, ne, nk, kd, op, rfl, rfl, rfl, hW.thr⟩

