/-! calls of the law, one by one -/
set_option maxRecDepth 100000 in
theorem op1 {x o u : Nat} {sc : Nat × Nat × (Nat → Int32)} : Op1 (II x o u sc) x o := by
  intro M a1 a2 hI R K
  obtain ⟨hsc, ad, nc, nb, nt, wk, nw, nx, nl, ne, nk, kd, op, rfl, rfl, rfl, hW⟩ := hI
  obtain ⟨hi, ⟨hF, hM, hC, hB, hT, hX⟩, ⟨iS, iC, iB, iR, iL, iT⟩, ⟨jO, jR, jB, jX, jL⟩, kO, kC, kD, kP⟩ := id hW
  obtain ⟨⟨nc1, nc2, nc3⟩, ⟨nb1, nb2, nb3⟩, ⟨nt1, nt2, nt3⟩, ⟨wk1, wk2, wk3⟩, ⟨nw1, nw2, nw3⟩, ⟨op1, op2, op3⟩, ncm, ncm1, ncm2, ncm3⟩ := id iS
  simp only [vw] at nc1 nc2 nb1 nb2 nt1 nt2 wk1 wk2 nw1 nw2 op1 op2 ncm2 ncm3
  show Go 1311 117 0 0 0 [.ref (ad 0 0), .int a1, .int a2, .retAddr 0] [] (mm M (mI M) (mJ M)) R
  refine go_blk 2 [] (pc' := 2) (vs' := [.ref (ad 0 0), .int a1, .int a2, .retAddr 0]) (st' := [.int a1, .ref (ad 0 0)]) (M' := mm M (mI M) (mJ M)) (ps := []) rfl trivial ?_
  refine go_callV rfl rfl rfl (by omega) rfl (by decide) (by decide) (hF.o 0) ?_
  refine s_CY_cottageAt (by omega) hF hC nc1 nc3 (fun j1 hj1 hx1 => ⟨ne_a, ?_⟩) (fun c1 => ⟨ne_0, ?_⟩)
  · -- ('r', 'ad 1 j1')
    subst hx1
    show Go 1311 117 0 0 5 [.ref (ad 0 0), .int (nI j1), .int a2, .retAddr 0] [.ref (ad 1 j1)] (mm M (mI M) (mJ M)) R
    refine go_blk 2 [] (pc' := 7) (vs' := [.ref (ad 0 0), .int (nI j1), .int a2, .ref (ad 1 j1)]) (st' := [.ref (ad 1 j1)]) (M' := mm M (mI M) (mJ M)) (ps := []) rfl trivial ?_
    refine go_ifnull1 rfl ?_
    refine go_blk 3 [] (pc' := 15) (vs' := [.ref (ad 0 0), .int (nI j1), .int a2, .ref (ad 1 j1)]) (st' := [.int 2000, .int 1, .int a2]) (M' := mm M (mI M) (mJ M)) (ps := []) rfl trivial ?_
    refine go_callS rfl (by decide) rfl rfl (by omega) rfl (by decide) (by decide) ?_
    refine s_CY_within (by omega) (fun c2 => ⟨ne_i, ?_⟩) (fun c2 => ⟨ne_i, ?_⟩)
    · -- 1
      show Go 1311 117 0 0 18 [.ref (ad 0 0), .int (nI j1), .int a2, .ref (ad 1 j1)] [.int 1] (mm M (mI M) (mJ M)) R
      refine go_if rfl (fun _ => ?_) (fun (z : ¬ (¬ (1 : Int32) = 0)) => absurd (show ¬ (1 : Int32) = 0 from (by decide)) z)
      refine go_blk 4 [] (pc' := 29) (vs' := [.ref (ad 0 0), .int (nI j1), .int a2, .ref (ad 1 j1)]) (st' := [.int 1]) (M' := mm M (up2 (mI M) (ad 1 j1) 3 a2) (mJ M)) (ps := [ob (mm M (mI M) (mJ M)) (ad 1 j1) 2]) rfl ⟨(hC j1 (by assumption)).2, trivial⟩ ?_
      refine go_zret rfl rfl (Or.inr rfl) ?_
      refine K _ _ hM.1 rfl (fun R2 h2 => ?_)
      show Go 1311 192 0 0 0 [.ref (ad 10 0), .int (nI j1), .int a2] [] (mm M (up2 (mI M) (ad 1 j1) 3 a2) (mJ M)) R2
      refine go_blk 5 [] (pc' := 7) (vs' := [.ref (ad 10 0), .int (nI j1), .int a2]) (st' := [.int (nI j1), .ref (ad 10 0)]) (M' := mm M (up2 (up2 (mI M) (ad 1 j1) 3 a2) (ad 10 0) 0 0) (mJ M)) (ps := [ob (mm M (up2 (mI M) (ad 1 j1) 3 a2) (mJ M)) (ad 10 0) 12]) rfl ⟨hM.1, trivial⟩ ?_
      refine go_callV rfl rfl rfl (by omega) rfl (by decide) (by decide) hM.1 ?_
      refine s_Mo_isCottage hM (by simpa [up2_ad hi] using nc2) (Nat.le_trans nc3 (by decide)) (fun j3 hj3 hx3 => ⟨ne_i, ?_⟩) (fun c3 => ⟨ne_i, ?_⟩)
      · -- 1
        show Go 1311 192 0 0 10 [.ref (ad 10 0), .int (nI j1), .int a2] [.int 1] (mm M (up2 (up2 (mI M) (ad 1 j1) 3 a2) (ad 10 0) 0 0) (mJ M)) R2
        refine go_if rfl (fun (z : (1 : Int32) = 0) => absurd z (show ¬ ((1 : Int32) = 0) from (by decide))) (fun _ => ?_)
        refine go_blk 3 [] (pc' := 18) (vs' := [.ref (ad 10 0), .int (nI j1), .int a2]) (st' := [.int 2000, .int 1, .int a2]) (M' := mm M (up2 (up2 (mI M) (ad 1 j1) 3 a2) (ad 10 0) 0 0) (mJ M)) (ps := []) rfl trivial ?_
        refine go_callS rfl (by decide) rfl rfl (by omega) rfl (by decide) (by decide) ?_
        refine s_Mo_isIn (by omega) (fun c4 => ⟨ne_i, ?_⟩) (fun c4 => ⟨ne_i, ?_⟩)
        · -- 1
          show Go 1311 192 0 0 21 [.ref (ad 10 0), .int (nI j1), .int a2] [.int 1] (mm M (up2 (up2 (mI M) (ad 1 j1) 3 a2) (ad 10 0) 0 0) (mJ M)) R2
          refine go_if rfl (fun _ => ?_) (fun (z : ¬ (¬ (1 : Int32) = 0)) => absurd (show ¬ (1 : Int32) = 0 from (by decide)) z)
          refine go_blk 6 [some (.ref (ad 9 2))] (pc' := 34) (vs' := [.ref (ad 10 0), .int (nI j1), .int a2]) (st' := [.int 1]) (M' := mm M (up2 (up2 (up2 (mI M) (ad 1 j1) 3 a2) (ad 10 0) 0 0) (ad 9 2) ((nI j1).toNatClampNeg) a2) (mJ M)) (ps := [ob (mm M (up2 (up2 (mI M) (ad 1 j1) 3 a2) (ad 10 0) 0 0) (mJ M)) (ad 10 0) 12, mR (mm M (up2 (up2 (mI M) (ad 1 j1) 3 a2) (ad 10 0) 0 0) (mJ M)) (ad 10 0) 2 = some (ad 9 2), va_rf (some (ad 9 2)) = .ref (ad 9 2), ob (mm M (up2 (up2 (mI M) (ad 1 j1) 3 a2) (ad 10 0) 0 0) (mJ M)) (ad 9 2) 15, vp_in (nI j1) (mN (mm M (up2 (up2 (mI M) (ad 1 j1) 3 a2) (ad 10 0) 0 0) (mJ M)) (ad 9 2))]) rfl ⟨hM.1, (hM.r 2 15 7), rfl, (hM.o 2 15 7), (vpi (hM.n 2 15 7) (by omega)), trivial⟩ ?_
          rw [nI_clamp (n := j1) (by omega)]
          refine go_zret rfl rfl (Or.inr rfl) ?_
          have ch : ∀ t i k, ¬ ((t = 1 ∧ i = j1 ∧ k = 3) ∨ (t = 10 ∧ i = 0 ∧ k = 0) ∨ (t = 9 ∧ i = 2 ∧ k = j1)) → vw ad (up2 (up2 (up2 (mI M) (ad 1 j1) 3 a2) (ad 10 0) 0 0) (ad 9 2) (j1) a2) t i k = vw ad (mI M) t i k := by
            intro t i k hn
            simp only [vw_up2 hi]
            rw [up3_n _ _ (by omega), up3_n _ _ (by omega), up3_n _ _ (by omega)]
          have chj : ∀ t i k, ¬ ((t = 1000 ∧ i = 0 ∧ k = 0)) → vw ad (mJ M) t i k = vw ad (mJ M) t i k := by
            intro t i k hn
            rfl
          have eJ1 : eJ nb (vw ad (mI M)) (vw ad (up2 (up2 (up2 (mI M) (ad 1 j1) 3 a2) (ad 10 0) 0 0) (ad 9 2) (j1) a2)) := fun i k h => ch 9 i k (by omega)
          refine h2 _ ⟨hsc, ad, nc, nb, nt, wk, nw, nx, nl, ne, nk, kd, op, rfl, rfl, rfl, hi, ⟨hF, hM, hC, hB, hT, hX⟩, ⟨iS.congr (fun t k h => ch t 0 k (by omega)), ?_, iB.congr (fun t i k h => ch t i k (by omega)), iR.congr (fun t i k h => ch t i k (by omega)), iL.congr (fun t i k h => ch t i k (by omega)), iT.congr (fun t i k h => ch t i k (by omega))⟩, ⟨jO.congr eJ1 (fun b k _ _ => ch 6 b k (by omega)), jR.congr eJ1, jB.congr nb3 (fun t i k h => ch t i k (by omega)), jX.congr (fun t i k h => ch t i k (by omega)), jL.congr eJ1 (fun b k _ _ => ch 6 b k (by omega)) (fun t i k h => ch t i k (by omega))⟩, kO.congr (fun t i k h => ch t i k (by omega)), kC.congr (fun t i k h => ch t i k (by omega)) ⟨chj 0 0 12 (by omega), chj 10 0 99 (by omega)⟩, kD.congr (fun i k h => ch 9 i k (by omega)), kP.congr eJ1 (fun i k h => ch 9 i k (by have := ppS_sp h; omega)) ⟨ch 10 0 31 (by omega), ch 0 7 19 (by omega), ch 0 7 2 (by omega), ch 0 7 4 (by omega), fun t => ch 0 30 t (by omega)⟩ (chj 0 7 17 (by omega))⟩
          show ICo (vw ad (up2 (up2 (up2 (mI M) (ad 1 j1) 3 a2) (ad 10 0) 0 0) (ad 9 2) (j1) a2)) (vw ad (mJ M)) nc
          refine ⟨fun c hc => ?_, fun w c hw h1 h2 => ?_⟩
          · obtain ⟨g1, g2, g3, g4, g5, g6⟩ := iC.1 c hc
            rw [ch 1 c 0 (by omega), ch 1 c 1 (by omega), ch 1 c 2 (by omega), ch 9 1 c (by omega), ch 9 3 c (by omega), ch 9 4 c (by omega)]
            refine ⟨⟨g1.1, g1.2.1, g1.2.2.1, ?_⟩, g2, g3, g4, ?_, fun w hw => ?_⟩
            · simp only [vw_up2 hi]
              by_cases hcj : c = j1
              · subst hcj; simp [up3]
              · simp [up3, hcj]; exact g1.2.2.2
            · simp only [vw_up2 hi]
              have hr : rg 1 2000 a2 := rg_of c2.1 c2.2
              by_cases hcj : c = j1
              · subst hcj; simp [up3]; exact hr
              · simp [up3, hcj]; exact g5
            · rw [ch 9 5 _ (by omega)]
              exact g6 w hw
          · rw [ch 9 5 _ (by omega)]
            exact iC.2 w c hw h1 h2
        · -- 0
          show Go 1311 192 0 0 21 [.ref (ad 10 0), .int (nI j1), .int a2] [.int 0] (mm M (up2 (up2 (mI M) (ad 1 j1) 3 a2) (ad 10 0) 0 0) (mJ M)) R2
          refine go_if rfl (fun (z : ¬ (0 : Int32) = 0) => absurd z (show ¬ (¬ (0 : Int32) = 0) from (by decide))) (fun _ => ?_)
          refine go_blk 1 [] (pc' := 25) (vs' := [.ref (ad 10 0), .int (nI j1), .int a2]) (st' := [.int 0]) (M' := mm M (up2 (up2 (mI M) (ad 1 j1) 3 a2) (ad 10 0) 0 0) (mJ M)) (ps := []) rfl trivial ?_
          refine go_zret rfl rfl (Or.inl rfl) ?_
          exfalso
          grind
      · -- 0
        show Go 1311 192 0 0 10 [.ref (ad 10 0), .int (nI j1), .int a2] [.int 0] (mm M (up2 (up2 (mI M) (ad 1 j1) 3 a2) (ad 10 0) 0 0) (mJ M)) R2
        refine go_if rfl (fun _ => ?_) (fun (z : ¬ ((0 : Int32) = 0)) => absurd (show (0 : Int32) = 0 from (by decide)) z)
        refine go_blk 1 [] (pc' := 25) (vs' := [.ref (ad 10 0), .int (nI j1), .int a2]) (st' := [.int 0]) (M' := mm M (up2 (up2 (mI M) (ad 1 j1) 3 a2) (ad 10 0) 0 0) (mJ M)) (ps := []) rfl trivial ?_
        refine go_zret rfl rfl (Or.inl rfl) ?_
        exfalso
        grind
    · -- 0
      show Go 1311 117 0 0 18 [.ref (ad 0 0), .int (nI j1), .int a2, .ref (ad 1 j1)] [.int 0] (mm M (mI M) (mJ M)) R
      refine go_if rfl (fun (z : ¬ (0 : Int32) = 0) => absurd z (show ¬ (¬ (0 : Int32) = 0) from (by decide))) (fun _ => ?_)
      refine go_blk 1 [] (pc' := 22) (vs' := [.ref (ad 0 0), .int (nI j1), .int a2, .ref (ad 1 j1)]) (st' := [.int 0]) (M' := mm M (mI M) (mJ M)) (ps := []) rfl trivial ?_
      refine go_zret rfl rfl (Or.inl rfl) ?_
      refine K _ _ hM.1 rfl (fun R2 h2 => ?_)
      show Go 1311 192 0 0 0 [.ref (ad 10 0), .int (nI j1), .int a2] [] (mm M (mI M) (mJ M)) R2
      refine go_blk 5 [] (pc' := 7) (vs' := [.ref (ad 10 0), .int (nI j1), .int a2]) (st' := [.int (nI j1), .ref (ad 10 0)]) (M' := mm M (up2 (mI M) (ad 10 0) 0 0) (mJ M)) (ps := [ob (mm M (mI M) (mJ M)) (ad 10 0) 12]) rfl ⟨hM.1, trivial⟩ ?_
      refine go_callV rfl rfl rfl (by omega) rfl (by decide) (by decide) hM.1 ?_
      refine s_Mo_isCottage hM (by simpa [up2_ad hi] using nc2) (Nat.le_trans nc3 (by decide)) (fun j5 hj5 hx5 => ⟨ne_i, ?_⟩) (fun c5 => ⟨ne_i, ?_⟩)
      · -- 1
        show Go 1311 192 0 0 10 [.ref (ad 10 0), .int (nI j1), .int a2] [.int 1] (mm M (up2 (mI M) (ad 10 0) 0 0) (mJ M)) R2
        refine go_if rfl (fun (z : (1 : Int32) = 0) => absurd z (show ¬ ((1 : Int32) = 0) from (by decide))) (fun _ => ?_)
        refine go_blk 3 [] (pc' := 18) (vs' := [.ref (ad 10 0), .int (nI j1), .int a2]) (st' := [.int 2000, .int 1, .int a2]) (M' := mm M (up2 (mI M) (ad 10 0) 0 0) (mJ M)) (ps := []) rfl trivial ?_
        refine go_callS rfl (by decide) rfl rfl (by omega) rfl (by decide) (by decide) ?_
        refine s_Mo_isIn (by omega) (fun c6 => ⟨ne_i, ?_⟩) (fun c6 => ⟨ne_i, ?_⟩)
        · -- 1
          show Go 1311 192 0 0 21 [.ref (ad 10 0), .int (nI j1), .int a2] [.int 1] (mm M (up2 (mI M) (ad 10 0) 0 0) (mJ M)) R2
          refine go_if rfl (fun _ => ?_) (fun (z : ¬ (¬ (1 : Int32) = 0)) => absurd (show ¬ (1 : Int32) = 0 from (by decide)) z)
          refine go_blk 6 [some (.ref (ad 9 2))] (pc' := 34) (vs' := [.ref (ad 10 0), .int (nI j1), .int a2]) (st' := [.int 1]) (M' := mm M (up2 (up2 (mI M) (ad 10 0) 0 0) (ad 9 2) ((nI j1).toNatClampNeg) a2) (mJ M)) (ps := [ob (mm M (up2 (mI M) (ad 10 0) 0 0) (mJ M)) (ad 10 0) 12, mR (mm M (up2 (mI M) (ad 10 0) 0 0) (mJ M)) (ad 10 0) 2 = some (ad 9 2), va_rf (some (ad 9 2)) = .ref (ad 9 2), ob (mm M (up2 (mI M) (ad 10 0) 0 0) (mJ M)) (ad 9 2) 15, vp_in (nI j1) (mN (mm M (up2 (mI M) (ad 10 0) 0 0) (mJ M)) (ad 9 2))]) rfl ⟨hM.1, (hM.r 2 15 7), rfl, (hM.o 2 15 7), (vpi (hM.n 2 15 7) (by omega)), trivial⟩ ?_
          rw [nI_clamp (n := j1) (by omega)]
          refine go_zret rfl rfl (Or.inr rfl) ?_
          exfalso
          grind
        · -- 0
          show Go 1311 192 0 0 21 [.ref (ad 10 0), .int (nI j1), .int a2] [.int 0] (mm M (up2 (mI M) (ad 10 0) 0 0) (mJ M)) R2
          refine go_if rfl (fun (z : ¬ (0 : Int32) = 0) => absurd z (show ¬ (¬ (0 : Int32) = 0) from (by decide))) (fun _ => ?_)
          refine go_blk 1 [] (pc' := 25) (vs' := [.ref (ad 10 0), .int (nI j1), .int a2]) (st' := [.int 0]) (M' := mm M (up2 (mI M) (ad 10 0) 0 0) (mJ M)) (ps := []) rfl trivial ?_
          refine go_zret rfl rfl (Or.inl rfl) ?_
          have ch : ∀ t i k, ¬ ((t = 10 ∧ i = 0 ∧ k = 0)) → vw ad (up2 (mI M) (ad 10 0) 0 0) t i k = vw ad (mI M) t i k := by
            intro t i k hn
            simp only [vw_up2 hi]
            rw [up3_n _ _ (by omega)]
          have chj : ∀ t i k, ¬ ((t = 1000 ∧ i = 0 ∧ k = 0)) → vw ad (mJ M) t i k = vw ad (mJ M) t i k := by
            intro t i k hn
            rfl
          have eJ1 : eJ nb (vw ad (mI M)) (vw ad (up2 (mI M) (ad 10 0) 0 0)) := fun i k h => ch 9 i k (by omega)
          refine h2 _ ⟨hsc, ad, nc, nb, nt, wk, nw, nx, nl, ne, nk, kd, op, rfl, rfl, rfl, hi, ⟨hF, hM, hC, hB, hT, hX⟩, ⟨iS.congr (fun t k h => ch t 0 k (by omega)), iC.congr nc3 (fun t i k h => ch t i k (by omega)) (fun c hc => chj 1 c 4 (by omega)), iB.congr (fun t i k h => ch t i k (by omega)), iR.congr (fun t i k h => ch t i k (by omega)), iL.congr (fun t i k h => ch t i k (by omega)), iT.congr (fun t i k h => ch t i k (by omega))⟩, ⟨jO.congr eJ1 (fun b k _ _ => ch 6 b k (by omega)), jR.congr eJ1, jB.congr nb3 (fun t i k h => ch t i k (by omega)), jX.congr (fun t i k h => ch t i k (by omega)), jL.congr eJ1 (fun b k _ _ => ch 6 b k (by omega)) (fun t i k h => ch t i k (by omega))⟩, kO.congr (fun t i k h => ch t i k (by omega)), kC.congr (fun t i k h => ch t i k (by omega)) ⟨chj 0 0 12 (by omega), chj 10 0 99 (by omega)⟩, kD.congr (fun i k h => ch 9 i k (by omega)), kP.congr eJ1 (fun i k h => ch 9 i k (by have := ppS_sp h; omega)) ⟨ch 10 0 31 (by omega), ch 0 7 19 (by omega), ch 0 7 2 (by omega), ch 0 7 4 (by omega), fun t => ch 0 30 t (by omega)⟩ (chj 0 7 17 (by omega))⟩
      · -- 0
        show Go 1311 192 0 0 10 [.ref (ad 10 0), .int (nI j1), .int a2] [.int 0] (mm M (up2 (mI M) (ad 10 0) 0 0) (mJ M)) R2
        refine go_if rfl (fun _ => ?_) (fun (z : ¬ ((0 : Int32) = 0)) => absurd (show (0 : Int32) = 0 from (by decide)) z)
        refine go_blk 1 [] (pc' := 25) (vs' := [.ref (ad 10 0), .int (nI j1), .int a2]) (st' := [.int 0]) (M' := mm M (up2 (mI M) (ad 10 0) 0 0) (mJ M)) (ps := []) rfl trivial ?_
        refine go_zret rfl rfl (Or.inl rfl) ?_
        have ch : ∀ t i k, ¬ ((t = 10 ∧ i = 0 ∧ k = 0)) → vw ad (up2 (mI M) (ad 10 0) 0 0) t i k = vw ad (mI M) t i k := by
          intro t i k hn
          simp only [vw_up2 hi]
          rw [up3_n _ _ (by omega)]
        have chj : ∀ t i k, ¬ ((t = 1000 ∧ i = 0 ∧ k = 0)) → vw ad (mJ M) t i k = vw ad (mJ M) t i k := by
          intro t i k hn
          rfl
        have eJ1 : eJ nb (vw ad (mI M)) (vw ad (up2 (mI M) (ad 10 0) 0 0)) := fun i k h => ch 9 i k (by omega)
        refine h2 _ ⟨hsc, ad, nc, nb, nt, wk, nw, nx, nl, ne, nk, kd, op, rfl, rfl, rfl, hi, ⟨hF, hM, hC, hB, hT, hX⟩, ⟨iS.congr (fun t k h => ch t 0 k (by omega)), iC.congr nc3 (fun t i k h => ch t i k (by omega)) (fun c hc => chj 1 c 4 (by omega)), iB.congr (fun t i k h => ch t i k (by omega)), iR.congr (fun t i k h => ch t i k (by omega)), iL.congr (fun t i k h => ch t i k (by omega)), iT.congr (fun t i k h => ch t i k (by omega))⟩, ⟨jO.congr eJ1 (fun b k _ _ => ch 6 b k (by omega)), jR.congr eJ1, jB.congr nb3 (fun t i k h => ch t i k (by omega)), jX.congr (fun t i k h => ch t i k (by omega)), jL.congr eJ1 (fun b k _ _ => ch 6 b k (by omega)) (fun t i k h => ch t i k (by omega))⟩, kO.congr (fun t i k h => ch t i k (by omega)), kC.congr (fun t i k h => ch t i k (by omega)) ⟨chj 0 0 12 (by omega), chj 10 0 99 (by omega)⟩, kD.congr (fun i k h => ch 9 i k (by omega)), kP.congr eJ1 (fun i k h => ch 9 i k (by have := ppS_sp h; omega)) ⟨ch 10 0 31 (by omega), ch 0 7 19 (by omega), ch 0 7 2 (by omega), ch 0 7 4 (by omega), fun t => ch 0 30 t (by omega)⟩ (chj 0 7 17 (by omega))⟩
  · -- ('n',)
    show Go 1311 117 0 0 5 [.ref (ad 0 0), .int a1, .int a2, .retAddr 0] [.null] (mm M (mI M) (mJ M)) R
    refine go_blk 2 [] (pc' := 7) (vs' := [.ref (ad 0 0), .int a1, .int a2, .null]) (st' := [.null]) (M' := mm M (mI M) (mJ M)) (ps := []) rfl trivial ?_
    refine go_ifnull0 rfl ?_
    refine go_blk 1 [] (pc' := 22) (vs' := [.ref (ad 0 0), .int a1, .int a2, .null]) (st' := [.int 0]) (M' := mm M (mI M) (mJ M)) (ps := []) rfl trivial ?_
    refine go_zret rfl rfl (Or.inl rfl) ?_
    refine K _ _ hM.1 rfl (fun R2 h2 => ?_)
    show Go 1311 192 0 0 0 [.ref (ad 10 0), .int a1, .int a2] [] (mm M (mI M) (mJ M)) R2
    refine go_blk 5 [] (pc' := 7) (vs' := [.ref (ad 10 0), .int a1, .int a2]) (st' := [.int a1, .ref (ad 10 0)]) (M' := mm M (up2 (mI M) (ad 10 0) 0 0) (mJ M)) (ps := [ob (mm M (mI M) (mJ M)) (ad 10 0) 12]) rfl ⟨hM.1, trivial⟩ ?_
    refine go_callV rfl rfl rfl (by omega) rfl (by decide) (by decide) hM.1 ?_
    refine s_Mo_isCottage hM (by simpa [up2_ad hi] using nc2) (Nat.le_trans nc3 (by decide)) (fun j7 hj7 hx7 => ⟨ne_i, ?_⟩) (fun c7 => ⟨ne_i, ?_⟩)
    · -- 1
      subst hx7
      show Go 1311 192 0 0 10 [.ref (ad 10 0), .int (nI j7), .int a2] [.int 1] (mm M (up2 (mI M) (ad 10 0) 0 0) (mJ M)) R2
      refine go_if rfl (fun (z : (1 : Int32) = 0) => absurd z (show ¬ ((1 : Int32) = 0) from (by decide))) (fun _ => ?_)
      refine go_blk 3 [] (pc' := 18) (vs' := [.ref (ad 10 0), .int (nI j7), .int a2]) (st' := [.int 2000, .int 1, .int a2]) (M' := mm M (up2 (mI M) (ad 10 0) 0 0) (mJ M)) (ps := []) rfl trivial ?_
      refine go_callS rfl (by decide) rfl rfl (by omega) rfl (by decide) (by decide) ?_
      refine s_Mo_isIn (by omega) (fun c8 => ⟨ne_i, ?_⟩) (fun c8 => ⟨ne_i, ?_⟩)
      · -- 1
        show Go 1311 192 0 0 21 [.ref (ad 10 0), .int (nI j7), .int a2] [.int 1] (mm M (up2 (mI M) (ad 10 0) 0 0) (mJ M)) R2
        refine go_if rfl (fun _ => ?_) (fun (z : ¬ (¬ (1 : Int32) = 0)) => absurd (show ¬ (1 : Int32) = 0 from (by decide)) z)
        refine go_blk 6 [some (.ref (ad 9 2))] (pc' := 34) (vs' := [.ref (ad 10 0), .int (nI j7), .int a2]) (st' := [.int 1]) (M' := mm M (up2 (up2 (mI M) (ad 10 0) 0 0) (ad 9 2) ((nI j7).toNatClampNeg) a2) (mJ M)) (ps := [ob (mm M (up2 (mI M) (ad 10 0) 0 0) (mJ M)) (ad 10 0) 12, mR (mm M (up2 (mI M) (ad 10 0) 0 0) (mJ M)) (ad 10 0) 2 = some (ad 9 2), va_rf (some (ad 9 2)) = .ref (ad 9 2), ob (mm M (up2 (mI M) (ad 10 0) 0 0) (mJ M)) (ad 9 2) 15, vp_in (nI j7) (mN (mm M (up2 (mI M) (ad 10 0) 0 0) (mJ M)) (ad 9 2))]) rfl ⟨hM.1, (hM.r 2 15 7), rfl, (hM.o 2 15 7), (vpi (hM.n 2 15 7) (by omega)), trivial⟩ ?_
        rw [nI_clamp (n := j7) (by omega)]
        refine go_zret rfl rfl (Or.inr rfl) ?_
        exfalso
        grind
      · -- 0
        show Go 1311 192 0 0 21 [.ref (ad 10 0), .int (nI j7), .int a2] [.int 0] (mm M (up2 (mI M) (ad 10 0) 0 0) (mJ M)) R2
        refine go_if rfl (fun (z : ¬ (0 : Int32) = 0) => absurd z (show ¬ (¬ (0 : Int32) = 0) from (by decide))) (fun _ => ?_)
        refine go_blk 1 [] (pc' := 25) (vs' := [.ref (ad 10 0), .int (nI j7), .int a2]) (st' := [.int 0]) (M' := mm M (up2 (mI M) (ad 10 0) 0 0) (mJ M)) (ps := []) rfl trivial ?_
        refine go_zret rfl rfl (Or.inl rfl) ?_
        have ch : ∀ t i k, ¬ ((t = 10 ∧ i = 0 ∧ k = 0)) → vw ad (up2 (mI M) (ad 10 0) 0 0) t i k = vw ad (mI M) t i k := by
          intro t i k hn
          simp only [vw_up2 hi]
          rw [up3_n _ _ (by omega)]
        have chj : ∀ t i k, ¬ ((t = 1000 ∧ i = 0 ∧ k = 0)) → vw ad (mJ M) t i k = vw ad (mJ M) t i k := by
          intro t i k hn
          rfl
        have eJ1 : eJ nb (vw ad (mI M)) (vw ad (up2 (mI M) (ad 10 0) 0 0)) := fun i k h => ch 9 i k (by omega)
        refine h2 _ ⟨hsc, ad, nc, nb, nt, wk, nw, nx, nl, ne, nk, kd, op, rfl, rfl, rfl, hi, ⟨hF, hM, hC, hB, hT, hX⟩, ⟨iS.congr (fun t k h => ch t 0 k (by omega)), iC.congr nc3 (fun t i k h => ch t i k (by omega)) (fun c hc => chj 1 c 4 (by omega)), iB.congr (fun t i k h => ch t i k (by omega)), iR.congr (fun t i k h => ch t i k (by omega)), iL.congr (fun t i k h => ch t i k (by omega)), iT.congr (fun t i k h => ch t i k (by omega))⟩, ⟨jO.congr eJ1 (fun b k _ _ => ch 6 b k (by omega)), jR.congr eJ1, jB.congr nb3 (fun t i k h => ch t i k (by omega)), jX.congr (fun t i k h => ch t i k (by omega)), jL.congr eJ1 (fun b k _ _ => ch 6 b k (by omega)) (fun t i k h => ch t i k (by omega))⟩, kO.congr (fun t i k h => ch t i k (by omega)), kC.congr (fun t i k h => ch t i k (by omega)) ⟨chj 0 0 12 (by omega), chj 10 0 99 (by omega)⟩, kD.congr (fun i k h => ch 9 i k (by omega)), kP.congr eJ1 (fun i k h => ch 9 i k (by have := ppS_sp h; omega)) ⟨ch 10 0 31 (by omega), ch 0 7 19 (by omega), ch 0 7 2 (by omega), ch 0 7 4 (by omega), fun t => ch 0 30 t (by omega)⟩ (chj 0 7 17 (by omega))⟩
    · -- 0
      show Go 1311 192 0 0 10 [.ref (ad 10 0), .int a1, .int a2] [.int 0] (mm M (up2 (mI M) (ad 10 0) 0 0) (mJ M)) R2
      refine go_if rfl (fun _ => ?_) (fun (z : ¬ ((0 : Int32) = 0)) => absurd (show (0 : Int32) = 0 from (by decide)) z)
      refine go_blk 1 [] (pc' := 25) (vs' := [.ref (ad 10 0), .int a1, .int a2]) (st' := [.int 0]) (M' := mm M (up2 (mI M) (ad 10 0) 0 0) (mJ M)) (ps := []) rfl trivial ?_
      refine go_zret rfl rfl (Or.inl rfl) ?_
      have ch : ∀ t i k, ¬ ((t = 10 ∧ i = 0 ∧ k = 0)) → vw ad (up2 (mI M) (ad 10 0) 0 0) t i k = vw ad (mI M) t i k := by
        intro t i k hn
        simp only [vw_up2 hi]
        rw [up3_n _ _ (by omega)]
      have chj : ∀ t i k, ¬ ((t = 1000 ∧ i = 0 ∧ k = 0)) → vw ad (mJ M) t i k = vw ad (mJ M) t i k := by
        intro t i k hn
        rfl
      have eJ1 : eJ nb (vw ad (mI M)) (vw ad (up2 (mI M) (ad 10 0) 0 0)) := fun i k h => ch 9 i k (by omega)
      refine h2 _ ⟨hsc, ad, nc, nb, nt, wk, nw, nx, nl, ne, nk, kd, op, rfl, rfl, rfl, hi, ⟨hF, hM, hC, hB, hT, hX⟩, ⟨iS.congr (fun t k h => ch t 0 k (by omega)), iC.congr nc3 (fun t i k h => ch t i k (by omega)) (fun c hc => chj 1 c 4 (by omega)), iB.congr (fun t i k h => ch t i k (by omega)), iR.congr (fun t i k h => ch t i k (by omega)), iL.congr (fun t i k h => ch t i k (by omega)), iT.congr (fun t i k h => ch t i k (by omega))⟩, ⟨jO.congr eJ1 (fun b k _ _ => ch 6 b k (by omega)), jR.congr eJ1, jB.congr nb3 (fun t i k h => ch t i k (by omega)), jX.congr (fun t i k h => ch t i k (by omega)), jL.congr eJ1 (fun b k _ _ => ch 6 b k (by omega)) (fun t i k h => ch t i k (by omega))⟩, kO.congr (fun t i k h => ch t i k (by omega)), kC.congr (fun t i k h => ch t i k (by omega)) ⟨chj 0 0 12 (by omega), chj 10 0 99 (by omega)⟩, kD.congr (fun i k h => ch 9 i k (by omega)), kP.congr eJ1 (fun i k h => ch 9 i k (by have := ppS_sp h; omega)) ⟨ch 10 0 31 (by omega), ch 0 7 19 (by omega), ch 0 7 2 (by omega), ch 0 7 4 (by omega), fun t => ch 0 30 t (by omega)⟩ (chj 0 7 17 (by omega))⟩

