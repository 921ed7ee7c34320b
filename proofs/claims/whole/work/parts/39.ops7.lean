/-! call: shut -/
set_option maxHeartbeats 20000000 in
set_option maxRecDepth 100000 in
theorem op4 {x o u : Nat} {sc : Nat × Nat × (Nat → Int32)} : Op4 (II x o u sc) x o := by
  intro M a1 a2 a3 hI hz0 R K
  obtain ⟨hsc, ad, nc, nb, nt, wk, nw, nx, nl, ne, nk, kd, op, rfl, rfl, rfl, hW⟩ := hI
  obtain ⟨hi, ⟨hF, hM, hC, hB, hT, hX⟩, ⟨iS, iC, iB, iR, iL, iT⟩, ⟨jO, jR, jB, jX, jL⟩, kO, kC, kD, kP, kX⟩ := id hW
  obtain ⟨⟨nc1, nc2, nc3⟩, ⟨nb1, nb2, nb3⟩, ⟨nt1, nt2, nt3⟩, ⟨wk1, wk2, wk3⟩, ⟨nw1, nw2, nw3⟩, ⟨op1, op2, op3⟩, ncm, ncm1, ncm2, ncm3⟩ := id iS
  simp only [vw] at nc1 nc2 nb1 nb2 nt1 nt2 wk1 wk2 nw1 nw2 op1 op2 ncm2 ncm3
  obtain ⟨nn, nn3, nn1, nn2, nnb⟩ := jX.2.1
  simp only [vw] at nn1 nn2
  have nl3 := jL.1.2.2.1
  have nx3 := jX.1.2.2
  have nk3 := jB.1.2.2.2.2.1
  have ne3 := jB.1.2.2.2.2.2
  rcases op with _ | _
  · replace op1 : mI M (ad 0 0) 8 = 0 := op1
    replace op2 : mI M (ad 10 0) 21 = 0 := op2
    rcases hz0 with rfl | rfl
    ·
      show Go 1311 120 0 0 0 [.ref (ad 0 0), .int a1, .int a2, .int 0, .retAddr 0] [] (mm M (mI M) (mJ M)) R
      refine go_blk 2 [] (pc' := 2) (vs' := [.ref (ad 0 0), .int a1, .int a2, .int 0, .retAddr 0]) (st' := [.int a1, .ref (ad 0 0)]) (M' := mm M (mI M) (mJ M)) (ps := []) rfl trivial ?_
      refine go_callV rfl rfl rfl (by omega) rfl (by decide) (by decide) (hF.o 0) ?_
      refine s_CY_cottageAt (by omega) hF hC nc1 nc3 (fun j1 hj1 hx1 => ⟨ne_a, ?_⟩) (fun c1 => ⟨ne_0, ?_⟩)
      · -- ('r', 'ad 1 j1')
        subst hx1
        show Go 1311 120 0 0 5 [.ref (ad 0 0), .int (nI j1), .int a2, .int 0, .retAddr 0] [.ref (ad 1 j1)] (mm M (mI M) (mJ M)) R
        refine go_blk 2 [] (pc' := 9) (vs' := [.ref (ad 0 0), .int (nI j1), .int a2, .int 0, .ref (ad 1 j1)]) (st' := [.ref (ad 1 j1)]) (M' := mm M (mI M) (mJ M)) (ps := []) rfl trivial ?_
        refine go_ifnull1 rfl ?_
        refine go_blk 2 [] (pc' := 14) (vs' := [.ref (ad 0 0), .int (nI j1), .int a2, .int 0, .ref (ad 1 j1)]) (st' := [.int a2, .ref (ad 0 0)]) (M' := mm M (mI M) (mJ M)) (ps := []) rfl trivial ?_
        refine go_callV rfl rfl rfl (by omega) rfl (by decide) (by decide) (hF.o 0) ?_
        refine s_CY_isToComeK (wk := wk) (lo := wk) (by omega) hF wk1 wk3 (Or.inl ⟨op1, rfl⟩) (fun j2 hl2 hj2 hx2 => ⟨ne_i, ?_⟩) (fun c2 => ⟨ne_i, ?_⟩)
        · -- 1
          subst hx2
          show Go 1311 120 0 0 17 [.ref (ad 0 0), .int (nI j1), .int (nI j2), .int 0, .ref (ad 1 j1)] [.int 1] (mm M (mI M) (mJ M)) R
          refine go_if rfl (fun (z : (1 : Int32) = 0) => absurd z (show ¬ ((1 : Int32) = 0) from (by decide))) (fun _ => ?_)
          refine go_blk 2 [] (pc' := 23) (vs' := [.ref (ad 0 0), .int (nI j1), .int (nI j2), .int 0, .ref (ad 1 j1)]) (st' := [.int (nI j2), .ref (ad 1 j1)]) (M' := mm M (mI M) (mJ M)) (ps := []) rfl trivial ?_
          refine go_callV rfl rfl rfl (by omega) rfl (by decide) (by decide) (hC j1 (by assumption)).2 ?_
          refine s_Co_isShut (by omega) hC (by assumption) (by omega) ((iC.1 j1 (by assumption)).2.2.2.2.2 j2 (by omega)) ⟨ne_i, ?_⟩
          show Go 1311 120 0 0 26 [.ref (ad 0 0), .int (nI j1), .int (nI j2), .int 0, .ref (ad 1 j1)] [.int ((mI M) (ad 9 5) (7 * j2 + j1))] (mm M (mI M) (mJ M)) R
          refine go_blk 1 [] (pc' := 27) (vs' := [.ref (ad 0 0), .int (nI j1), .int (nI j2), .int 0, .ref (ad 1 j1)]) (st' := [.int 0, .int ((mI M) (ad 9 5) (7 * j2 + j1))]) (M' := mm M (mI M) (mJ M)) (ps := []) rfl trivial ?_
          refine go_icmp rfl (fun (c3 : ¬ ((mI M) (ad 9 5) (7 * j2 + j1)) = 0) => ?_) (fun (c3 : ¬ (¬ ((mI M) (ad 9 5) (7 * j2 + j1)) = 0)) => ?_)
          · -- ¬ ((mI M) (ad 9 5) (7 * j2 + j1)) = 0
            refine go_blk 3 [] (pc' := 36) (vs' := [.ref (ad 0 0), .int (nI j1), .int (nI j2), .int 0, .ref (ad 1 j1)]) (st' := [.int 0, .int (nI j2), .ref (ad 1 j1)]) (M' := mm M (mI M) (mJ M)) (ps := []) rfl trivial ?_
            refine go_callV rfl rfl rfl (by omega) rfl (by decide) (by decide) (hC j1 (by assumption)).2 ?_
            show Go (1311 - 1) 23 0 0 0 [.ref (ad 1 j1), .int (nI j2), .int 0] [] (mm M (mI M) (mJ M)) _
            refine go_blk 2 [] (pc' := 2) (vs' := [.ref (ad 1 j1), .int (nI j2), .int 0]) (st' := [.int 0, .ref (ad 1 j1)]) (M' := mm M (mI M) (mJ M)) (ps := []) rfl trivial ?_
            refine go_if rfl (fun _ => ?_) (fun (z : ¬ ((0 : Int32) = 0)) => absurd (show (0 : Int32) = 0 from (by decide)) z)
            refine go_blk 9 [] (pc' := 31) (vs' := [.ref (ad 1 j1), .int (nI j2), .int 0]) (st' := []) (M' := mm M (mI M) (up2 (mJ M) (ad 1 j1) 4 (((mJ M) (ad 1 j1) 4) &&& (((1 : Int64) <<< ((nI j2).toInt64 &&& 63)) ^^^ (-1))))) (ps := [ob (mm M (mI M) (mJ M)) (ad 1 j1) 2, ob (mm M (mI M) (mJ M)) (ad 1 j1) 2]) rfl ⟨(hC j1 (by assumption)).2, (hC j1 (by assumption)).2, trivial⟩ ?_
            refine go_vret rfl rfl ?_
            refine ⟨ne_v, ?_⟩
            show Go 1311 120 0 0 39 [.ref (ad 0 0), .int (nI j1), .int (nI j2), .int 0, .ref (ad 1 j1)] [] (mm M (mI M) (up2 (mJ M) (ad 1 j1) 4 (((mJ M) (ad 1 j1) 4) &&& (((1 : Int64) <<< ((nI j2).toInt64 &&& 63)) ^^^ (-1))))) R
            refine go_blk 1 [] (pc' := 40) (vs' := [.ref (ad 0 0), .int (nI j1), .int (nI j2), .int 0, .ref (ad 1 j1)]) (st' := [.int 1]) (M' := mm M (mI M) (up2 (mJ M) (ad 1 j1) 4 (((mJ M) (ad 1 j1) 4) &&& (((1 : Int64) <<< ((nI j2).toInt64 &&& 63)) ^^^ (-1))))) (ps := []) rfl trivial ?_
            refine go_zret rfl rfl (Or.inr rfl) ?_
            refine K _ _ hM.1 rfl (fun R2 h2 => ?_)
            show Go 1311 196 0 0 0 [.ref (ad 10 0), .int (nI j1), .int (nI j2), .int 0] [] (mm M (mI M) (up2 (mJ M) (ad 1 j1) 4 (((mJ M) (ad 1 j1) 4) &&& (((1 : Int64) <<< ((nI j2).toInt64 &&& 63)) ^^^ (-1))))) R2
            refine go_blk 5 [] (pc' := 7) (vs' := [.ref (ad 10 0), .int (nI j1), .int (nI j2), .int 0]) (st' := [.int (nI j1), .ref (ad 10 0)]) (M' := mm M (up2 (mI M) (ad 10 0) 0 0) (up2 (mJ M) (ad 1 j1) 4 (((mJ M) (ad 1 j1) 4) &&& (((1 : Int64) <<< ((nI j2).toInt64 &&& 63)) ^^^ (-1))))) (ps := [ob (mm M (mI M) (up2 (mJ M) (ad 1 j1) 4 (((mJ M) (ad 1 j1) 4) &&& (((1 : Int64) <<< ((nI j2).toInt64 &&& 63)) ^^^ (-1))))) (ad 10 0) 12]) rfl ⟨hM.1, trivial⟩ ?_
            refine go_callV rfl rfl rfl (by omega) rfl (by decide) (by decide) hM.1 ?_
            refine s_Mo_isCottage hM (((up2_n _ _ (fun z => absurd z.2 (by decide))).trans (rfl)).trans nc2) (Nat.le_trans nc3 (by decide)) (fun j4 hj4 hx4 => ⟨ne_i, ?_⟩) (fun c4 => ⟨ne_i, ?_⟩)
            · -- 1
              show Go 1311 196 0 0 10 [.ref (ad 10 0), .int (nI j1), .int (nI j2), .int 0] [.int 1] (mm M (up2 (mI M) (ad 10 0) 0 0) (up2 (mJ M) (ad 1 j1) 4 (((mJ M) (ad 1 j1) 4) &&& (((1 : Int64) <<< ((nI j2).toInt64 &&& 63)) ^^^ (-1))))) R2
              refine go_if rfl (fun (z : (1 : Int32) = 0) => absurd z (show ¬ ((1 : Int32) = 0) from (by decide))) (fun _ => ?_)
              refine go_blk 2 [] (pc' := 15) (vs' := [.ref (ad 10 0), .int (nI j1), .int (nI j2), .int 0]) (st' := [.int (nI j2), .ref (ad 10 0)]) (M' := mm M (up2 (mI M) (ad 10 0) 0 0) (up2 (mJ M) (ad 1 j1) 4 (((mJ M) (ad 1 j1) 4) &&& (((1 : Int64) <<< ((nI j2).toInt64 &&& 63)) ^^^ (-1))))) (ps := []) rfl trivial ?_
              refine go_callV rfl rfl rfl (by omega) rfl (by decide) (by decide) hM.1 ?_
              refine s_Mo_isAheadK (wk := wk) (lo := wk) (by omega) hM (((up2_n _ _ (fun z => absurd z.2 (by decide))).trans (rfl)).trans wk2) wk3 (Or.inl ⟨(((up2_n _ _ (fun z => absurd z.2 (by decide))).trans (rfl)).trans op2), rfl⟩) (fun j5 hl5 hj5 hx5 => ⟨ne_i, ?_⟩) (fun c5 => ⟨ne_i, ?_⟩)
              · -- 1
                obtain rfl : j2 = j5 := (nI_eqs (by omega) (by omega)).mp hx5
                show Go 1311 196 0 0 18 [.ref (ad 10 0), .int (nI j1), .int (nI j2), .int 0] [.int 1] (mm M (up2 (mI M) (ad 10 0) 0 0) (up2 (mJ M) (ad 1 j1) 4 (((mJ M) (ad 1 j1) 4) &&& (((1 : Int64) <<< ((nI j2).toInt64 &&& 63)) ^^^ (-1))))) R2
                refine go_if rfl (fun (z : (1 : Int32) = 0) => absurd z (show ¬ ((1 : Int32) = 0) from (by decide))) (fun _ => ?_)
                refine go_blk 9 [some (.ref (ad 9 5)), some (.int ((mI M) (ad 9 5) (7 * j2 + j1)))] (pc' := 33) (vs' := [.ref (ad 10 0), .int (nI j1), .int (nI j2), .int 0]) (st' := [.int 0, .int ((mI M) (ad 9 5) (7 * j2 + j1))]) (M' := mm M (up2 (mI M) (ad 10 0) 0 0) (up2 (mJ M) (ad 1 j1) 4 (((mJ M) (ad 1 j1) 4) &&& (((1 : Int64) <<< ((nI j2).toInt64 &&& 63)) ^^^ (-1))))) (ps := [ob (mm M (up2 (mI M) (ad 10 0) 0 0) (up2 (mJ M) (ad 1 j1) 4 (((mJ M) (ad 1 j1) 4) &&& (((1 : Int64) <<< ((nI j2).toInt64 &&& 63)) ^^^ (-1))))) (ad 10 0) 12, mR (mm M (up2 (mI M) (ad 10 0) 0 0) (up2 (mJ M) (ad 1 j1) 4 (((mJ M) (ad 1 j1) 4) &&& (((1 : Int64) <<< ((nI j2).toInt64 &&& 63)) ^^^ (-1))))) (ad 10 0) 5 = some (ad 9 5), va_rf (some (ad 9 5)) = .ref (ad 9 5), ob (mm M (up2 (mI M) (ad 10 0) 0 0) (up2 (mJ M) (ad 1 j1) 4 (((mJ M) (ad 1 j1) 4) &&& (((1 : Int64) <<< ((nI j2).toInt64 &&& 63)) ^^^ (-1))))) (ad 9 5) 13, 13 = 13 ∨ 13 = 14, vp_in ((7 * (nI j2)) + (nI j1)) (mN (mm M (up2 (mI M) (ad 10 0) 0 0) (up2 (mJ M) (ad 1 j1) 4 (((mJ M) (ad 1 j1) 4) &&& (((1 : Int64) <<< ((nI j2).toInt64 &&& 63)) ^^^ (-1))))) (ad 9 5)), (Value.int ((up2 (mI M) (ad 10 0) 0 0) (ad 9 5) (((7 * (nI j2)) + (nI j1)).toNatClampNeg))) = .int ((mI M) (ad 9 5) (7 * j2 + j1))]) rfl ⟨hM.1, (hM.r 5 13 364), rfl, (hM.o 5 13 364), (by decide), (vp_eq (eq_add (eq_mul (show (7 : Int32) = nI 7 from rfl) rfl) rfl) (vpi (hM.n 5 13 364) (by omega))), congrArg Value.int ((congrArg (fun z => (up2 (mI M) (ad 10 0) 0 0) (ad 9 5) z) (cl_of (eq_add (eq_mul (show (7 : Int32) = nI 7 from rfl) rfl) rfl) (by omega))).trans ((up2_n _ _ (fun z => absurd (hi _ _ _ _ z.1).1 (by decide))).trans (rfl))), trivial⟩ ?_
                refine go_icmp rfl (fun _ => ?_) (fun (z : ¬ (¬ ((mI M) (ad 9 5) (7 * j2 + j1)) = 0)) => absurd (show ¬ ((mI M) (ad 9 5) (7 * j2 + j1)) = 0 from c3) z)
                refine go_blk 10 [some (.ref (ad 9 5))] (pc' := 51) (vs' := [.ref (ad 10 0), .int (nI j1), .int (nI j2), .int 0]) (st' := [.int 1]) (M' := mm M (up2 (up2 (mI M) (ad 10 0) 0 0) (ad 9 5) (((7 * (nI j2)) + (nI j1)).toNatClampNeg) 0) (up2 (mJ M) (ad 1 j1) 4 (((mJ M) (ad 1 j1) 4) &&& (((1 : Int64) <<< ((nI j2).toInt64 &&& 63)) ^^^ (-1))))) (ps := [ob (mm M (up2 (mI M) (ad 10 0) 0 0) (up2 (mJ M) (ad 1 j1) 4 (((mJ M) (ad 1 j1) 4) &&& (((1 : Int64) <<< ((nI j2).toInt64 &&& 63)) ^^^ (-1))))) (ad 10 0) 12, mR (mm M (up2 (mI M) (ad 10 0) 0 0) (up2 (mJ M) (ad 1 j1) 4 (((mJ M) (ad 1 j1) 4) &&& (((1 : Int64) <<< ((nI j2).toInt64 &&& 63)) ^^^ (-1))))) (ad 10 0) 5 = some (ad 9 5), va_rf (some (ad 9 5)) = .ref (ad 9 5), ob (mm M (up2 (mI M) (ad 10 0) 0 0) (up2 (mJ M) (ad 1 j1) 4 (((mJ M) (ad 1 j1) 4) &&& (((1 : Int64) <<< ((nI j2).toInt64 &&& 63)) ^^^ (-1))))) (ad 9 5) 13, vp_in ((7 * (nI j2)) + (nI j1)) (mN (mm M (up2 (mI M) (ad 10 0) 0 0) (up2 (mJ M) (ad 1 j1) 4 (((mJ M) (ad 1 j1) 4) &&& (((1 : Int64) <<< ((nI j2).toInt64 &&& 63)) ^^^ (-1))))) (ad 9 5))]) rfl ⟨hM.1, (hM.r 5 13 364), rfl, (hM.o 5 13 364), (vp_eq (eq_add (eq_mul (show (7 : Int32) = nI 7 from rfl) rfl) rfl) (vpi (hM.n 5 13 364) (by omega))), trivial⟩ ?_
                rw [cl_of (x := (7 * j2 + j1)) (eq_add (eq_mul (show (7 : Int32) = nI 7 from rfl) rfl) rfl) (by omega)]
                refine go_zret rfl rfl (Or.inr rfl) ?_
                have ch : ∀ t i k, ¬ ((t = 10 ∧ i = 0 ∧ k = 0) ∨ (t = 9 ∧ i = 5 ∧ k = (7 * j2 + j1))) → vw ad (up2 (up2 (mI M) (ad 10 0) 0 0) (ad 9 5) ((7 * j2 + j1)) 0) t i k = vw ad (mI M) t i k := by
                  intro t i k hn
                  simp only [vw_up2 hi]
                  rw [up3_n _ _ (by omega), up3_n _ _ (by omega)]
                have chj : ∀ t i k, ¬ ((t = 1 ∧ i = j1 ∧ k = 4)) → vw ad (up2 (mJ M) (ad 1 j1) 4 (((mJ M) (ad 1 j1) 4) &&& (((1 : Int64) <<< ((nI j2).toInt64 &&& 63)) ^^^ (-1)))) t i k = vw ad (mJ M) t i k := by
                  intro t i k hn
                  simp only [vw_up2 hi]
                  rw [up3_n _ _ (by omega)]
                have eJ1 : eJ nb (vw ad (mI M)) (vw ad (up2 (up2 (mI M) (ad 10 0) 0 0) (ad 9 5) ((7 * j2 + j1)) 0)) := fun i k h => ch 9 i k (by omega)
                refine h2 _ ⟨hsc, ad, nc, nb, nt, wk, nw, nx, nl, ne, nk, kd, false, rfl, rfl, rfl, hi, ⟨hF, hM, hC, hB, hT, hX⟩, ⟨iS.congr (fun t k h => ch t 0 k (by omega)), ?_, iB.congr (fun t i k h => ch t i k (by omega)), iR.congr (fun t i k h => ch t i k (by omega)), iL.congr (fun t i k h => ch t i k (by omega)), iT.congr (fun t i k h => ch t i k (by omega))⟩, ⟨jO.congr eJ1 (fun b k _ _ _ => ch 6 b k (by omega)), jR.congr eJ1, jB.congr nb3 (fun t i k h => ch t i k (by omega)), jX.congr (fun t i k h => ch t i k (by omega)), jL.congr eJ1 (fun b k _ _ _ => ch 6 b k (by omega)) (fun t i k h => ch t i k (by omega))⟩, kO.congr iB wk3 (fun t i k h => ch t i k (by omega)) (fun b _ _ => ch 6 b 8 (by omega)), kC.congr (fun t i k h => ch t i k (by omega)) ⟨chj 0 0 12 (by omega), chj 10 0 99 (by omega)⟩, kD.congr (fun i k h => ch 9 i k (by omega)), kP.congr eJ1 (fun i k h => ch 9 i k (by have := ppS_sp h; omega)) ⟨ch 10 0 31 (by omega), ch 0 7 19 (by omega), ch 0 7 2 (by omega), ch 0 7 4 (by omega), fun t => ch 0 30 t (by omega)⟩ (chj 0 7 17 (by omega)), kX.congr (fun t i k h => ch t i k (by omega))⟩
                refine iC.shut (c := j1) (w := j2) false nc3 (by assumption) (by omega) (fun t i k h1 h2 => ch t i k (by omega)) ?_ (fun a ha => chj 1 a 4 (by omega)) (fun u hu => ?_)
                · show vw ad (up2 (up2 (mI M) (ad 10 0) 0 0) (ad 9 5) ((7 * j2 + j1)) 0) 9 5 (7 * j2 + j1) = _
                  simp only [vw_up2 hi]; simp [up3]
                · show (vw ad (up2 (mJ M) (ad 1 j1) 4 (((mJ M) (ad 1 j1) 4) &&& (((1 : Int64) <<< ((nI j2).toInt64 &&& 63)) ^^^ (-1)))) 1 j1 4).toBitVec.getLsbD u = _
                  simp only [vw_up2 hi]
                  rw [up3_s]
                  exact sh_and _ (by omega) hu
              · exact absurd ⟨j2, hl2, hj2, rfl⟩ c5
            · exact absurd ⟨j1, hj1, rfl⟩ c4
          · -- ¬ (¬ ((mI M) (ad 9 5) (7 * j2 + j1)) = 0)
            refine go_blk 1 [] (pc' := 31) (vs' := [.ref (ad 0 0), .int (nI j1), .int (nI j2), .int 0, .ref (ad 1 j1)]) (st' := [.int 0]) (M' := mm M (mI M) (mJ M)) (ps := []) rfl trivial ?_
            refine go_zret rfl rfl (Or.inl rfl) ?_
            refine K _ _ hM.1 rfl (fun R2 h2 => ?_)
            show Go 1311 196 0 0 0 [.ref (ad 10 0), .int (nI j1), .int (nI j2), .int 0] [] (mm M (mI M) (mJ M)) R2
            refine go_blk 5 [] (pc' := 7) (vs' := [.ref (ad 10 0), .int (nI j1), .int (nI j2), .int 0]) (st' := [.int (nI j1), .ref (ad 10 0)]) (M' := mm M (up2 (mI M) (ad 10 0) 0 0) (mJ M)) (ps := [ob (mm M (mI M) (mJ M)) (ad 10 0) 12]) rfl ⟨hM.1, trivial⟩ ?_
            refine go_callV rfl rfl rfl (by omega) rfl (by decide) (by decide) hM.1 ?_
            refine s_Mo_isCottage hM (((up2_n _ _ (fun z => absurd z.2 (by decide))).trans (rfl)).trans nc2) (Nat.le_trans nc3 (by decide)) (fun j6 hj6 hx6 => ⟨ne_i, ?_⟩) (fun c6 => ⟨ne_i, ?_⟩)
            · -- 1
              show Go 1311 196 0 0 10 [.ref (ad 10 0), .int (nI j1), .int (nI j2), .int 0] [.int 1] (mm M (up2 (mI M) (ad 10 0) 0 0) (mJ M)) R2
              refine go_if rfl (fun (z : (1 : Int32) = 0) => absurd z (show ¬ ((1 : Int32) = 0) from (by decide))) (fun _ => ?_)
              refine go_blk 2 [] (pc' := 15) (vs' := [.ref (ad 10 0), .int (nI j1), .int (nI j2), .int 0]) (st' := [.int (nI j2), .ref (ad 10 0)]) (M' := mm M (up2 (mI M) (ad 10 0) 0 0) (mJ M)) (ps := []) rfl trivial ?_
              refine go_callV rfl rfl rfl (by omega) rfl (by decide) (by decide) hM.1 ?_
              refine s_Mo_isAheadK (wk := wk) (lo := wk) (by omega) hM (((up2_n _ _ (fun z => absurd z.2 (by decide))).trans (rfl)).trans wk2) wk3 (Or.inl ⟨(((up2_n _ _ (fun z => absurd z.2 (by decide))).trans (rfl)).trans op2), rfl⟩) (fun j7 hl7 hj7 hx7 => ⟨ne_i, ?_⟩) (fun c7 => ⟨ne_i, ?_⟩)
              · -- 1
                obtain rfl : j2 = j7 := (nI_eqs (by omega) (by omega)).mp hx7
                show Go 1311 196 0 0 18 [.ref (ad 10 0), .int (nI j1), .int (nI j2), .int 0] [.int 1] (mm M (up2 (mI M) (ad 10 0) 0 0) (mJ M)) R2
                refine go_if rfl (fun (z : (1 : Int32) = 0) => absurd z (show ¬ ((1 : Int32) = 0) from (by decide))) (fun _ => ?_)
                refine go_blk 9 [some (.ref (ad 9 5)), some (.int ((mI M) (ad 9 5) (7 * j2 + j1)))] (pc' := 33) (vs' := [.ref (ad 10 0), .int (nI j1), .int (nI j2), .int 0]) (st' := [.int 0, .int ((mI M) (ad 9 5) (7 * j2 + j1))]) (M' := mm M (up2 (mI M) (ad 10 0) 0 0) (mJ M)) (ps := [ob (mm M (up2 (mI M) (ad 10 0) 0 0) (mJ M)) (ad 10 0) 12, mR (mm M (up2 (mI M) (ad 10 0) 0 0) (mJ M)) (ad 10 0) 5 = some (ad 9 5), va_rf (some (ad 9 5)) = .ref (ad 9 5), ob (mm M (up2 (mI M) (ad 10 0) 0 0) (mJ M)) (ad 9 5) 13, 13 = 13 ∨ 13 = 14, vp_in ((7 * (nI j2)) + (nI j1)) (mN (mm M (up2 (mI M) (ad 10 0) 0 0) (mJ M)) (ad 9 5)), (Value.int ((up2 (mI M) (ad 10 0) 0 0) (ad 9 5) (((7 * (nI j2)) + (nI j1)).toNatClampNeg))) = .int ((mI M) (ad 9 5) (7 * j2 + j1))]) rfl ⟨hM.1, (hM.r 5 13 364), rfl, (hM.o 5 13 364), (by decide), (vp_eq (eq_add (eq_mul (show (7 : Int32) = nI 7 from rfl) rfl) rfl) (vpi (hM.n 5 13 364) (by omega))), congrArg Value.int ((congrArg (fun z => (up2 (mI M) (ad 10 0) 0 0) (ad 9 5) z) (cl_of (eq_add (eq_mul (show (7 : Int32) = nI 7 from rfl) rfl) rfl) (by omega))).trans ((up2_n _ _ (fun z => absurd (hi _ _ _ _ z.1).1 (by decide))).trans (rfl))), trivial⟩ ?_
                refine go_icmp rfl (fun (z : ¬ ((mI M) (ad 9 5) (7 * j2 + j1)) = 0) => absurd z (show ¬ (¬ ((mI M) (ad 9 5) (7 * j2 + j1)) = 0) from c3)) (fun _ => ?_)
                refine go_blk 1 [] (pc' := 37) (vs' := [.ref (ad 10 0), .int (nI j1), .int (nI j2), .int 0]) (st' := [.int 0]) (M' := mm M (up2 (mI M) (ad 10 0) 0 0) (mJ M)) (ps := []) rfl trivial ?_
                refine go_zret rfl rfl (Or.inl rfl) ?_
                exact h2 _ ⟨hsc, ad, nc, nb, nt, wk, nw, nx, nl, ne, nk, kd, false, rfl, rfl, rfl, hW.thr⟩
              · exact absurd ⟨j2, hl2, hj2, rfl⟩ c7
            · exact absurd ⟨j1, hj1, rfl⟩ c6
        · -- 0
          show Go 1311 120 0 0 17 [.ref (ad 0 0), .int (nI j1), .int a2, .int 0, .ref (ad 1 j1)] [.int 0] (mm M (mI M) (mJ M)) R
          refine go_if rfl (fun _ => ?_) (fun (z : ¬ ((0 : Int32) = 0)) => absurd (show (0 : Int32) = 0 from (by decide)) z)
          refine go_blk 1 [] (pc' := 31) (vs' := [.ref (ad 0 0), .int (nI j1), .int a2, .int 0, .ref (ad 1 j1)]) (st' := [.int 0]) (M' := mm M (mI M) (mJ M)) (ps := []) rfl trivial ?_
          refine go_zret rfl rfl (Or.inl rfl) ?_
          refine K _ _ hM.1 rfl (fun R2 h2 => ?_)
          show Go 1311 196 0 0 0 [.ref (ad 10 0), .int (nI j1), .int a2, .int 0] [] (mm M (mI M) (mJ M)) R2
          refine go_blk 5 [] (pc' := 7) (vs' := [.ref (ad 10 0), .int (nI j1), .int a2, .int 0]) (st' := [.int (nI j1), .ref (ad 10 0)]) (M' := mm M (up2 (mI M) (ad 10 0) 0 0) (mJ M)) (ps := [ob (mm M (mI M) (mJ M)) (ad 10 0) 12]) rfl ⟨hM.1, trivial⟩ ?_
          refine go_callV rfl rfl rfl (by omega) rfl (by decide) (by decide) hM.1 ?_
          refine s_Mo_isCottage hM (((up2_n _ _ (fun z => absurd z.2 (by decide))).trans (rfl)).trans nc2) (Nat.le_trans nc3 (by decide)) (fun j8 hj8 hx8 => ⟨ne_i, ?_⟩) (fun c8 => ⟨ne_i, ?_⟩)
          · -- 1
            show Go 1311 196 0 0 10 [.ref (ad 10 0), .int (nI j1), .int a2, .int 0] [.int 1] (mm M (up2 (mI M) (ad 10 0) 0 0) (mJ M)) R2
            refine go_if rfl (fun (z : (1 : Int32) = 0) => absurd z (show ¬ ((1 : Int32) = 0) from (by decide))) (fun _ => ?_)
            refine go_blk 2 [] (pc' := 15) (vs' := [.ref (ad 10 0), .int (nI j1), .int a2, .int 0]) (st' := [.int a2, .ref (ad 10 0)]) (M' := mm M (up2 (mI M) (ad 10 0) 0 0) (mJ M)) (ps := []) rfl trivial ?_
            refine go_callV rfl rfl rfl (by omega) rfl (by decide) (by decide) hM.1 ?_
            refine s_Mo_isAheadK (wk := wk) (lo := wk) (by omega) hM (((up2_n _ _ (fun z => absurd z.2 (by decide))).trans (rfl)).trans wk2) wk3 (Or.inl ⟨(((up2_n _ _ (fun z => absurd z.2 (by decide))).trans (rfl)).trans op2), rfl⟩) (fun j9 hl9 hj9 hx9 => ⟨ne_i, ?_⟩) (fun c9 => ⟨ne_i, ?_⟩)
            · exact absurd ⟨j9, hl9, hj9, hx9⟩ c2
            · -- 0
              show Go 1311 196 0 0 18 [.ref (ad 10 0), .int (nI j1), .int a2, .int 0] [.int 0] (mm M (up2 (mI M) (ad 10 0) 0 0) (mJ M)) R2
              refine go_if rfl (fun _ => ?_) (fun (z : ¬ ((0 : Int32) = 0)) => absurd (show (0 : Int32) = 0 from (by decide)) z)
              refine go_blk 1 [] (pc' := 37) (vs' := [.ref (ad 10 0), .int (nI j1), .int a2, .int 0]) (st' := [.int 0]) (M' := mm M (up2 (mI M) (ad 10 0) 0 0) (mJ M)) (ps := []) rfl trivial ?_
              refine go_zret rfl rfl (Or.inl rfl) ?_
              exact h2 _ ⟨hsc, ad, nc, nb, nt, wk, nw, nx, nl, ne, nk, kd, false, rfl, rfl, rfl, hW.thr⟩
          · exact absurd ⟨j1, hj1, rfl⟩ c8
      · -- ('n',)
        show Go 1311 120 0 0 5 [.ref (ad 0 0), .int a1, .int a2, .int 0, .retAddr 0] [.null] (mm M (mI M) (mJ M)) R
        refine go_blk 2 [] (pc' := 9) (vs' := [.ref (ad 0 0), .int a1, .int a2, .int 0, .null]) (st' := [.null]) (M' := mm M (mI M) (mJ M)) (ps := []) rfl trivial ?_
        refine go_ifnull0 rfl ?_
        refine go_blk 1 [] (pc' := 31) (vs' := [.ref (ad 0 0), .int a1, .int a2, .int 0, .null]) (st' := [.int 0]) (M' := mm M (mI M) (mJ M)) (ps := []) rfl trivial ?_
        refine go_zret rfl rfl (Or.inl rfl) ?_
        refine K _ _ hM.1 rfl (fun R2 h2 => ?_)
        show Go 1311 196 0 0 0 [.ref (ad 10 0), .int a1, .int a2, .int 0] [] (mm M (mI M) (mJ M)) R2
        refine go_blk 5 [] (pc' := 7) (vs' := [.ref (ad 10 0), .int a1, .int a2, .int 0]) (st' := [.int a1, .ref (ad 10 0)]) (M' := mm M (up2 (mI M) (ad 10 0) 0 0) (mJ M)) (ps := [ob (mm M (mI M) (mJ M)) (ad 10 0) 12]) rfl ⟨hM.1, trivial⟩ ?_
        refine go_callV rfl rfl rfl (by omega) rfl (by decide) (by decide) hM.1 ?_
        refine s_Mo_isCottage hM (((up2_n _ _ (fun z => absurd z.2 (by decide))).trans (rfl)).trans nc2) (Nat.le_trans nc3 (by decide)) (fun j10 hj10 hx10 => ⟨ne_i, ?_⟩) (fun c10 => ⟨ne_i, ?_⟩)
        · exact absurd ⟨j10, hj10, hx10⟩ c1
        · -- 0
          show Go 1311 196 0 0 10 [.ref (ad 10 0), .int a1, .int a2, .int 0] [.int 0] (mm M (up2 (mI M) (ad 10 0) 0 0) (mJ M)) R2
          refine go_if rfl (fun _ => ?_) (fun (z : ¬ ((0 : Int32) = 0)) => absurd (show (0 : Int32) = 0 from (by decide)) z)
          refine go_blk 1 [] (pc' := 37) (vs' := [.ref (ad 10 0), .int a1, .int a2, .int 0]) (st' := [.int 0]) (M' := mm M (up2 (mI M) (ad 10 0) 0 0) (mJ M)) (ps := []) rfl trivial ?_
          refine go_zret rfl rfl (Or.inl rfl) ?_
          exact h2 _ ⟨hsc, ad, nc, nb, nt, wk, nw, nx, nl, ne, nk, kd, false, rfl, rfl, rfl, hW.thr⟩
    ·
      show Go 1311 120 0 0 0 [.ref (ad 0 0), .int a1, .int a2, .int 1, .retAddr 0] [] (mm M (mI M) (mJ M)) R
      refine go_blk 2 [] (pc' := 2) (vs' := [.ref (ad 0 0), .int a1, .int a2, .int 1, .retAddr 0]) (st' := [.int a1, .ref (ad 0 0)]) (M' := mm M (mI M) (mJ M)) (ps := []) rfl trivial ?_
      refine go_callV rfl rfl rfl (by omega) rfl (by decide) (by decide) (hF.o 0) ?_
      refine s_CY_cottageAt (by omega) hF hC nc1 nc3 (fun j1 hj1 hx1 => ⟨ne_a, ?_⟩) (fun c1 => ⟨ne_0, ?_⟩)
      · -- ('r', 'ad 1 j1')
        subst hx1
        show Go 1311 120 0 0 5 [.ref (ad 0 0), .int (nI j1), .int a2, .int 1, .retAddr 0] [.ref (ad 1 j1)] (mm M (mI M) (mJ M)) R
        refine go_blk 2 [] (pc' := 9) (vs' := [.ref (ad 0 0), .int (nI j1), .int a2, .int 1, .ref (ad 1 j1)]) (st' := [.ref (ad 1 j1)]) (M' := mm M (mI M) (mJ M)) (ps := []) rfl trivial ?_
        refine go_ifnull1 rfl ?_
        refine go_blk 2 [] (pc' := 14) (vs' := [.ref (ad 0 0), .int (nI j1), .int a2, .int 1, .ref (ad 1 j1)]) (st' := [.int a2, .ref (ad 0 0)]) (M' := mm M (mI M) (mJ M)) (ps := []) rfl trivial ?_
        refine go_callV rfl rfl rfl (by omega) rfl (by decide) (by decide) (hF.o 0) ?_
        refine s_CY_isToComeK (wk := wk) (lo := wk) (by omega) hF wk1 wk3 (Or.inl ⟨op1, rfl⟩) (fun j2 hl2 hj2 hx2 => ⟨ne_i, ?_⟩) (fun c2 => ⟨ne_i, ?_⟩)
        · -- 1
          subst hx2
          show Go 1311 120 0 0 17 [.ref (ad 0 0), .int (nI j1), .int (nI j2), .int 1, .ref (ad 1 j1)] [.int 1] (mm M (mI M) (mJ M)) R
          refine go_if rfl (fun (z : (1 : Int32) = 0) => absurd z (show ¬ ((1 : Int32) = 0) from (by decide))) (fun _ => ?_)
          refine go_blk 2 [] (pc' := 23) (vs' := [.ref (ad 0 0), .int (nI j1), .int (nI j2), .int 1, .ref (ad 1 j1)]) (st' := [.int (nI j2), .ref (ad 1 j1)]) (M' := mm M (mI M) (mJ M)) (ps := []) rfl trivial ?_
          refine go_callV rfl rfl rfl (by omega) rfl (by decide) (by decide) (hC j1 (by assumption)).2 ?_
          refine s_Co_isShut (by omega) hC (by assumption) (by omega) ((iC.1 j1 (by assumption)).2.2.2.2.2 j2 (by omega)) ⟨ne_i, ?_⟩
          show Go 1311 120 0 0 26 [.ref (ad 0 0), .int (nI j1), .int (nI j2), .int 1, .ref (ad 1 j1)] [.int ((mI M) (ad 9 5) (7 * j2 + j1))] (mm M (mI M) (mJ M)) R
          refine go_blk 1 [] (pc' := 27) (vs' := [.ref (ad 0 0), .int (nI j1), .int (nI j2), .int 1, .ref (ad 1 j1)]) (st' := [.int 1, .int ((mI M) (ad 9 5) (7 * j2 + j1))]) (M' := mm M (mI M) (mJ M)) (ps := []) rfl trivial ?_
          refine go_icmp rfl (fun (c3 : ¬ ((mI M) (ad 9 5) (7 * j2 + j1)) = 1) => ?_) (fun (c3 : ¬ (¬ ((mI M) (ad 9 5) (7 * j2 + j1)) = 1)) => ?_)
          · -- ¬ ((mI M) (ad 9 5) (7 * j2 + j1)) = 1
            refine go_blk 3 [] (pc' := 36) (vs' := [.ref (ad 0 0), .int (nI j1), .int (nI j2), .int 1, .ref (ad 1 j1)]) (st' := [.int 1, .int (nI j2), .ref (ad 1 j1)]) (M' := mm M (mI M) (mJ M)) (ps := []) rfl trivial ?_
            refine go_callV rfl rfl rfl (by omega) rfl (by decide) (by decide) (hC j1 (by assumption)).2 ?_
            show Go (1311 - 1) 23 0 0 0 [.ref (ad 1 j1), .int (nI j2), .int 1] [] (mm M (mI M) (mJ M)) _
            refine go_blk 2 [] (pc' := 2) (vs' := [.ref (ad 1 j1), .int (nI j2), .int 1]) (st' := [.int 1, .ref (ad 1 j1)]) (M' := mm M (mI M) (mJ M)) (ps := []) rfl trivial ?_
            refine go_if rfl (fun (z : (1 : Int32) = 0) => absurd z (show ¬ ((1 : Int32) = 0) from (by decide))) (fun _ => ?_)
            refine go_blk 8 [] (pc' := 31) (vs' := [.ref (ad 1 j1), .int (nI j2), .int 1]) (st' := []) (M' := mm M (mI M) (up2 (mJ M) (ad 1 j1) 4 (((mJ M) (ad 1 j1) 4) ||| ((1 : Int64) <<< ((nI j2).toInt64 &&& 63))))) (ps := [ob (mm M (mI M) (mJ M)) (ad 1 j1) 2, ob (mm M (mI M) (mJ M)) (ad 1 j1) 2]) rfl ⟨(hC j1 (by assumption)).2, (hC j1 (by assumption)).2, trivial⟩ ?_
            refine go_vret rfl rfl ?_
            refine ⟨ne_v, ?_⟩
            show Go 1311 120 0 0 39 [.ref (ad 0 0), .int (nI j1), .int (nI j2), .int 1, .ref (ad 1 j1)] [] (mm M (mI M) (up2 (mJ M) (ad 1 j1) 4 (((mJ M) (ad 1 j1) 4) ||| ((1 : Int64) <<< ((nI j2).toInt64 &&& 63))))) R
            refine go_blk 1 [] (pc' := 40) (vs' := [.ref (ad 0 0), .int (nI j1), .int (nI j2), .int 1, .ref (ad 1 j1)]) (st' := [.int 1]) (M' := mm M (mI M) (up2 (mJ M) (ad 1 j1) 4 (((mJ M) (ad 1 j1) 4) ||| ((1 : Int64) <<< ((nI j2).toInt64 &&& 63))))) (ps := []) rfl trivial ?_
            refine go_zret rfl rfl (Or.inr rfl) ?_
            refine K _ _ hM.1 rfl (fun R2 h2 => ?_)
            show Go 1311 196 0 0 0 [.ref (ad 10 0), .int (nI j1), .int (nI j2), .int 1] [] (mm M (mI M) (up2 (mJ M) (ad 1 j1) 4 (((mJ M) (ad 1 j1) 4) ||| ((1 : Int64) <<< ((nI j2).toInt64 &&& 63))))) R2
            refine go_blk 5 [] (pc' := 7) (vs' := [.ref (ad 10 0), .int (nI j1), .int (nI j2), .int 1]) (st' := [.int (nI j1), .ref (ad 10 0)]) (M' := mm M (up2 (mI M) (ad 10 0) 0 0) (up2 (mJ M) (ad 1 j1) 4 (((mJ M) (ad 1 j1) 4) ||| ((1 : Int64) <<< ((nI j2).toInt64 &&& 63))))) (ps := [ob (mm M (mI M) (up2 (mJ M) (ad 1 j1) 4 (((mJ M) (ad 1 j1) 4) ||| ((1 : Int64) <<< ((nI j2).toInt64 &&& 63))))) (ad 10 0) 12]) rfl ⟨hM.1, trivial⟩ ?_
            refine go_callV rfl rfl rfl (by omega) rfl (by decide) (by decide) hM.1 ?_
            refine s_Mo_isCottage hM (((up2_n _ _ (fun z => absurd z.2 (by decide))).trans (rfl)).trans nc2) (Nat.le_trans nc3 (by decide)) (fun j4 hj4 hx4 => ⟨ne_i, ?_⟩) (fun c4 => ⟨ne_i, ?_⟩)
            · -- 1
              show Go 1311 196 0 0 10 [.ref (ad 10 0), .int (nI j1), .int (nI j2), .int 1] [.int 1] (mm M (up2 (mI M) (ad 10 0) 0 0) (up2 (mJ M) (ad 1 j1) 4 (((mJ M) (ad 1 j1) 4) ||| ((1 : Int64) <<< ((nI j2).toInt64 &&& 63))))) R2
              refine go_if rfl (fun (z : (1 : Int32) = 0) => absurd z (show ¬ ((1 : Int32) = 0) from (by decide))) (fun _ => ?_)
              refine go_blk 2 [] (pc' := 15) (vs' := [.ref (ad 10 0), .int (nI j1), .int (nI j2), .int 1]) (st' := [.int (nI j2), .ref (ad 10 0)]) (M' := mm M (up2 (mI M) (ad 10 0) 0 0) (up2 (mJ M) (ad 1 j1) 4 (((mJ M) (ad 1 j1) 4) ||| ((1 : Int64) <<< ((nI j2).toInt64 &&& 63))))) (ps := []) rfl trivial ?_
              refine go_callV rfl rfl rfl (by omega) rfl (by decide) (by decide) hM.1 ?_
              refine s_Mo_isAheadK (wk := wk) (lo := wk) (by omega) hM (((up2_n _ _ (fun z => absurd z.2 (by decide))).trans (rfl)).trans wk2) wk3 (Or.inl ⟨(((up2_n _ _ (fun z => absurd z.2 (by decide))).trans (rfl)).trans op2), rfl⟩) (fun j5 hl5 hj5 hx5 => ⟨ne_i, ?_⟩) (fun c5 => ⟨ne_i, ?_⟩)
              · -- 1
                obtain rfl : j2 = j5 := (nI_eqs (by omega) (by omega)).mp hx5
                show Go 1311 196 0 0 18 [.ref (ad 10 0), .int (nI j1), .int (nI j2), .int 1] [.int 1] (mm M (up2 (mI M) (ad 10 0) 0 0) (up2 (mJ M) (ad 1 j1) 4 (((mJ M) (ad 1 j1) 4) ||| ((1 : Int64) <<< ((nI j2).toInt64 &&& 63))))) R2
                refine go_if rfl (fun (z : (1 : Int32) = 0) => absurd z (show ¬ ((1 : Int32) = 0) from (by decide))) (fun _ => ?_)
                refine go_blk 9 [some (.ref (ad 9 5)), some (.int ((mI M) (ad 9 5) (7 * j2 + j1)))] (pc' := 33) (vs' := [.ref (ad 10 0), .int (nI j1), .int (nI j2), .int 1]) (st' := [.int 1, .int ((mI M) (ad 9 5) (7 * j2 + j1))]) (M' := mm M (up2 (mI M) (ad 10 0) 0 0) (up2 (mJ M) (ad 1 j1) 4 (((mJ M) (ad 1 j1) 4) ||| ((1 : Int64) <<< ((nI j2).toInt64 &&& 63))))) (ps := [ob (mm M (up2 (mI M) (ad 10 0) 0 0) (up2 (mJ M) (ad 1 j1) 4 (((mJ M) (ad 1 j1) 4) ||| ((1 : Int64) <<< ((nI j2).toInt64 &&& 63))))) (ad 10 0) 12, mR (mm M (up2 (mI M) (ad 10 0) 0 0) (up2 (mJ M) (ad 1 j1) 4 (((mJ M) (ad 1 j1) 4) ||| ((1 : Int64) <<< ((nI j2).toInt64 &&& 63))))) (ad 10 0) 5 = some (ad 9 5), va_rf (some (ad 9 5)) = .ref (ad 9 5), ob (mm M (up2 (mI M) (ad 10 0) 0 0) (up2 (mJ M) (ad 1 j1) 4 (((mJ M) (ad 1 j1) 4) ||| ((1 : Int64) <<< ((nI j2).toInt64 &&& 63))))) (ad 9 5) 13, 13 = 13 ∨ 13 = 14, vp_in ((7 * (nI j2)) + (nI j1)) (mN (mm M (up2 (mI M) (ad 10 0) 0 0) (up2 (mJ M) (ad 1 j1) 4 (((mJ M) (ad 1 j1) 4) ||| ((1 : Int64) <<< ((nI j2).toInt64 &&& 63))))) (ad 9 5)), (Value.int ((up2 (mI M) (ad 10 0) 0 0) (ad 9 5) (((7 * (nI j2)) + (nI j1)).toNatClampNeg))) = .int ((mI M) (ad 9 5) (7 * j2 + j1))]) rfl ⟨hM.1, (hM.r 5 13 364), rfl, (hM.o 5 13 364), (by decide), (vp_eq (eq_add (eq_mul (show (7 : Int32) = nI 7 from rfl) rfl) rfl) (vpi (hM.n 5 13 364) (by omega))), congrArg Value.int ((congrArg (fun z => (up2 (mI M) (ad 10 0) 0 0) (ad 9 5) z) (cl_of (eq_add (eq_mul (show (7 : Int32) = nI 7 from rfl) rfl) rfl) (by omega))).trans ((up2_n _ _ (fun z => absurd (hi _ _ _ _ z.1).1 (by decide))).trans (rfl))), trivial⟩ ?_
                refine go_icmp rfl (fun _ => ?_) (fun (z : ¬ (¬ ((mI M) (ad 9 5) (7 * j2 + j1)) = 1)) => absurd (show ¬ ((mI M) (ad 9 5) (7 * j2 + j1)) = 1 from c3) z)
                refine go_blk 10 [some (.ref (ad 9 5))] (pc' := 51) (vs' := [.ref (ad 10 0), .int (nI j1), .int (nI j2), .int 1]) (st' := [.int 1]) (M' := mm M (up2 (up2 (mI M) (ad 10 0) 0 0) (ad 9 5) (((7 * (nI j2)) + (nI j1)).toNatClampNeg) 1) (up2 (mJ M) (ad 1 j1) 4 (((mJ M) (ad 1 j1) 4) ||| ((1 : Int64) <<< ((nI j2).toInt64 &&& 63))))) (ps := [ob (mm M (up2 (mI M) (ad 10 0) 0 0) (up2 (mJ M) (ad 1 j1) 4 (((mJ M) (ad 1 j1) 4) ||| ((1 : Int64) <<< ((nI j2).toInt64 &&& 63))))) (ad 10 0) 12, mR (mm M (up2 (mI M) (ad 10 0) 0 0) (up2 (mJ M) (ad 1 j1) 4 (((mJ M) (ad 1 j1) 4) ||| ((1 : Int64) <<< ((nI j2).toInt64 &&& 63))))) (ad 10 0) 5 = some (ad 9 5), va_rf (some (ad 9 5)) = .ref (ad 9 5), ob (mm M (up2 (mI M) (ad 10 0) 0 0) (up2 (mJ M) (ad 1 j1) 4 (((mJ M) (ad 1 j1) 4) ||| ((1 : Int64) <<< ((nI j2).toInt64 &&& 63))))) (ad 9 5) 13, vp_in ((7 * (nI j2)) + (nI j1)) (mN (mm M (up2 (mI M) (ad 10 0) 0 0) (up2 (mJ M) (ad 1 j1) 4 (((mJ M) (ad 1 j1) 4) ||| ((1 : Int64) <<< ((nI j2).toInt64 &&& 63))))) (ad 9 5))]) rfl ⟨hM.1, (hM.r 5 13 364), rfl, (hM.o 5 13 364), (vp_eq (eq_add (eq_mul (show (7 : Int32) = nI 7 from rfl) rfl) rfl) (vpi (hM.n 5 13 364) (by omega))), trivial⟩ ?_
                rw [cl_of (x := (7 * j2 + j1)) (eq_add (eq_mul (show (7 : Int32) = nI 7 from rfl) rfl) rfl) (by omega)]
                refine go_zret rfl rfl (Or.inr rfl) ?_
                have ch : ∀ t i k, ¬ ((t = 10 ∧ i = 0 ∧ k = 0) ∨ (t = 9 ∧ i = 5 ∧ k = (7 * j2 + j1))) → vw ad (up2 (up2 (mI M) (ad 10 0) 0 0) (ad 9 5) ((7 * j2 + j1)) 1) t i k = vw ad (mI M) t i k := by
                  intro t i k hn
                  simp only [vw_up2 hi]
                  rw [up3_n _ _ (by omega), up3_n _ _ (by omega)]
                have chj : ∀ t i k, ¬ ((t = 1 ∧ i = j1 ∧ k = 4)) → vw ad (up2 (mJ M) (ad 1 j1) 4 (((mJ M) (ad 1 j1) 4) ||| ((1 : Int64) <<< ((nI j2).toInt64 &&& 63)))) t i k = vw ad (mJ M) t i k := by
                  intro t i k hn
                  simp only [vw_up2 hi]
                  rw [up3_n _ _ (by omega)]
                have eJ1 : eJ nb (vw ad (mI M)) (vw ad (up2 (up2 (mI M) (ad 10 0) 0 0) (ad 9 5) ((7 * j2 + j1)) 1)) := fun i k h => ch 9 i k (by omega)
                refine h2 _ ⟨hsc, ad, nc, nb, nt, wk, nw, nx, nl, ne, nk, kd, false, rfl, rfl, rfl, hi, ⟨hF, hM, hC, hB, hT, hX⟩, ⟨iS.congr (fun t k h => ch t 0 k (by omega)), ?_, iB.congr (fun t i k h => ch t i k (by omega)), iR.congr (fun t i k h => ch t i k (by omega)), iL.congr (fun t i k h => ch t i k (by omega)), iT.congr (fun t i k h => ch t i k (by omega))⟩, ⟨jO.congr eJ1 (fun b k _ _ _ => ch 6 b k (by omega)), jR.congr eJ1, jB.congr nb3 (fun t i k h => ch t i k (by omega)), jX.congr (fun t i k h => ch t i k (by omega)), jL.congr eJ1 (fun b k _ _ _ => ch 6 b k (by omega)) (fun t i k h => ch t i k (by omega))⟩, kO.congr iB wk3 (fun t i k h => ch t i k (by omega)) (fun b _ _ => ch 6 b 8 (by omega)), kC.congr (fun t i k h => ch t i k (by omega)) ⟨chj 0 0 12 (by omega), chj 10 0 99 (by omega)⟩, kD.congr (fun i k h => ch 9 i k (by omega)), kP.congr eJ1 (fun i k h => ch 9 i k (by have := ppS_sp h; omega)) ⟨ch 10 0 31 (by omega), ch 0 7 19 (by omega), ch 0 7 2 (by omega), ch 0 7 4 (by omega), fun t => ch 0 30 t (by omega)⟩ (chj 0 7 17 (by omega)), kX.congr (fun t i k h => ch t i k (by omega))⟩
                refine iC.shut (c := j1) (w := j2) true nc3 (by assumption) (by omega) (fun t i k h1 h2 => ch t i k (by omega)) ?_ (fun a ha => chj 1 a 4 (by omega)) (fun u hu => ?_)
                · show vw ad (up2 (up2 (mI M) (ad 10 0) 0 0) (ad 9 5) ((7 * j2 + j1)) 1) 9 5 (7 * j2 + j1) = _
                  simp only [vw_up2 hi]; simp [up3]
                · show (vw ad (up2 (mJ M) (ad 1 j1) 4 (((mJ M) (ad 1 j1) 4) ||| ((1 : Int64) <<< ((nI j2).toInt64 &&& 63)))) 1 j1 4).toBitVec.getLsbD u = _
                  simp only [vw_up2 hi]
                  rw [up3_s]
                  exact sh_or _ (by omega) hu
              · exact absurd ⟨j2, hl2, hj2, rfl⟩ c5
            · exact absurd ⟨j1, hj1, rfl⟩ c4
          · -- ¬ (¬ ((mI M) (ad 9 5) (7 * j2 + j1)) = 1)
            refine go_blk 1 [] (pc' := 31) (vs' := [.ref (ad 0 0), .int (nI j1), .int (nI j2), .int 1, .ref (ad 1 j1)]) (st' := [.int 0]) (M' := mm M (mI M) (mJ M)) (ps := []) rfl trivial ?_
            refine go_zret rfl rfl (Or.inl rfl) ?_
            refine K _ _ hM.1 rfl (fun R2 h2 => ?_)
            show Go 1311 196 0 0 0 [.ref (ad 10 0), .int (nI j1), .int (nI j2), .int 1] [] (mm M (mI M) (mJ M)) R2
            refine go_blk 5 [] (pc' := 7) (vs' := [.ref (ad 10 0), .int (nI j1), .int (nI j2), .int 1]) (st' := [.int (nI j1), .ref (ad 10 0)]) (M' := mm M (up2 (mI M) (ad 10 0) 0 0) (mJ M)) (ps := [ob (mm M (mI M) (mJ M)) (ad 10 0) 12]) rfl ⟨hM.1, trivial⟩ ?_
            refine go_callV rfl rfl rfl (by omega) rfl (by decide) (by decide) hM.1 ?_
            refine s_Mo_isCottage hM (((up2_n _ _ (fun z => absurd z.2 (by decide))).trans (rfl)).trans nc2) (Nat.le_trans nc3 (by decide)) (fun j6 hj6 hx6 => ⟨ne_i, ?_⟩) (fun c6 => ⟨ne_i, ?_⟩)
            · -- 1
              show Go 1311 196 0 0 10 [.ref (ad 10 0), .int (nI j1), .int (nI j2), .int 1] [.int 1] (mm M (up2 (mI M) (ad 10 0) 0 0) (mJ M)) R2
              refine go_if rfl (fun (z : (1 : Int32) = 0) => absurd z (show ¬ ((1 : Int32) = 0) from (by decide))) (fun _ => ?_)
              refine go_blk 2 [] (pc' := 15) (vs' := [.ref (ad 10 0), .int (nI j1), .int (nI j2), .int 1]) (st' := [.int (nI j2), .ref (ad 10 0)]) (M' := mm M (up2 (mI M) (ad 10 0) 0 0) (mJ M)) (ps := []) rfl trivial ?_
              refine go_callV rfl rfl rfl (by omega) rfl (by decide) (by decide) hM.1 ?_
              refine s_Mo_isAheadK (wk := wk) (lo := wk) (by omega) hM (((up2_n _ _ (fun z => absurd z.2 (by decide))).trans (rfl)).trans wk2) wk3 (Or.inl ⟨(((up2_n _ _ (fun z => absurd z.2 (by decide))).trans (rfl)).trans op2), rfl⟩) (fun j7 hl7 hj7 hx7 => ⟨ne_i, ?_⟩) (fun c7 => ⟨ne_i, ?_⟩)
              · -- 1
                obtain rfl : j2 = j7 := (nI_eqs (by omega) (by omega)).mp hx7
                show Go 1311 196 0 0 18 [.ref (ad 10 0), .int (nI j1), .int (nI j2), .int 1] [.int 1] (mm M (up2 (mI M) (ad 10 0) 0 0) (mJ M)) R2
                refine go_if rfl (fun (z : (1 : Int32) = 0) => absurd z (show ¬ ((1 : Int32) = 0) from (by decide))) (fun _ => ?_)
                refine go_blk 9 [some (.ref (ad 9 5)), some (.int ((mI M) (ad 9 5) (7 * j2 + j1)))] (pc' := 33) (vs' := [.ref (ad 10 0), .int (nI j1), .int (nI j2), .int 1]) (st' := [.int 1, .int ((mI M) (ad 9 5) (7 * j2 + j1))]) (M' := mm M (up2 (mI M) (ad 10 0) 0 0) (mJ M)) (ps := [ob (mm M (up2 (mI M) (ad 10 0) 0 0) (mJ M)) (ad 10 0) 12, mR (mm M (up2 (mI M) (ad 10 0) 0 0) (mJ M)) (ad 10 0) 5 = some (ad 9 5), va_rf (some (ad 9 5)) = .ref (ad 9 5), ob (mm M (up2 (mI M) (ad 10 0) 0 0) (mJ M)) (ad 9 5) 13, 13 = 13 ∨ 13 = 14, vp_in ((7 * (nI j2)) + (nI j1)) (mN (mm M (up2 (mI M) (ad 10 0) 0 0) (mJ M)) (ad 9 5)), (Value.int ((up2 (mI M) (ad 10 0) 0 0) (ad 9 5) (((7 * (nI j2)) + (nI j1)).toNatClampNeg))) = .int ((mI M) (ad 9 5) (7 * j2 + j1))]) rfl ⟨hM.1, (hM.r 5 13 364), rfl, (hM.o 5 13 364), (by decide), (vp_eq (eq_add (eq_mul (show (7 : Int32) = nI 7 from rfl) rfl) rfl) (vpi (hM.n 5 13 364) (by omega))), congrArg Value.int ((congrArg (fun z => (up2 (mI M) (ad 10 0) 0 0) (ad 9 5) z) (cl_of (eq_add (eq_mul (show (7 : Int32) = nI 7 from rfl) rfl) rfl) (by omega))).trans ((up2_n _ _ (fun z => absurd (hi _ _ _ _ z.1).1 (by decide))).trans (rfl))), trivial⟩ ?_
                refine go_icmp rfl (fun (z : ¬ ((mI M) (ad 9 5) (7 * j2 + j1)) = 1) => absurd z (show ¬ (¬ ((mI M) (ad 9 5) (7 * j2 + j1)) = 1) from c3)) (fun _ => ?_)
                refine go_blk 1 [] (pc' := 37) (vs' := [.ref (ad 10 0), .int (nI j1), .int (nI j2), .int 1]) (st' := [.int 0]) (M' := mm M (up2 (mI M) (ad 10 0) 0 0) (mJ M)) (ps := []) rfl trivial ?_
                refine go_zret rfl rfl (Or.inl rfl) ?_
                exact h2 _ ⟨hsc, ad, nc, nb, nt, wk, nw, nx, nl, ne, nk, kd, false, rfl, rfl, rfl, hW.thr⟩
              · exact absurd ⟨j2, hl2, hj2, rfl⟩ c7
            · exact absurd ⟨j1, hj1, rfl⟩ c6
        · -- 0
          show Go 1311 120 0 0 17 [.ref (ad 0 0), .int (nI j1), .int a2, .int 1, .ref (ad 1 j1)] [.int 0] (mm M (mI M) (mJ M)) R
          refine go_if rfl (fun _ => ?_) (fun (z : ¬ ((0 : Int32) = 0)) => absurd (show (0 : Int32) = 0 from (by decide)) z)
          refine go_blk 1 [] (pc' := 31) (vs' := [.ref (ad 0 0), .int (nI j1), .int a2, .int 1, .ref (ad 1 j1)]) (st' := [.int 0]) (M' := mm M (mI M) (mJ M)) (ps := []) rfl trivial ?_
          refine go_zret rfl rfl (Or.inl rfl) ?_
          refine K _ _ hM.1 rfl (fun R2 h2 => ?_)
          show Go 1311 196 0 0 0 [.ref (ad 10 0), .int (nI j1), .int a2, .int 1] [] (mm M (mI M) (mJ M)) R2
          refine go_blk 5 [] (pc' := 7) (vs' := [.ref (ad 10 0), .int (nI j1), .int a2, .int 1]) (st' := [.int (nI j1), .ref (ad 10 0)]) (M' := mm M (up2 (mI M) (ad 10 0) 0 0) (mJ M)) (ps := [ob (mm M (mI M) (mJ M)) (ad 10 0) 12]) rfl ⟨hM.1, trivial⟩ ?_
          refine go_callV rfl rfl rfl (by omega) rfl (by decide) (by decide) hM.1 ?_
          refine s_Mo_isCottage hM (((up2_n _ _ (fun z => absurd z.2 (by decide))).trans (rfl)).trans nc2) (Nat.le_trans nc3 (by decide)) (fun j8 hj8 hx8 => ⟨ne_i, ?_⟩) (fun c8 => ⟨ne_i, ?_⟩)
          · -- 1
            show Go 1311 196 0 0 10 [.ref (ad 10 0), .int (nI j1), .int a2, .int 1] [.int 1] (mm M (up2 (mI M) (ad 10 0) 0 0) (mJ M)) R2
            refine go_if rfl (fun (z : (1 : Int32) = 0) => absurd z (show ¬ ((1 : Int32) = 0) from (by decide))) (fun _ => ?_)
            refine go_blk 2 [] (pc' := 15) (vs' := [.ref (ad 10 0), .int (nI j1), .int a2, .int 1]) (st' := [.int a2, .ref (ad 10 0)]) (M' := mm M (up2 (mI M) (ad 10 0) 0 0) (mJ M)) (ps := []) rfl trivial ?_
            refine go_callV rfl rfl rfl (by omega) rfl (by decide) (by decide) hM.1 ?_
            refine s_Mo_isAheadK (wk := wk) (lo := wk) (by omega) hM (((up2_n _ _ (fun z => absurd z.2 (by decide))).trans (rfl)).trans wk2) wk3 (Or.inl ⟨(((up2_n _ _ (fun z => absurd z.2 (by decide))).trans (rfl)).trans op2), rfl⟩) (fun j9 hl9 hj9 hx9 => ⟨ne_i, ?_⟩) (fun c9 => ⟨ne_i, ?_⟩)
            · exact absurd ⟨j9, hl9, hj9, hx9⟩ c2
            · -- 0
              show Go 1311 196 0 0 18 [.ref (ad 10 0), .int (nI j1), .int a2, .int 1] [.int 0] (mm M (up2 (mI M) (ad 10 0) 0 0) (mJ M)) R2
              refine go_if rfl (fun _ => ?_) (fun (z : ¬ ((0 : Int32) = 0)) => absurd (show (0 : Int32) = 0 from (by decide)) z)
              refine go_blk 1 [] (pc' := 37) (vs' := [.ref (ad 10 0), .int (nI j1), .int a2, .int 1]) (st' := [.int 0]) (M' := mm M (up2 (mI M) (ad 10 0) 0 0) (mJ M)) (ps := []) rfl trivial ?_
              refine go_zret rfl rfl (Or.inl rfl) ?_
              exact h2 _ ⟨hsc, ad, nc, nb, nt, wk, nw, nx, nl, ne, nk, kd, false, rfl, rfl, rfl, hW.thr⟩
          · exact absurd ⟨j1, hj1, rfl⟩ c8
      · -- ('n',)
        show Go 1311 120 0 0 5 [.ref (ad 0 0), .int a1, .int a2, .int 1, .retAddr 0] [.null] (mm M (mI M) (mJ M)) R
        refine go_blk 2 [] (pc' := 9) (vs' := [.ref (ad 0 0), .int a1, .int a2, .int 1, .null]) (st' := [.null]) (M' := mm M (mI M) (mJ M)) (ps := []) rfl trivial ?_
        refine go_ifnull0 rfl ?_
        refine go_blk 1 [] (pc' := 31) (vs' := [.ref (ad 0 0), .int a1, .int a2, .int 1, .null]) (st' := [.int 0]) (M' := mm M (mI M) (mJ M)) (ps := []) rfl trivial ?_
        refine go_zret rfl rfl (Or.inl rfl) ?_
        refine K _ _ hM.1 rfl (fun R2 h2 => ?_)
        show Go 1311 196 0 0 0 [.ref (ad 10 0), .int a1, .int a2, .int 1] [] (mm M (mI M) (mJ M)) R2
        refine go_blk 5 [] (pc' := 7) (vs' := [.ref (ad 10 0), .int a1, .int a2, .int 1]) (st' := [.int a1, .ref (ad 10 0)]) (M' := mm M (up2 (mI M) (ad 10 0) 0 0) (mJ M)) (ps := [ob (mm M (mI M) (mJ M)) (ad 10 0) 12]) rfl ⟨hM.1, trivial⟩ ?_
        refine go_callV rfl rfl rfl (by omega) rfl (by decide) (by decide) hM.1 ?_
        refine s_Mo_isCottage hM (((up2_n _ _ (fun z => absurd z.2 (by decide))).trans (rfl)).trans nc2) (Nat.le_trans nc3 (by decide)) (fun j10 hj10 hx10 => ⟨ne_i, ?_⟩) (fun c10 => ⟨ne_i, ?_⟩)
        · exact absurd ⟨j10, hj10, hx10⟩ c1
        · -- 0
          show Go 1311 196 0 0 10 [.ref (ad 10 0), .int a1, .int a2, .int 1] [.int 0] (mm M (up2 (mI M) (ad 10 0) 0 0) (mJ M)) R2
          refine go_if rfl (fun _ => ?_) (fun (z : ¬ ((0 : Int32) = 0)) => absurd (show (0 : Int32) = 0 from (by decide)) z)
          refine go_blk 1 [] (pc' := 37) (vs' := [.ref (ad 10 0), .int a1, .int a2, .int 1]) (st' := [.int 0]) (M' := mm M (up2 (mI M) (ad 10 0) 0 0) (mJ M)) (ps := []) rfl trivial ?_
          refine go_zret rfl rfl (Or.inl rfl) ?_
          exact h2 _ ⟨hsc, ad, nc, nb, nt, wk, nw, nx, nl, ne, nk, kd, false, rfl, rfl, rfl, hW.thr⟩
  · replace op1 : mI M (ad 0 0) 8 = 1 := op1
    replace op2 : mI M (ad 10 0) 21 = 1 := op2
    replace op3 : wk < 52 := op3 rfl
    rcases hz0 with rfl | rfl
    ·
      show Go 1311 120 0 0 0 [.ref (ad 0 0), .int a1, .int a2, .int 0, .retAddr 0] [] (mm M (mI M) (mJ M)) R
      refine go_blk 2 [] (pc' := 2) (vs' := [.ref (ad 0 0), .int a1, .int a2, .int 0, .retAddr 0]) (st' := [.int a1, .ref (ad 0 0)]) (M' := mm M (mI M) (mJ M)) (ps := []) rfl trivial ?_
      refine go_callV rfl rfl rfl (by omega) rfl (by decide) (by decide) (hF.o 0) ?_
      refine s_CY_cottageAt (by omega) hF hC nc1 nc3 (fun j1 hj1 hx1 => ⟨ne_a, ?_⟩) (fun c1 => ⟨ne_0, ?_⟩)
      · -- ('r', 'ad 1 j1')
        subst hx1
        show Go 1311 120 0 0 5 [.ref (ad 0 0), .int (nI j1), .int a2, .int 0, .retAddr 0] [.ref (ad 1 j1)] (mm M (mI M) (mJ M)) R
        refine go_blk 2 [] (pc' := 9) (vs' := [.ref (ad 0 0), .int (nI j1), .int a2, .int 0, .ref (ad 1 j1)]) (st' := [.ref (ad 1 j1)]) (M' := mm M (mI M) (mJ M)) (ps := []) rfl trivial ?_
        refine go_ifnull1 rfl ?_
        refine go_blk 2 [] (pc' := 14) (vs' := [.ref (ad 0 0), .int (nI j1), .int a2, .int 0, .ref (ad 1 j1)]) (st' := [.int a2, .ref (ad 0 0)]) (M' := mm M (mI M) (mJ M)) (ps := []) rfl trivial ?_
        refine go_callV rfl rfl rfl (by omega) rfl (by decide) (by decide) (hF.o 0) ?_
        refine s_CY_isToComeK (wk := wk) (lo := (wk + 1)) (by omega) hF wk1 wk3 (Or.inr ⟨op1, rfl⟩) (fun j2 hl2 hj2 hx2 => ⟨ne_i, ?_⟩) (fun c2 => ⟨ne_i, ?_⟩)
        · -- 1
          subst hx2
          show Go 1311 120 0 0 17 [.ref (ad 0 0), .int (nI j1), .int (nI j2), .int 0, .ref (ad 1 j1)] [.int 1] (mm M (mI M) (mJ M)) R
          refine go_if rfl (fun (z : (1 : Int32) = 0) => absurd z (show ¬ ((1 : Int32) = 0) from (by decide))) (fun _ => ?_)
          refine go_blk 2 [] (pc' := 23) (vs' := [.ref (ad 0 0), .int (nI j1), .int (nI j2), .int 0, .ref (ad 1 j1)]) (st' := [.int (nI j2), .ref (ad 1 j1)]) (M' := mm M (mI M) (mJ M)) (ps := []) rfl trivial ?_
          refine go_callV rfl rfl rfl (by omega) rfl (by decide) (by decide) (hC j1 (by assumption)).2 ?_
          refine s_Co_isShut (by omega) hC (by assumption) (by omega) ((iC.1 j1 (by assumption)).2.2.2.2.2 j2 (by omega)) ⟨ne_i, ?_⟩
          show Go 1311 120 0 0 26 [.ref (ad 0 0), .int (nI j1), .int (nI j2), .int 0, .ref (ad 1 j1)] [.int ((mI M) (ad 9 5) (7 * j2 + j1))] (mm M (mI M) (mJ M)) R
          refine go_blk 1 [] (pc' := 27) (vs' := [.ref (ad 0 0), .int (nI j1), .int (nI j2), .int 0, .ref (ad 1 j1)]) (st' := [.int 0, .int ((mI M) (ad 9 5) (7 * j2 + j1))]) (M' := mm M (mI M) (mJ M)) (ps := []) rfl trivial ?_
          refine go_icmp rfl (fun (c3 : ¬ ((mI M) (ad 9 5) (7 * j2 + j1)) = 0) => ?_) (fun (c3 : ¬ (¬ ((mI M) (ad 9 5) (7 * j2 + j1)) = 0)) => ?_)
          · -- ¬ ((mI M) (ad 9 5) (7 * j2 + j1)) = 0
            refine go_blk 3 [] (pc' := 36) (vs' := [.ref (ad 0 0), .int (nI j1), .int (nI j2), .int 0, .ref (ad 1 j1)]) (st' := [.int 0, .int (nI j2), .ref (ad 1 j1)]) (M' := mm M (mI M) (mJ M)) (ps := []) rfl trivial ?_
            refine go_callV rfl rfl rfl (by omega) rfl (by decide) (by decide) (hC j1 (by assumption)).2 ?_
            show Go (1311 - 1) 23 0 0 0 [.ref (ad 1 j1), .int (nI j2), .int 0] [] (mm M (mI M) (mJ M)) _
            refine go_blk 2 [] (pc' := 2) (vs' := [.ref (ad 1 j1), .int (nI j2), .int 0]) (st' := [.int 0, .ref (ad 1 j1)]) (M' := mm M (mI M) (mJ M)) (ps := []) rfl trivial ?_
            refine go_if rfl (fun _ => ?_) (fun (z : ¬ ((0 : Int32) = 0)) => absurd (show (0 : Int32) = 0 from (by decide)) z)
            refine go_blk 9 [] (pc' := 31) (vs' := [.ref (ad 1 j1), .int (nI j2), .int 0]) (st' := []) (M' := mm M (mI M) (up2 (mJ M) (ad 1 j1) 4 (((mJ M) (ad 1 j1) 4) &&& (((1 : Int64) <<< ((nI j2).toInt64 &&& 63)) ^^^ (-1))))) (ps := [ob (mm M (mI M) (mJ M)) (ad 1 j1) 2, ob (mm M (mI M) (mJ M)) (ad 1 j1) 2]) rfl ⟨(hC j1 (by assumption)).2, (hC j1 (by assumption)).2, trivial⟩ ?_
            refine go_vret rfl rfl ?_
            refine ⟨ne_v, ?_⟩
            show Go 1311 120 0 0 39 [.ref (ad 0 0), .int (nI j1), .int (nI j2), .int 0, .ref (ad 1 j1)] [] (mm M (mI M) (up2 (mJ M) (ad 1 j1) 4 (((mJ M) (ad 1 j1) 4) &&& (((1 : Int64) <<< ((nI j2).toInt64 &&& 63)) ^^^ (-1))))) R
            refine go_blk 1 [] (pc' := 40) (vs' := [.ref (ad 0 0), .int (nI j1), .int (nI j2), .int 0, .ref (ad 1 j1)]) (st' := [.int 1]) (M' := mm M (mI M) (up2 (mJ M) (ad 1 j1) 4 (((mJ M) (ad 1 j1) 4) &&& (((1 : Int64) <<< ((nI j2).toInt64 &&& 63)) ^^^ (-1))))) (ps := []) rfl trivial ?_
            refine go_zret rfl rfl (Or.inr rfl) ?_
            refine K _ _ hM.1 rfl (fun R2 h2 => ?_)
            show Go 1311 196 0 0 0 [.ref (ad 10 0), .int (nI j1), .int (nI j2), .int 0] [] (mm M (mI M) (up2 (mJ M) (ad 1 j1) 4 (((mJ M) (ad 1 j1) 4) &&& (((1 : Int64) <<< ((nI j2).toInt64 &&& 63)) ^^^ (-1))))) R2
            refine go_blk 5 [] (pc' := 7) (vs' := [.ref (ad 10 0), .int (nI j1), .int (nI j2), .int 0]) (st' := [.int (nI j1), .ref (ad 10 0)]) (M' := mm M (up2 (mI M) (ad 10 0) 0 0) (up2 (mJ M) (ad 1 j1) 4 (((mJ M) (ad 1 j1) 4) &&& (((1 : Int64) <<< ((nI j2).toInt64 &&& 63)) ^^^ (-1))))) (ps := [ob (mm M (mI M) (up2 (mJ M) (ad 1 j1) 4 (((mJ M) (ad 1 j1) 4) &&& (((1 : Int64) <<< ((nI j2).toInt64 &&& 63)) ^^^ (-1))))) (ad 10 0) 12]) rfl ⟨hM.1, trivial⟩ ?_
            refine go_callV rfl rfl rfl (by omega) rfl (by decide) (by decide) hM.1 ?_
            refine s_Mo_isCottage hM (((up2_n _ _ (fun z => absurd z.2 (by decide))).trans (rfl)).trans nc2) (Nat.le_trans nc3 (by decide)) (fun j4 hj4 hx4 => ⟨ne_i, ?_⟩) (fun c4 => ⟨ne_i, ?_⟩)
            · -- 1
              show Go 1311 196 0 0 10 [.ref (ad 10 0), .int (nI j1), .int (nI j2), .int 0] [.int 1] (mm M (up2 (mI M) (ad 10 0) 0 0) (up2 (mJ M) (ad 1 j1) 4 (((mJ M) (ad 1 j1) 4) &&& (((1 : Int64) <<< ((nI j2).toInt64 &&& 63)) ^^^ (-1))))) R2
              refine go_if rfl (fun (z : (1 : Int32) = 0) => absurd z (show ¬ ((1 : Int32) = 0) from (by decide))) (fun _ => ?_)
              refine go_blk 2 [] (pc' := 15) (vs' := [.ref (ad 10 0), .int (nI j1), .int (nI j2), .int 0]) (st' := [.int (nI j2), .ref (ad 10 0)]) (M' := mm M (up2 (mI M) (ad 10 0) 0 0) (up2 (mJ M) (ad 1 j1) 4 (((mJ M) (ad 1 j1) 4) &&& (((1 : Int64) <<< ((nI j2).toInt64 &&& 63)) ^^^ (-1))))) (ps := []) rfl trivial ?_
              refine go_callV rfl rfl rfl (by omega) rfl (by decide) (by decide) hM.1 ?_
              refine s_Mo_isAheadK (wk := wk) (lo := (wk + 1)) (by omega) hM (((up2_n _ _ (fun z => absurd z.2 (by decide))).trans (rfl)).trans wk2) wk3 (Or.inr ⟨(((up2_n _ _ (fun z => absurd z.2 (by decide))).trans (rfl)).trans op2), rfl⟩) (fun j5 hl5 hj5 hx5 => ⟨ne_i, ?_⟩) (fun c5 => ⟨ne_i, ?_⟩)
              · -- 1
                obtain rfl : j2 = j5 := (nI_eqs (by omega) (by omega)).mp hx5
                show Go 1311 196 0 0 18 [.ref (ad 10 0), .int (nI j1), .int (nI j2), .int 0] [.int 1] (mm M (up2 (mI M) (ad 10 0) 0 0) (up2 (mJ M) (ad 1 j1) 4 (((mJ M) (ad 1 j1) 4) &&& (((1 : Int64) <<< ((nI j2).toInt64 &&& 63)) ^^^ (-1))))) R2
                refine go_if rfl (fun (z : (1 : Int32) = 0) => absurd z (show ¬ ((1 : Int32) = 0) from (by decide))) (fun _ => ?_)
                refine go_blk 9 [some (.ref (ad 9 5)), some (.int ((mI M) (ad 9 5) (7 * j2 + j1)))] (pc' := 33) (vs' := [.ref (ad 10 0), .int (nI j1), .int (nI j2), .int 0]) (st' := [.int 0, .int ((mI M) (ad 9 5) (7 * j2 + j1))]) (M' := mm M (up2 (mI M) (ad 10 0) 0 0) (up2 (mJ M) (ad 1 j1) 4 (((mJ M) (ad 1 j1) 4) &&& (((1 : Int64) <<< ((nI j2).toInt64 &&& 63)) ^^^ (-1))))) (ps := [ob (mm M (up2 (mI M) (ad 10 0) 0 0) (up2 (mJ M) (ad 1 j1) 4 (((mJ M) (ad 1 j1) 4) &&& (((1 : Int64) <<< ((nI j2).toInt64 &&& 63)) ^^^ (-1))))) (ad 10 0) 12, mR (mm M (up2 (mI M) (ad 10 0) 0 0) (up2 (mJ M) (ad 1 j1) 4 (((mJ M) (ad 1 j1) 4) &&& (((1 : Int64) <<< ((nI j2).toInt64 &&& 63)) ^^^ (-1))))) (ad 10 0) 5 = some (ad 9 5), va_rf (some (ad 9 5)) = .ref (ad 9 5), ob (mm M (up2 (mI M) (ad 10 0) 0 0) (up2 (mJ M) (ad 1 j1) 4 (((mJ M) (ad 1 j1) 4) &&& (((1 : Int64) <<< ((nI j2).toInt64 &&& 63)) ^^^ (-1))))) (ad 9 5) 13, 13 = 13 ∨ 13 = 14, vp_in ((7 * (nI j2)) + (nI j1)) (mN (mm M (up2 (mI M) (ad 10 0) 0 0) (up2 (mJ M) (ad 1 j1) 4 (((mJ M) (ad 1 j1) 4) &&& (((1 : Int64) <<< ((nI j2).toInt64 &&& 63)) ^^^ (-1))))) (ad 9 5)), (Value.int ((up2 (mI M) (ad 10 0) 0 0) (ad 9 5) (((7 * (nI j2)) + (nI j1)).toNatClampNeg))) = .int ((mI M) (ad 9 5) (7 * j2 + j1))]) rfl ⟨hM.1, (hM.r 5 13 364), rfl, (hM.o 5 13 364), (by decide), (vp_eq (eq_add (eq_mul (show (7 : Int32) = nI 7 from rfl) rfl) rfl) (vpi (hM.n 5 13 364) (by omega))), congrArg Value.int ((congrArg (fun z => (up2 (mI M) (ad 10 0) 0 0) (ad 9 5) z) (cl_of (eq_add (eq_mul (show (7 : Int32) = nI 7 from rfl) rfl) rfl) (by omega))).trans ((up2_n _ _ (fun z => absurd (hi _ _ _ _ z.1).1 (by decide))).trans (rfl))), trivial⟩ ?_
                refine go_icmp rfl (fun _ => ?_) (fun (z : ¬ (¬ ((mI M) (ad 9 5) (7 * j2 + j1)) = 0)) => absurd (show ¬ ((mI M) (ad 9 5) (7 * j2 + j1)) = 0 from c3) z)
                refine go_blk 10 [some (.ref (ad 9 5))] (pc' := 51) (vs' := [.ref (ad 10 0), .int (nI j1), .int (nI j2), .int 0]) (st' := [.int 1]) (M' := mm M (up2 (up2 (mI M) (ad 10 0) 0 0) (ad 9 5) (((7 * (nI j2)) + (nI j1)).toNatClampNeg) 0) (up2 (mJ M) (ad 1 j1) 4 (((mJ M) (ad 1 j1) 4) &&& (((1 : Int64) <<< ((nI j2).toInt64 &&& 63)) ^^^ (-1))))) (ps := [ob (mm M (up2 (mI M) (ad 10 0) 0 0) (up2 (mJ M) (ad 1 j1) 4 (((mJ M) (ad 1 j1) 4) &&& (((1 : Int64) <<< ((nI j2).toInt64 &&& 63)) ^^^ (-1))))) (ad 10 0) 12, mR (mm M (up2 (mI M) (ad 10 0) 0 0) (up2 (mJ M) (ad 1 j1) 4 (((mJ M) (ad 1 j1) 4) &&& (((1 : Int64) <<< ((nI j2).toInt64 &&& 63)) ^^^ (-1))))) (ad 10 0) 5 = some (ad 9 5), va_rf (some (ad 9 5)) = .ref (ad 9 5), ob (mm M (up2 (mI M) (ad 10 0) 0 0) (up2 (mJ M) (ad 1 j1) 4 (((mJ M) (ad 1 j1) 4) &&& (((1 : Int64) <<< ((nI j2).toInt64 &&& 63)) ^^^ (-1))))) (ad 9 5) 13, vp_in ((7 * (nI j2)) + (nI j1)) (mN (mm M (up2 (mI M) (ad 10 0) 0 0) (up2 (mJ M) (ad 1 j1) 4 (((mJ M) (ad 1 j1) 4) &&& (((1 : Int64) <<< ((nI j2).toInt64 &&& 63)) ^^^ (-1))))) (ad 9 5))]) rfl ⟨hM.1, (hM.r 5 13 364), rfl, (hM.o 5 13 364), (vp_eq (eq_add (eq_mul (show (7 : Int32) = nI 7 from rfl) rfl) rfl) (vpi (hM.n 5 13 364) (by omega))), trivial⟩ ?_
                rw [cl_of (x := (7 * j2 + j1)) (eq_add (eq_mul (show (7 : Int32) = nI 7 from rfl) rfl) rfl) (by omega)]
                refine go_zret rfl rfl (Or.inr rfl) ?_
                have ch : ∀ t i k, ¬ ((t = 10 ∧ i = 0 ∧ k = 0) ∨ (t = 9 ∧ i = 5 ∧ k = (7 * j2 + j1))) → vw ad (up2 (up2 (mI M) (ad 10 0) 0 0) (ad 9 5) ((7 * j2 + j1)) 0) t i k = vw ad (mI M) t i k := by
                  intro t i k hn
                  simp only [vw_up2 hi]
                  rw [up3_n _ _ (by omega), up3_n _ _ (by omega)]
                have chj : ∀ t i k, ¬ ((t = 1 ∧ i = j1 ∧ k = 4)) → vw ad (up2 (mJ M) (ad 1 j1) 4 (((mJ M) (ad 1 j1) 4) &&& (((1 : Int64) <<< ((nI j2).toInt64 &&& 63)) ^^^ (-1)))) t i k = vw ad (mJ M) t i k := by
                  intro t i k hn
                  simp only [vw_up2 hi]
                  rw [up3_n _ _ (by omega)]
                have eJ1 : eJ nb (vw ad (mI M)) (vw ad (up2 (up2 (mI M) (ad 10 0) 0 0) (ad 9 5) ((7 * j2 + j1)) 0)) := fun i k h => ch 9 i k (by omega)
                refine h2 _ ⟨hsc, ad, nc, nb, nt, wk, nw, nx, nl, ne, nk, kd, true, rfl, rfl, rfl, hi, ⟨hF, hM, hC, hB, hT, hX⟩, ⟨iS.congr (fun t k h => ch t 0 k (by omega)), ?_, iB.congr (fun t i k h => ch t i k (by omega)), iR.congr (fun t i k h => ch t i k (by omega)), iL.congr (fun t i k h => ch t i k (by omega)), iT.congr (fun t i k h => ch t i k (by omega))⟩, ⟨jO.congr eJ1 (fun b k _ _ _ => ch 6 b k (by omega)), jR.congr eJ1, jB.congr nb3 (fun t i k h => ch t i k (by omega)), jX.congr (fun t i k h => ch t i k (by omega)), jL.congr eJ1 (fun b k _ _ _ => ch 6 b k (by omega)) (fun t i k h => ch t i k (by omega))⟩, kO.congr iB wk3 (fun t i k h => ch t i k (by omega)) (fun b _ _ => ch 6 b 8 (by omega)), kC.congr (fun t i k h => ch t i k (by omega)) ⟨chj 0 0 12 (by omega), chj 10 0 99 (by omega)⟩, kD.congr (fun i k h => ch 9 i k (by omega)), kP.congr eJ1 (fun i k h => ch 9 i k (by have := ppS_sp h; omega)) ⟨ch 10 0 31 (by omega), ch 0 7 19 (by omega), ch 0 7 2 (by omega), ch 0 7 4 (by omega), fun t => ch 0 30 t (by omega)⟩ (chj 0 7 17 (by omega)), kX.congr (fun t i k h => ch t i k (by omega))⟩
                refine iC.shut (c := j1) (w := j2) false nc3 (by assumption) (by omega) (fun t i k h1 h2 => ch t i k (by omega)) ?_ (fun a ha => chj 1 a 4 (by omega)) (fun u hu => ?_)
                · show vw ad (up2 (up2 (mI M) (ad 10 0) 0 0) (ad 9 5) ((7 * j2 + j1)) 0) 9 5 (7 * j2 + j1) = _
                  simp only [vw_up2 hi]; simp [up3]
                · show (vw ad (up2 (mJ M) (ad 1 j1) 4 (((mJ M) (ad 1 j1) 4) &&& (((1 : Int64) <<< ((nI j2).toInt64 &&& 63)) ^^^ (-1)))) 1 j1 4).toBitVec.getLsbD u = _
                  simp only [vw_up2 hi]
                  rw [up3_s]
                  exact sh_and _ (by omega) hu
              · exact absurd ⟨j2, hl2, hj2, rfl⟩ c5
            · exact absurd ⟨j1, hj1, rfl⟩ c4
          · -- ¬ (¬ ((mI M) (ad 9 5) (7 * j2 + j1)) = 0)
            refine go_blk 1 [] (pc' := 31) (vs' := [.ref (ad 0 0), .int (nI j1), .int (nI j2), .int 0, .ref (ad 1 j1)]) (st' := [.int 0]) (M' := mm M (mI M) (mJ M)) (ps := []) rfl trivial ?_
            refine go_zret rfl rfl (Or.inl rfl) ?_
            refine K _ _ hM.1 rfl (fun R2 h2 => ?_)
            show Go 1311 196 0 0 0 [.ref (ad 10 0), .int (nI j1), .int (nI j2), .int 0] [] (mm M (mI M) (mJ M)) R2
            refine go_blk 5 [] (pc' := 7) (vs' := [.ref (ad 10 0), .int (nI j1), .int (nI j2), .int 0]) (st' := [.int (nI j1), .ref (ad 10 0)]) (M' := mm M (up2 (mI M) (ad 10 0) 0 0) (mJ M)) (ps := [ob (mm M (mI M) (mJ M)) (ad 10 0) 12]) rfl ⟨hM.1, trivial⟩ ?_
            refine go_callV rfl rfl rfl (by omega) rfl (by decide) (by decide) hM.1 ?_
            refine s_Mo_isCottage hM (((up2_n _ _ (fun z => absurd z.2 (by decide))).trans (rfl)).trans nc2) (Nat.le_trans nc3 (by decide)) (fun j6 hj6 hx6 => ⟨ne_i, ?_⟩) (fun c6 => ⟨ne_i, ?_⟩)
            · -- 1
              show Go 1311 196 0 0 10 [.ref (ad 10 0), .int (nI j1), .int (nI j2), .int 0] [.int 1] (mm M (up2 (mI M) (ad 10 0) 0 0) (mJ M)) R2
              refine go_if rfl (fun (z : (1 : Int32) = 0) => absurd z (show ¬ ((1 : Int32) = 0) from (by decide))) (fun _ => ?_)
              refine go_blk 2 [] (pc' := 15) (vs' := [.ref (ad 10 0), .int (nI j1), .int (nI j2), .int 0]) (st' := [.int (nI j2), .ref (ad 10 0)]) (M' := mm M (up2 (mI M) (ad 10 0) 0 0) (mJ M)) (ps := []) rfl trivial ?_
              refine go_callV rfl rfl rfl (by omega) rfl (by decide) (by decide) hM.1 ?_
              refine s_Mo_isAheadK (wk := wk) (lo := (wk + 1)) (by omega) hM (((up2_n _ _ (fun z => absurd z.2 (by decide))).trans (rfl)).trans wk2) wk3 (Or.inr ⟨(((up2_n _ _ (fun z => absurd z.2 (by decide))).trans (rfl)).trans op2), rfl⟩) (fun j7 hl7 hj7 hx7 => ⟨ne_i, ?_⟩) (fun c7 => ⟨ne_i, ?_⟩)
              · -- 1
                obtain rfl : j2 = j7 := (nI_eqs (by omega) (by omega)).mp hx7
                show Go 1311 196 0 0 18 [.ref (ad 10 0), .int (nI j1), .int (nI j2), .int 0] [.int 1] (mm M (up2 (mI M) (ad 10 0) 0 0) (mJ M)) R2
                refine go_if rfl (fun (z : (1 : Int32) = 0) => absurd z (show ¬ ((1 : Int32) = 0) from (by decide))) (fun _ => ?_)
                refine go_blk 9 [some (.ref (ad 9 5)), some (.int ((mI M) (ad 9 5) (7 * j2 + j1)))] (pc' := 33) (vs' := [.ref (ad 10 0), .int (nI j1), .int (nI j2), .int 0]) (st' := [.int 0, .int ((mI M) (ad 9 5) (7 * j2 + j1))]) (M' := mm M (up2 (mI M) (ad 10 0) 0 0) (mJ M)) (ps := [ob (mm M (up2 (mI M) (ad 10 0) 0 0) (mJ M)) (ad 10 0) 12, mR (mm M (up2 (mI M) (ad 10 0) 0 0) (mJ M)) (ad 10 0) 5 = some (ad 9 5), va_rf (some (ad 9 5)) = .ref (ad 9 5), ob (mm M (up2 (mI M) (ad 10 0) 0 0) (mJ M)) (ad 9 5) 13, 13 = 13 ∨ 13 = 14, vp_in ((7 * (nI j2)) + (nI j1)) (mN (mm M (up2 (mI M) (ad 10 0) 0 0) (mJ M)) (ad 9 5)), (Value.int ((up2 (mI M) (ad 10 0) 0 0) (ad 9 5) (((7 * (nI j2)) + (nI j1)).toNatClampNeg))) = .int ((mI M) (ad 9 5) (7 * j2 + j1))]) rfl ⟨hM.1, (hM.r 5 13 364), rfl, (hM.o 5 13 364), (by decide), (vp_eq (eq_add (eq_mul (show (7 : Int32) = nI 7 from rfl) rfl) rfl) (vpi (hM.n 5 13 364) (by omega))), congrArg Value.int ((congrArg (fun z => (up2 (mI M) (ad 10 0) 0 0) (ad 9 5) z) (cl_of (eq_add (eq_mul (show (7 : Int32) = nI 7 from rfl) rfl) rfl) (by omega))).trans ((up2_n _ _ (fun z => absurd (hi _ _ _ _ z.1).1 (by decide))).trans (rfl))), trivial⟩ ?_
                refine go_icmp rfl (fun (z : ¬ ((mI M) (ad 9 5) (7 * j2 + j1)) = 0) => absurd z (show ¬ (¬ ((mI M) (ad 9 5) (7 * j2 + j1)) = 0) from c3)) (fun _ => ?_)
                refine go_blk 1 [] (pc' := 37) (vs' := [.ref (ad 10 0), .int (nI j1), .int (nI j2), .int 0]) (st' := [.int 0]) (M' := mm M (up2 (mI M) (ad 10 0) 0 0) (mJ M)) (ps := []) rfl trivial ?_
                refine go_zret rfl rfl (Or.inl rfl) ?_
                exact h2 _ ⟨hsc, ad, nc, nb, nt, wk, nw, nx, nl, ne, nk, kd, true, rfl, rfl, rfl, hW.thr⟩
              · exact absurd ⟨j2, hl2, hj2, rfl⟩ c7
            · exact absurd ⟨j1, hj1, rfl⟩ c6
        · -- 0
          show Go 1311 120 0 0 17 [.ref (ad 0 0), .int (nI j1), .int a2, .int 0, .ref (ad 1 j1)] [.int 0] (mm M (mI M) (mJ M)) R
          refine go_if rfl (fun _ => ?_) (fun (z : ¬ ((0 : Int32) = 0)) => absurd (show (0 : Int32) = 0 from (by decide)) z)
          refine go_blk 1 [] (pc' := 31) (vs' := [.ref (ad 0 0), .int (nI j1), .int a2, .int 0, .ref (ad 1 j1)]) (st' := [.int 0]) (M' := mm M (mI M) (mJ M)) (ps := []) rfl trivial ?_
          refine go_zret rfl rfl (Or.inl rfl) ?_
          refine K _ _ hM.1 rfl (fun R2 h2 => ?_)
          show Go 1311 196 0 0 0 [.ref (ad 10 0), .int (nI j1), .int a2, .int 0] [] (mm M (mI M) (mJ M)) R2
          refine go_blk 5 [] (pc' := 7) (vs' := [.ref (ad 10 0), .int (nI j1), .int a2, .int 0]) (st' := [.int (nI j1), .ref (ad 10 0)]) (M' := mm M (up2 (mI M) (ad 10 0) 0 0) (mJ M)) (ps := [ob (mm M (mI M) (mJ M)) (ad 10 0) 12]) rfl ⟨hM.1, trivial⟩ ?_
          refine go_callV rfl rfl rfl (by omega) rfl (by decide) (by decide) hM.1 ?_
          refine s_Mo_isCottage hM (((up2_n _ _ (fun z => absurd z.2 (by decide))).trans (rfl)).trans nc2) (Nat.le_trans nc3 (by decide)) (fun j8 hj8 hx8 => ⟨ne_i, ?_⟩) (fun c8 => ⟨ne_i, ?_⟩)
          · -- 1
            show Go 1311 196 0 0 10 [.ref (ad 10 0), .int (nI j1), .int a2, .int 0] [.int 1] (mm M (up2 (mI M) (ad 10 0) 0 0) (mJ M)) R2
            refine go_if rfl (fun (z : (1 : Int32) = 0) => absurd z (show ¬ ((1 : Int32) = 0) from (by decide))) (fun _ => ?_)
            refine go_blk 2 [] (pc' := 15) (vs' := [.ref (ad 10 0), .int (nI j1), .int a2, .int 0]) (st' := [.int a2, .ref (ad 10 0)]) (M' := mm M (up2 (mI M) (ad 10 0) 0 0) (mJ M)) (ps := []) rfl trivial ?_
            refine go_callV rfl rfl rfl (by omega) rfl (by decide) (by decide) hM.1 ?_
            refine s_Mo_isAheadK (wk := wk) (lo := (wk + 1)) (by omega) hM (((up2_n _ _ (fun z => absurd z.2 (by decide))).trans (rfl)).trans wk2) wk3 (Or.inr ⟨(((up2_n _ _ (fun z => absurd z.2 (by decide))).trans (rfl)).trans op2), rfl⟩) (fun j9 hl9 hj9 hx9 => ⟨ne_i, ?_⟩) (fun c9 => ⟨ne_i, ?_⟩)
            · exact absurd ⟨j9, hl9, hj9, hx9⟩ c2
            · -- 0
              show Go 1311 196 0 0 18 [.ref (ad 10 0), .int (nI j1), .int a2, .int 0] [.int 0] (mm M (up2 (mI M) (ad 10 0) 0 0) (mJ M)) R2
              refine go_if rfl (fun _ => ?_) (fun (z : ¬ ((0 : Int32) = 0)) => absurd (show (0 : Int32) = 0 from (by decide)) z)
              refine go_blk 1 [] (pc' := 37) (vs' := [.ref (ad 10 0), .int (nI j1), .int a2, .int 0]) (st' := [.int 0]) (M' := mm M (up2 (mI M) (ad 10 0) 0 0) (mJ M)) (ps := []) rfl trivial ?_
              refine go_zret rfl rfl (Or.inl rfl) ?_
              exact h2 _ ⟨hsc, ad, nc, nb, nt, wk, nw, nx, nl, ne, nk, kd, true, rfl, rfl, rfl, hW.thr⟩
          · exact absurd ⟨j1, hj1, rfl⟩ c8
      · -- ('n',)
        show Go 1311 120 0 0 5 [.ref (ad 0 0), .int a1, .int a2, .int 0, .retAddr 0] [.null] (mm M (mI M) (mJ M)) R
        refine go_blk 2 [] (pc' := 9) (vs' := [.ref (ad 0 0), .int a1, .int a2, .int 0, .null]) (st' := [.null]) (M' := mm M (mI M) (mJ M)) (ps := []) rfl trivial ?_
        refine go_ifnull0 rfl ?_
        refine go_blk 1 [] (pc' := 31) (vs' := [.ref (ad 0 0), .int a1, .int a2, .int 0, .null]) (st' := [.int 0]) (M' := mm M (mI M) (mJ M)) (ps := []) rfl trivial ?_
        refine go_zret rfl rfl (Or.inl rfl) ?_
        refine K _ _ hM.1 rfl (fun R2 h2 => ?_)
        show Go 1311 196 0 0 0 [.ref (ad 10 0), .int a1, .int a2, .int 0] [] (mm M (mI M) (mJ M)) R2
        refine go_blk 5 [] (pc' := 7) (vs' := [.ref (ad 10 0), .int a1, .int a2, .int 0]) (st' := [.int a1, .ref (ad 10 0)]) (M' := mm M (up2 (mI M) (ad 10 0) 0 0) (mJ M)) (ps := [ob (mm M (mI M) (mJ M)) (ad 10 0) 12]) rfl ⟨hM.1, trivial⟩ ?_
        refine go_callV rfl rfl rfl (by omega) rfl (by decide) (by decide) hM.1 ?_
        refine s_Mo_isCottage hM (((up2_n _ _ (fun z => absurd z.2 (by decide))).trans (rfl)).trans nc2) (Nat.le_trans nc3 (by decide)) (fun j10 hj10 hx10 => ⟨ne_i, ?_⟩) (fun c10 => ⟨ne_i, ?_⟩)
        · exact absurd ⟨j10, hj10, hx10⟩ c1
        · -- 0
          show Go 1311 196 0 0 10 [.ref (ad 10 0), .int a1, .int a2, .int 0] [.int 0] (mm M (up2 (mI M) (ad 10 0) 0 0) (mJ M)) R2
          refine go_if rfl (fun _ => ?_) (fun (z : ¬ ((0 : Int32) = 0)) => absurd (show (0 : Int32) = 0 from (by decide)) z)
          refine go_blk 1 [] (pc' := 37) (vs' := [.ref (ad 10 0), .int a1, .int a2, .int 0]) (st' := [.int 0]) (M' := mm M (up2 (mI M) (ad 10 0) 0 0) (mJ M)) (ps := []) rfl trivial ?_
          refine go_zret rfl rfl (Or.inl rfl) ?_
          exact h2 _ ⟨hsc, ad, nc, nb, nt, wk, nw, nx, nl, ne, nk, kd, true, rfl, rfl, rfl, hW.thr⟩
    ·
      show Go 1311 120 0 0 0 [.ref (ad 0 0), .int a1, .int a2, .int 1, .retAddr 0] [] (mm M (mI M) (mJ M)) R
      refine go_blk 2 [] (pc' := 2) (vs' := [.ref (ad 0 0), .int a1, .int a2, .int 1, .retAddr 0]) (st' := [.int a1, .ref (ad 0 0)]) (M' := mm M (mI M) (mJ M)) (ps := []) rfl trivial ?_
      refine go_callV rfl rfl rfl (by omega) rfl (by decide) (by decide) (hF.o 0) ?_
      refine s_CY_cottageAt (by omega) hF hC nc1 nc3 (fun j1 hj1 hx1 => ⟨ne_a, ?_⟩) (fun c1 => ⟨ne_0, ?_⟩)
      · -- ('r', 'ad 1 j1')
        subst hx1
        show Go 1311 120 0 0 5 [.ref (ad 0 0), .int (nI j1), .int a2, .int 1, .retAddr 0] [.ref (ad 1 j1)] (mm M (mI M) (mJ M)) R
        refine go_blk 2 [] (pc' := 9) (vs' := [.ref (ad 0 0), .int (nI j1), .int a2, .int 1, .ref (ad 1 j1)]) (st' := [.ref (ad 1 j1)]) (M' := mm M (mI M) (mJ M)) (ps := []) rfl trivial ?_
        refine go_ifnull1 rfl ?_
        refine go_blk 2 [] (pc' := 14) (vs' := [.ref (ad 0 0), .int (nI j1), .int a2, .int 1, .ref (ad 1 j1)]) (st' := [.int a2, .ref (ad 0 0)]) (M' := mm M (mI M) (mJ M)) (ps := []) rfl trivial ?_
        refine go_callV rfl rfl rfl (by omega) rfl (by decide) (by decide) (hF.o 0) ?_
        refine s_CY_isToComeK (wk := wk) (lo := (wk + 1)) (by omega) hF wk1 wk3 (Or.inr ⟨op1, rfl⟩) (fun j2 hl2 hj2 hx2 => ⟨ne_i, ?_⟩) (fun c2 => ⟨ne_i, ?_⟩)
        · -- 1
          subst hx2
          show Go 1311 120 0 0 17 [.ref (ad 0 0), .int (nI j1), .int (nI j2), .int 1, .ref (ad 1 j1)] [.int 1] (mm M (mI M) (mJ M)) R
          refine go_if rfl (fun (z : (1 : Int32) = 0) => absurd z (show ¬ ((1 : Int32) = 0) from (by decide))) (fun _ => ?_)
          refine go_blk 2 [] (pc' := 23) (vs' := [.ref (ad 0 0), .int (nI j1), .int (nI j2), .int 1, .ref (ad 1 j1)]) (st' := [.int (nI j2), .ref (ad 1 j1)]) (M' := mm M (mI M) (mJ M)) (ps := []) rfl trivial ?_
          refine go_callV rfl rfl rfl (by omega) rfl (by decide) (by decide) (hC j1 (by assumption)).2 ?_
          refine s_Co_isShut (by omega) hC (by assumption) (by omega) ((iC.1 j1 (by assumption)).2.2.2.2.2 j2 (by omega)) ⟨ne_i, ?_⟩
          show Go 1311 120 0 0 26 [.ref (ad 0 0), .int (nI j1), .int (nI j2), .int 1, .ref (ad 1 j1)] [.int ((mI M) (ad 9 5) (7 * j2 + j1))] (mm M (mI M) (mJ M)) R
          refine go_blk 1 [] (pc' := 27) (vs' := [.ref (ad 0 0), .int (nI j1), .int (nI j2), .int 1, .ref (ad 1 j1)]) (st' := [.int 1, .int ((mI M) (ad 9 5) (7 * j2 + j1))]) (M' := mm M (mI M) (mJ M)) (ps := []) rfl trivial ?_
          refine go_icmp rfl (fun (c3 : ¬ ((mI M) (ad 9 5) (7 * j2 + j1)) = 1) => ?_) (fun (c3 : ¬ (¬ ((mI M) (ad 9 5) (7 * j2 + j1)) = 1)) => ?_)
          · -- ¬ ((mI M) (ad 9 5) (7 * j2 + j1)) = 1
            refine go_blk 3 [] (pc' := 36) (vs' := [.ref (ad 0 0), .int (nI j1), .int (nI j2), .int 1, .ref (ad 1 j1)]) (st' := [.int 1, .int (nI j2), .ref (ad 1 j1)]) (M' := mm M (mI M) (mJ M)) (ps := []) rfl trivial ?_
            refine go_callV rfl rfl rfl (by omega) rfl (by decide) (by decide) (hC j1 (by assumption)).2 ?_
            show Go (1311 - 1) 23 0 0 0 [.ref (ad 1 j1), .int (nI j2), .int 1] [] (mm M (mI M) (mJ M)) _
            refine go_blk 2 [] (pc' := 2) (vs' := [.ref (ad 1 j1), .int (nI j2), .int 1]) (st' := [.int 1, .ref (ad 1 j1)]) (M' := mm M (mI M) (mJ M)) (ps := []) rfl trivial ?_
            refine go_if rfl (fun (z : (1 : Int32) = 0) => absurd z (show ¬ ((1 : Int32) = 0) from (by decide))) (fun _ => ?_)
            refine go_blk 8 [] (pc' := 31) (vs' := [.ref (ad 1 j1), .int (nI j2), .int 1]) (st' := []) (M' := mm M (mI M) (up2 (mJ M) (ad 1 j1) 4 (((mJ M) (ad 1 j1) 4) ||| ((1 : Int64) <<< ((nI j2).toInt64 &&& 63))))) (ps := [ob (mm M (mI M) (mJ M)) (ad 1 j1) 2, ob (mm M (mI M) (mJ M)) (ad 1 j1) 2]) rfl ⟨(hC j1 (by assumption)).2, (hC j1 (by assumption)).2, trivial⟩ ?_
            refine go_vret rfl rfl ?_
            refine ⟨ne_v, ?_⟩
            show Go 1311 120 0 0 39 [.ref (ad 0 0), .int (nI j1), .int (nI j2), .int 1, .ref (ad 1 j1)] [] (mm M (mI M) (up2 (mJ M) (ad 1 j1) 4 (((mJ M) (ad 1 j1) 4) ||| ((1 : Int64) <<< ((nI j2).toInt64 &&& 63))))) R
            refine go_blk 1 [] (pc' := 40) (vs' := [.ref (ad 0 0), .int (nI j1), .int (nI j2), .int 1, .ref (ad 1 j1)]) (st' := [.int 1]) (M' := mm M (mI M) (up2 (mJ M) (ad 1 j1) 4 (((mJ M) (ad 1 j1) 4) ||| ((1 : Int64) <<< ((nI j2).toInt64 &&& 63))))) (ps := []) rfl trivial ?_
            refine go_zret rfl rfl (Or.inr rfl) ?_
            refine K _ _ hM.1 rfl (fun R2 h2 => ?_)
            show Go 1311 196 0 0 0 [.ref (ad 10 0), .int (nI j1), .int (nI j2), .int 1] [] (mm M (mI M) (up2 (mJ M) (ad 1 j1) 4 (((mJ M) (ad 1 j1) 4) ||| ((1 : Int64) <<< ((nI j2).toInt64 &&& 63))))) R2
            refine go_blk 5 [] (pc' := 7) (vs' := [.ref (ad 10 0), .int (nI j1), .int (nI j2), .int 1]) (st' := [.int (nI j1), .ref (ad 10 0)]) (M' := mm M (up2 (mI M) (ad 10 0) 0 0) (up2 (mJ M) (ad 1 j1) 4 (((mJ M) (ad 1 j1) 4) ||| ((1 : Int64) <<< ((nI j2).toInt64 &&& 63))))) (ps := [ob (mm M (mI M) (up2 (mJ M) (ad 1 j1) 4 (((mJ M) (ad 1 j1) 4) ||| ((1 : Int64) <<< ((nI j2).toInt64 &&& 63))))) (ad 10 0) 12]) rfl ⟨hM.1, trivial⟩ ?_
            refine go_callV rfl rfl rfl (by omega) rfl (by decide) (by decide) hM.1 ?_
            refine s_Mo_isCottage hM (((up2_n _ _ (fun z => absurd z.2 (by decide))).trans (rfl)).trans nc2) (Nat.le_trans nc3 (by decide)) (fun j4 hj4 hx4 => ⟨ne_i, ?_⟩) (fun c4 => ⟨ne_i, ?_⟩)
            · -- 1
              show Go 1311 196 0 0 10 [.ref (ad 10 0), .int (nI j1), .int (nI j2), .int 1] [.int 1] (mm M (up2 (mI M) (ad 10 0) 0 0) (up2 (mJ M) (ad 1 j1) 4 (((mJ M) (ad 1 j1) 4) ||| ((1 : Int64) <<< ((nI j2).toInt64 &&& 63))))) R2
              refine go_if rfl (fun (z : (1 : Int32) = 0) => absurd z (show ¬ ((1 : Int32) = 0) from (by decide))) (fun _ => ?_)
              refine go_blk 2 [] (pc' := 15) (vs' := [.ref (ad 10 0), .int (nI j1), .int (nI j2), .int 1]) (st' := [.int (nI j2), .ref (ad 10 0)]) (M' := mm M (up2 (mI M) (ad 10 0) 0 0) (up2 (mJ M) (ad 1 j1) 4 (((mJ M) (ad 1 j1) 4) ||| ((1 : Int64) <<< ((nI j2).toInt64 &&& 63))))) (ps := []) rfl trivial ?_
              refine go_callV rfl rfl rfl (by omega) rfl (by decide) (by decide) hM.1 ?_
              refine s_Mo_isAheadK (wk := wk) (lo := (wk + 1)) (by omega) hM (((up2_n _ _ (fun z => absurd z.2 (by decide))).trans (rfl)).trans wk2) wk3 (Or.inr ⟨(((up2_n _ _ (fun z => absurd z.2 (by decide))).trans (rfl)).trans op2), rfl⟩) (fun j5 hl5 hj5 hx5 => ⟨ne_i, ?_⟩) (fun c5 => ⟨ne_i, ?_⟩)
              · -- 1
                obtain rfl : j2 = j5 := (nI_eqs (by omega) (by omega)).mp hx5
                show Go 1311 196 0 0 18 [.ref (ad 10 0), .int (nI j1), .int (nI j2), .int 1] [.int 1] (mm M (up2 (mI M) (ad 10 0) 0 0) (up2 (mJ M) (ad 1 j1) 4 (((mJ M) (ad 1 j1) 4) ||| ((1 : Int64) <<< ((nI j2).toInt64 &&& 63))))) R2
                refine go_if rfl (fun (z : (1 : Int32) = 0) => absurd z (show ¬ ((1 : Int32) = 0) from (by decide))) (fun _ => ?_)
                refine go_blk 9 [some (.ref (ad 9 5)), some (.int ((mI M) (ad 9 5) (7 * j2 + j1)))] (pc' := 33) (vs' := [.ref (ad 10 0), .int (nI j1), .int (nI j2), .int 1]) (st' := [.int 1, .int ((mI M) (ad 9 5) (7 * j2 + j1))]) (M' := mm M (up2 (mI M) (ad 10 0) 0 0) (up2 (mJ M) (ad 1 j1) 4 (((mJ M) (ad 1 j1) 4) ||| ((1 : Int64) <<< ((nI j2).toInt64 &&& 63))))) (ps := [ob (mm M (up2 (mI M) (ad 10 0) 0 0) (up2 (mJ M) (ad 1 j1) 4 (((mJ M) (ad 1 j1) 4) ||| ((1 : Int64) <<< ((nI j2).toInt64 &&& 63))))) (ad 10 0) 12, mR (mm M (up2 (mI M) (ad 10 0) 0 0) (up2 (mJ M) (ad 1 j1) 4 (((mJ M) (ad 1 j1) 4) ||| ((1 : Int64) <<< ((nI j2).toInt64 &&& 63))))) (ad 10 0) 5 = some (ad 9 5), va_rf (some (ad 9 5)) = .ref (ad 9 5), ob (mm M (up2 (mI M) (ad 10 0) 0 0) (up2 (mJ M) (ad 1 j1) 4 (((mJ M) (ad 1 j1) 4) ||| ((1 : Int64) <<< ((nI j2).toInt64 &&& 63))))) (ad 9 5) 13, 13 = 13 ∨ 13 = 14, vp_in ((7 * (nI j2)) + (nI j1)) (mN (mm M (up2 (mI M) (ad 10 0) 0 0) (up2 (mJ M) (ad 1 j1) 4 (((mJ M) (ad 1 j1) 4) ||| ((1 : Int64) <<< ((nI j2).toInt64 &&& 63))))) (ad 9 5)), (Value.int ((up2 (mI M) (ad 10 0) 0 0) (ad 9 5) (((7 * (nI j2)) + (nI j1)).toNatClampNeg))) = .int ((mI M) (ad 9 5) (7 * j2 + j1))]) rfl ⟨hM.1, (hM.r 5 13 364), rfl, (hM.o 5 13 364), (by decide), (vp_eq (eq_add (eq_mul (show (7 : Int32) = nI 7 from rfl) rfl) rfl) (vpi (hM.n 5 13 364) (by omega))), congrArg Value.int ((congrArg (fun z => (up2 (mI M) (ad 10 0) 0 0) (ad 9 5) z) (cl_of (eq_add (eq_mul (show (7 : Int32) = nI 7 from rfl) rfl) rfl) (by omega))).trans ((up2_n _ _ (fun z => absurd (hi _ _ _ _ z.1).1 (by decide))).trans (rfl))), trivial⟩ ?_
                refine go_icmp rfl (fun _ => ?_) (fun (z : ¬ (¬ ((mI M) (ad 9 5) (7 * j2 + j1)) = 1)) => absurd (show ¬ ((mI M) (ad 9 5) (7 * j2 + j1)) = 1 from c3) z)
                refine go_blk 10 [some (.ref (ad 9 5))] (pc' := 51) (vs' := [.ref (ad 10 0), .int (nI j1), .int (nI j2), .int 1]) (st' := [.int 1]) (M' := mm M (up2 (up2 (mI M) (ad 10 0) 0 0) (ad 9 5) (((7 * (nI j2)) + (nI j1)).toNatClampNeg) 1) (up2 (mJ M) (ad 1 j1) 4 (((mJ M) (ad 1 j1) 4) ||| ((1 : Int64) <<< ((nI j2).toInt64 &&& 63))))) (ps := [ob (mm M (up2 (mI M) (ad 10 0) 0 0) (up2 (mJ M) (ad 1 j1) 4 (((mJ M) (ad 1 j1) 4) ||| ((1 : Int64) <<< ((nI j2).toInt64 &&& 63))))) (ad 10 0) 12, mR (mm M (up2 (mI M) (ad 10 0) 0 0) (up2 (mJ M) (ad 1 j1) 4 (((mJ M) (ad 1 j1) 4) ||| ((1 : Int64) <<< ((nI j2).toInt64 &&& 63))))) (ad 10 0) 5 = some (ad 9 5), va_rf (some (ad 9 5)) = .ref (ad 9 5), ob (mm M (up2 (mI M) (ad 10 0) 0 0) (up2 (mJ M) (ad 1 j1) 4 (((mJ M) (ad 1 j1) 4) ||| ((1 : Int64) <<< ((nI j2).toInt64 &&& 63))))) (ad 9 5) 13, vp_in ((7 * (nI j2)) + (nI j1)) (mN (mm M (up2 (mI M) (ad 10 0) 0 0) (up2 (mJ M) (ad 1 j1) 4 (((mJ M) (ad 1 j1) 4) ||| ((1 : Int64) <<< ((nI j2).toInt64 &&& 63))))) (ad 9 5))]) rfl ⟨hM.1, (hM.r 5 13 364), rfl, (hM.o 5 13 364), (vp_eq (eq_add (eq_mul (show (7 : Int32) = nI 7 from rfl) rfl) rfl) (vpi (hM.n 5 13 364) (by omega))), trivial⟩ ?_
                rw [cl_of (x := (7 * j2 + j1)) (eq_add (eq_mul (show (7 : Int32) = nI 7 from rfl) rfl) rfl) (by omega)]
                refine go_zret rfl rfl (Or.inr rfl) ?_
                have ch : ∀ t i k, ¬ ((t = 10 ∧ i = 0 ∧ k = 0) ∨ (t = 9 ∧ i = 5 ∧ k = (7 * j2 + j1))) → vw ad (up2 (up2 (mI M) (ad 10 0) 0 0) (ad 9 5) ((7 * j2 + j1)) 1) t i k = vw ad (mI M) t i k := by
                  intro t i k hn
                  simp only [vw_up2 hi]
                  rw [up3_n _ _ (by omega), up3_n _ _ (by omega)]
                have chj : ∀ t i k, ¬ ((t = 1 ∧ i = j1 ∧ k = 4)) → vw ad (up2 (mJ M) (ad 1 j1) 4 (((mJ M) (ad 1 j1) 4) ||| ((1 : Int64) <<< ((nI j2).toInt64 &&& 63)))) t i k = vw ad (mJ M) t i k := by
                  intro t i k hn
                  simp only [vw_up2 hi]
                  rw [up3_n _ _ (by omega)]
                have eJ1 : eJ nb (vw ad (mI M)) (vw ad (up2 (up2 (mI M) (ad 10 0) 0 0) (ad 9 5) ((7 * j2 + j1)) 1)) := fun i k h => ch 9 i k (by omega)
                refine h2 _ ⟨hsc, ad, nc, nb, nt, wk, nw, nx, nl, ne, nk, kd, true, rfl, rfl, rfl, hi, ⟨hF, hM, hC, hB, hT, hX⟩, ⟨iS.congr (fun t k h => ch t 0 k (by omega)), ?_, iB.congr (fun t i k h => ch t i k (by omega)), iR.congr (fun t i k h => ch t i k (by omega)), iL.congr (fun t i k h => ch t i k (by omega)), iT.congr (fun t i k h => ch t i k (by omega))⟩, ⟨jO.congr eJ1 (fun b k _ _ _ => ch 6 b k (by omega)), jR.congr eJ1, jB.congr nb3 (fun t i k h => ch t i k (by omega)), jX.congr (fun t i k h => ch t i k (by omega)), jL.congr eJ1 (fun b k _ _ _ => ch 6 b k (by omega)) (fun t i k h => ch t i k (by omega))⟩, kO.congr iB wk3 (fun t i k h => ch t i k (by omega)) (fun b _ _ => ch 6 b 8 (by omega)), kC.congr (fun t i k h => ch t i k (by omega)) ⟨chj 0 0 12 (by omega), chj 10 0 99 (by omega)⟩, kD.congr (fun i k h => ch 9 i k (by omega)), kP.congr eJ1 (fun i k h => ch 9 i k (by have := ppS_sp h; omega)) ⟨ch 10 0 31 (by omega), ch 0 7 19 (by omega), ch 0 7 2 (by omega), ch 0 7 4 (by omega), fun t => ch 0 30 t (by omega)⟩ (chj 0 7 17 (by omega)), kX.congr (fun t i k h => ch t i k (by omega))⟩
                refine iC.shut (c := j1) (w := j2) true nc3 (by assumption) (by omega) (fun t i k h1 h2 => ch t i k (by omega)) ?_ (fun a ha => chj 1 a 4 (by omega)) (fun u hu => ?_)
                · show vw ad (up2 (up2 (mI M) (ad 10 0) 0 0) (ad 9 5) ((7 * j2 + j1)) 1) 9 5 (7 * j2 + j1) = _
                  simp only [vw_up2 hi]; simp [up3]
                · show (vw ad (up2 (mJ M) (ad 1 j1) 4 (((mJ M) (ad 1 j1) 4) ||| ((1 : Int64) <<< ((nI j2).toInt64 &&& 63)))) 1 j1 4).toBitVec.getLsbD u = _
                  simp only [vw_up2 hi]
                  rw [up3_s]
                  exact sh_or _ (by omega) hu
              · exact absurd ⟨j2, hl2, hj2, rfl⟩ c5
            · exact absurd ⟨j1, hj1, rfl⟩ c4
          · -- ¬ (¬ ((mI M) (ad 9 5) (7 * j2 + j1)) = 1)
            refine go_blk 1 [] (pc' := 31) (vs' := [.ref (ad 0 0), .int (nI j1), .int (nI j2), .int 1, .ref (ad 1 j1)]) (st' := [.int 0]) (M' := mm M (mI M) (mJ M)) (ps := []) rfl trivial ?_
            refine go_zret rfl rfl (Or.inl rfl) ?_
            refine K _ _ hM.1 rfl (fun R2 h2 => ?_)
            show Go 1311 196 0 0 0 [.ref (ad 10 0), .int (nI j1), .int (nI j2), .int 1] [] (mm M (mI M) (mJ M)) R2
            refine go_blk 5 [] (pc' := 7) (vs' := [.ref (ad 10 0), .int (nI j1), .int (nI j2), .int 1]) (st' := [.int (nI j1), .ref (ad 10 0)]) (M' := mm M (up2 (mI M) (ad 10 0) 0 0) (mJ M)) (ps := [ob (mm M (mI M) (mJ M)) (ad 10 0) 12]) rfl ⟨hM.1, trivial⟩ ?_
            refine go_callV rfl rfl rfl (by omega) rfl (by decide) (by decide) hM.1 ?_
            refine s_Mo_isCottage hM (((up2_n _ _ (fun z => absurd z.2 (by decide))).trans (rfl)).trans nc2) (Nat.le_trans nc3 (by decide)) (fun j6 hj6 hx6 => ⟨ne_i, ?_⟩) (fun c6 => ⟨ne_i, ?_⟩)
            · -- 1
              show Go 1311 196 0 0 10 [.ref (ad 10 0), .int (nI j1), .int (nI j2), .int 1] [.int 1] (mm M (up2 (mI M) (ad 10 0) 0 0) (mJ M)) R2
              refine go_if rfl (fun (z : (1 : Int32) = 0) => absurd z (show ¬ ((1 : Int32) = 0) from (by decide))) (fun _ => ?_)
              refine go_blk 2 [] (pc' := 15) (vs' := [.ref (ad 10 0), .int (nI j1), .int (nI j2), .int 1]) (st' := [.int (nI j2), .ref (ad 10 0)]) (M' := mm M (up2 (mI M) (ad 10 0) 0 0) (mJ M)) (ps := []) rfl trivial ?_
              refine go_callV rfl rfl rfl (by omega) rfl (by decide) (by decide) hM.1 ?_
              refine s_Mo_isAheadK (wk := wk) (lo := (wk + 1)) (by omega) hM (((up2_n _ _ (fun z => absurd z.2 (by decide))).trans (rfl)).trans wk2) wk3 (Or.inr ⟨(((up2_n _ _ (fun z => absurd z.2 (by decide))).trans (rfl)).trans op2), rfl⟩) (fun j7 hl7 hj7 hx7 => ⟨ne_i, ?_⟩) (fun c7 => ⟨ne_i, ?_⟩)
              · -- 1
                obtain rfl : j2 = j7 := (nI_eqs (by omega) (by omega)).mp hx7
                show Go 1311 196 0 0 18 [.ref (ad 10 0), .int (nI j1), .int (nI j2), .int 1] [.int 1] (mm M (up2 (mI M) (ad 10 0) 0 0) (mJ M)) R2
                refine go_if rfl (fun (z : (1 : Int32) = 0) => absurd z (show ¬ ((1 : Int32) = 0) from (by decide))) (fun _ => ?_)
                refine go_blk 9 [some (.ref (ad 9 5)), some (.int ((mI M) (ad 9 5) (7 * j2 + j1)))] (pc' := 33) (vs' := [.ref (ad 10 0), .int (nI j1), .int (nI j2), .int 1]) (st' := [.int 1, .int ((mI M) (ad 9 5) (7 * j2 + j1))]) (M' := mm M (up2 (mI M) (ad 10 0) 0 0) (mJ M)) (ps := [ob (mm M (up2 (mI M) (ad 10 0) 0 0) (mJ M)) (ad 10 0) 12, mR (mm M (up2 (mI M) (ad 10 0) 0 0) (mJ M)) (ad 10 0) 5 = some (ad 9 5), va_rf (some (ad 9 5)) = .ref (ad 9 5), ob (mm M (up2 (mI M) (ad 10 0) 0 0) (mJ M)) (ad 9 5) 13, 13 = 13 ∨ 13 = 14, vp_in ((7 * (nI j2)) + (nI j1)) (mN (mm M (up2 (mI M) (ad 10 0) 0 0) (mJ M)) (ad 9 5)), (Value.int ((up2 (mI M) (ad 10 0) 0 0) (ad 9 5) (((7 * (nI j2)) + (nI j1)).toNatClampNeg))) = .int ((mI M) (ad 9 5) (7 * j2 + j1))]) rfl ⟨hM.1, (hM.r 5 13 364), rfl, (hM.o 5 13 364), (by decide), (vp_eq (eq_add (eq_mul (show (7 : Int32) = nI 7 from rfl) rfl) rfl) (vpi (hM.n 5 13 364) (by omega))), congrArg Value.int ((congrArg (fun z => (up2 (mI M) (ad 10 0) 0 0) (ad 9 5) z) (cl_of (eq_add (eq_mul (show (7 : Int32) = nI 7 from rfl) rfl) rfl) (by omega))).trans ((up2_n _ _ (fun z => absurd (hi _ _ _ _ z.1).1 (by decide))).trans (rfl))), trivial⟩ ?_
                refine go_icmp rfl (fun (z : ¬ ((mI M) (ad 9 5) (7 * j2 + j1)) = 1) => absurd z (show ¬ (¬ ((mI M) (ad 9 5) (7 * j2 + j1)) = 1) from c3)) (fun _ => ?_)
                refine go_blk 1 [] (pc' := 37) (vs' := [.ref (ad 10 0), .int (nI j1), .int (nI j2), .int 1]) (st' := [.int 0]) (M' := mm M (up2 (mI M) (ad 10 0) 0 0) (mJ M)) (ps := []) rfl trivial ?_
                refine go_zret rfl rfl (Or.inl rfl) ?_
                exact h2 _ ⟨hsc, ad, nc, nb, nt, wk, nw, nx, nl, ne, nk, kd, true, rfl, rfl, rfl, hW.thr⟩
              · exact absurd ⟨j2, hl2, hj2, rfl⟩ c7
            · exact absurd ⟨j1, hj1, rfl⟩ c6
        · -- 0
          show Go 1311 120 0 0 17 [.ref (ad 0 0), .int (nI j1), .int a2, .int 1, .ref (ad 1 j1)] [.int 0] (mm M (mI M) (mJ M)) R
          refine go_if rfl (fun _ => ?_) (fun (z : ¬ ((0 : Int32) = 0)) => absurd (show (0 : Int32) = 0 from (by decide)) z)
          refine go_blk 1 [] (pc' := 31) (vs' := [.ref (ad 0 0), .int (nI j1), .int a2, .int 1, .ref (ad 1 j1)]) (st' := [.int 0]) (M' := mm M (mI M) (mJ M)) (ps := []) rfl trivial ?_
          refine go_zret rfl rfl (Or.inl rfl) ?_
          refine K _ _ hM.1 rfl (fun R2 h2 => ?_)
          show Go 1311 196 0 0 0 [.ref (ad 10 0), .int (nI j1), .int a2, .int 1] [] (mm M (mI M) (mJ M)) R2
          refine go_blk 5 [] (pc' := 7) (vs' := [.ref (ad 10 0), .int (nI j1), .int a2, .int 1]) (st' := [.int (nI j1), .ref (ad 10 0)]) (M' := mm M (up2 (mI M) (ad 10 0) 0 0) (mJ M)) (ps := [ob (mm M (mI M) (mJ M)) (ad 10 0) 12]) rfl ⟨hM.1, trivial⟩ ?_
          refine go_callV rfl rfl rfl (by omega) rfl (by decide) (by decide) hM.1 ?_
          refine s_Mo_isCottage hM (((up2_n _ _ (fun z => absurd z.2 (by decide))).trans (rfl)).trans nc2) (Nat.le_trans nc3 (by decide)) (fun j8 hj8 hx8 => ⟨ne_i, ?_⟩) (fun c8 => ⟨ne_i, ?_⟩)
          · -- 1
            show Go 1311 196 0 0 10 [.ref (ad 10 0), .int (nI j1), .int a2, .int 1] [.int 1] (mm M (up2 (mI M) (ad 10 0) 0 0) (mJ M)) R2
            refine go_if rfl (fun (z : (1 : Int32) = 0) => absurd z (show ¬ ((1 : Int32) = 0) from (by decide))) (fun _ => ?_)
            refine go_blk 2 [] (pc' := 15) (vs' := [.ref (ad 10 0), .int (nI j1), .int a2, .int 1]) (st' := [.int a2, .ref (ad 10 0)]) (M' := mm M (up2 (mI M) (ad 10 0) 0 0) (mJ M)) (ps := []) rfl trivial ?_
            refine go_callV rfl rfl rfl (by omega) rfl (by decide) (by decide) hM.1 ?_
            refine s_Mo_isAheadK (wk := wk) (lo := (wk + 1)) (by omega) hM (((up2_n _ _ (fun z => absurd z.2 (by decide))).trans (rfl)).trans wk2) wk3 (Or.inr ⟨(((up2_n _ _ (fun z => absurd z.2 (by decide))).trans (rfl)).trans op2), rfl⟩) (fun j9 hl9 hj9 hx9 => ⟨ne_i, ?_⟩) (fun c9 => ⟨ne_i, ?_⟩)
            · exact absurd ⟨j9, hl9, hj9, hx9⟩ c2
            · -- 0
              show Go 1311 196 0 0 18 [.ref (ad 10 0), .int (nI j1), .int a2, .int 1] [.int 0] (mm M (up2 (mI M) (ad 10 0) 0 0) (mJ M)) R2
              refine go_if rfl (fun _ => ?_) (fun (z : ¬ ((0 : Int32) = 0)) => absurd (show (0 : Int32) = 0 from (by decide)) z)
              refine go_blk 1 [] (pc' := 37) (vs' := [.ref (ad 10 0), .int (nI j1), .int a2, .int 1]) (st' := [.int 0]) (M' := mm M (up2 (mI M) (ad 10 0) 0 0) (mJ M)) (ps := []) rfl trivial ?_
              refine go_zret rfl rfl (Or.inl rfl) ?_
              exact h2 _ ⟨hsc, ad, nc, nb, nt, wk, nw, nx, nl, ne, nk, kd, true, rfl, rfl, rfl, hW.thr⟩
          · exact absurd ⟨j1, hj1, rfl⟩ c8
      · -- ('n',)
        show Go 1311 120 0 0 5 [.ref (ad 0 0), .int a1, .int a2, .int 1, .retAddr 0] [.null] (mm M (mI M) (mJ M)) R
        refine go_blk 2 [] (pc' := 9) (vs' := [.ref (ad 0 0), .int a1, .int a2, .int 1, .null]) (st' := [.null]) (M' := mm M (mI M) (mJ M)) (ps := []) rfl trivial ?_
        refine go_ifnull0 rfl ?_
        refine go_blk 1 [] (pc' := 31) (vs' := [.ref (ad 0 0), .int a1, .int a2, .int 1, .null]) (st' := [.int 0]) (M' := mm M (mI M) (mJ M)) (ps := []) rfl trivial ?_
        refine go_zret rfl rfl (Or.inl rfl) ?_
        refine K _ _ hM.1 rfl (fun R2 h2 => ?_)
        show Go 1311 196 0 0 0 [.ref (ad 10 0), .int a1, .int a2, .int 1] [] (mm M (mI M) (mJ M)) R2
        refine go_blk 5 [] (pc' := 7) (vs' := [.ref (ad 10 0), .int a1, .int a2, .int 1]) (st' := [.int a1, .ref (ad 10 0)]) (M' := mm M (up2 (mI M) (ad 10 0) 0 0) (mJ M)) (ps := [ob (mm M (mI M) (mJ M)) (ad 10 0) 12]) rfl ⟨hM.1, trivial⟩ ?_
        refine go_callV rfl rfl rfl (by omega) rfl (by decide) (by decide) hM.1 ?_
        refine s_Mo_isCottage hM (((up2_n _ _ (fun z => absurd z.2 (by decide))).trans (rfl)).trans nc2) (Nat.le_trans nc3 (by decide)) (fun j10 hj10 hx10 => ⟨ne_i, ?_⟩) (fun c10 => ⟨ne_i, ?_⟩)
        · exact absurd ⟨j10, hj10, hx10⟩ c1
        · -- 0
          show Go 1311 196 0 0 10 [.ref (ad 10 0), .int a1, .int a2, .int 1] [.int 0] (mm M (up2 (mI M) (ad 10 0) 0 0) (mJ M)) R2
          refine go_if rfl (fun _ => ?_) (fun (z : ¬ ((0 : Int32) = 0)) => absurd (show (0 : Int32) = 0 from (by decide)) z)
          refine go_blk 1 [] (pc' := 37) (vs' := [.ref (ad 10 0), .int a1, .int a2, .int 1]) (st' := [.int 0]) (M' := mm M (up2 (mI M) (ad 10 0) 0 0) (mJ M)) (ps := []) rfl trivial ?_
          refine go_zret rfl rfl (Or.inl rfl) ?_
          exact h2 _ ⟨hsc, ad, nc, nb, nt, wk, nw, nx, nl, ne, nk, kd, true, rfl, rfl, rfl, hW.thr⟩

