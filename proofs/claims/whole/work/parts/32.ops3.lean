/-! calls of the law: third part -/
set_option maxRecDepth 100000 in
theorem op38 {x o u : Nat} {sc : Nat × Nat × (Nat → Int32)} : Op38 (II x o u sc) x o := by
  intro M a1 a2 hI R K
  obtain ⟨hsc, ad, nc, nb, nt, wk, nw, nx, nl, ne, nk, kd, op, rfl, rfl, rfl, hW⟩ := hI
  obtain ⟨hi, ⟨hF, hM, hC, hB, hT, hX⟩, ⟨iS, iC, iB, iR, iL, iT⟩, ⟨jO, jR, jB, jX, jL⟩, kO, kC, kD, kP, kX⟩ := id hW
  obtain ⟨⟨nc1, nc2, nc3⟩, ⟨nb1, nb2, nb3⟩, ⟨nt1, nt2, nt3⟩, ⟨wk1, wk2, wk3⟩, ⟨nw1, nw2, nw3⟩, ⟨op1, op2, op3⟩, ncm, ncm1, ncm2, ncm3⟩ := id iS
  simp only [vw] at nc1 nc2 nb1 nb2 nt1 nt2 wk1 wk2 nw1 nw2 op1 op2 ncm2 ncm3
  show Go 1311 154 0 0 0 [.ref (ad 0 0), .int a1, .int a2, .retAddr 0] [] (mm M (mI M) (mJ M)) R
  refine go_blk 2 [] (pc' := 2) (vs' := [.ref (ad 0 0), .int a1, .int a2, .retAddr 0]) (st' := [.int a1, .ref (ad 0 0)]) (M' := mm M (mI M) (mJ M)) (ps := []) rfl trivial ?_
  refine go_callV rfl rfl rfl (by omega) rfl (by decide) (by decide) (hF.o 0) ?_
  refine s_CY_teamAt (by omega) hF hT nt1 nt3 (fun j1 hj1 hx1 => ⟨ne_a, ?_⟩) (fun c1 => ⟨ne_0, ?_⟩)
  · -- ('r', 'ad 3 j1')
    subst hx1
    show Go 1311 154 0 0 5 [.ref (ad 0 0), .int (nI j1), .int a2, .retAddr 0] [.ref (ad 3 j1)] (mm M (mI M) (mJ M)) R
    refine go_blk 2 [] (pc' := 7) (vs' := [.ref (ad 0 0), .int (nI j1), .int a2, .ref (ad 3 j1)]) (st' := [.ref (ad 3 j1)]) (M' := mm M (mI M) (mJ M)) (ps := []) rfl trivial ?_
    refine go_ifnull1 rfl ?_
    refine go_blk 3 [] (pc' := 13) (vs' := [.ref (ad 0 0), .int (nI j1), .int a2, .ref (ad 3 j1)]) (st' := [.int 3, .int 0, .int a2]) (M' := mm M (mI M) (mJ M)) (ps := []) rfl trivial ?_
    refine go_callS rfl (by decide) rfl rfl (by omega) rfl (by decide) (by decide) ?_
    refine s_CY_withinK 0 3 (by decide) (by decide) (fun j2 hl2 hj2 hx2 => ⟨ne_i, ?_⟩) (fun c2 => ⟨ne_i, ?_⟩)
    · -- 1
      subst hx2
      show Go 1311 154 0 0 16 [.ref (ad 0 0), .int (nI j1), .int (nI j2), .ref (ad 3 j1)] [.int 1] (mm M (mI M) (mJ M)) R
      refine go_if rfl (fun _ => ?_) (fun (z : ¬ (¬ (1 : Int32) = 0)) => absurd (show ¬ (1 : Int32) = 0 from (by decide)) z)
      refine go_blk 4 [some (.ref (ad 4 j1)), some (.int ((mI M) (ad 4 j1) j2))] (pc' := 29) (vs' := [.ref (ad 0 0), .int (nI j1), .int (nI j2), .ref (ad 3 j1)]) (st' := [.int ((mI M) (ad 4 j1) j2)]) (M' := mm M (mI M) (mJ M)) (ps := [ob (mm M (mI M) (mJ M)) (ad 3 j1) 8, mR (mm M (mI M) (mJ M)) (ad 3 j1) 2 = some (ad 4 j1), va_rf (some (ad 4 j1)) = .ref (ad 4 j1), ob (mm M (mI M) (mJ M)) (ad 4 j1) 15, vp_in (nI j2) (mN (mm M (mI M) (mJ M)) (ad 4 j1)), (Value.int ((mI M) (ad 4 j1) ((nI j2).toNatClampNeg))) = .int ((mI M) (ad 4 j1) j2)]) rfl ⟨(hT j1 (by assumption)).2.1, (hT j1 (by assumption)).2.2.1.1, rfl, (hT j1 (by assumption)).2.2.1.2.1, (vpi (hT j1 (by assumption)).2.2.1.2.2 (by omega)), congrArg (fun z => Value.int ((mI M) (ad 4 j1) z)) (nI_clamp (by omega)), trivial⟩ ?_
      refine go_iret rfl rfl ?_
      refine K _ _ hM.1 rfl (fun R2 h2 => ?_)
      show Go 1311 269 0 0 0 [.ref (ad 10 0), .int (nI j1), .int (nI j2)] [] (mm M (mI M) (mJ M)) R2
      refine go_blk 5 [] (pc' := 7) (vs' := [.ref (ad 10 0), .int (nI j1), .int (nI j2)]) (st' := [.int (nI j1), .ref (ad 10 0)]) (M' := mm M (up2 (mI M) (ad 10 0) 0 0) (mJ M)) (ps := [ob (mm M (mI M) (mJ M)) (ad 10 0) 12]) rfl ⟨hM.1, trivial⟩ ?_
      refine go_callV rfl rfl rfl (by omega) rfl (by decide) (by decide) hM.1 ?_
      refine s_Mo_isTeam hM (((up2_n _ _ (fun z => absurd z.2 (by decide))).trans (rfl)).trans nt2) (Nat.le_trans nt3 (by decide)) (fun j3 hj3 hx3 => ⟨ne_i, ?_⟩) (fun c3 => ⟨ne_i, ?_⟩)
      · -- 1
        show Go 1311 269 0 0 10 [.ref (ad 10 0), .int (nI j1), .int (nI j2)] [.int 1] (mm M (up2 (mI M) (ad 10 0) 0 0) (mJ M)) R2
        refine go_if rfl (fun (z : (1 : Int32) = 0) => absurd z (show ¬ ((1 : Int32) = 0) from (by decide))) (fun _ => ?_)
        refine go_blk 3 [] (pc' := 16) (vs' := [.ref (ad 10 0), .int (nI j1), .int (nI j2)]) (st' := [.int 3, .int 0, .int (nI j2)]) (M' := mm M (up2 (mI M) (ad 10 0) 0 0) (mJ M)) (ps := []) rfl trivial ?_
        refine go_callS rfl (by decide) rfl rfl (by omega) rfl (by decide) (by decide) ?_
        refine s_Mo_isInK 0 3 (by decide) (by decide) (fun j4 hl4 hj4 hx4 => ⟨ne_i, ?_⟩) (fun c4 => ⟨ne_i, ?_⟩)
        · -- 1
          show Go 1311 269 0 0 19 [.ref (ad 10 0), .int (nI j1), .int (nI j2)] [.int 1] (mm M (up2 (mI M) (ad 10 0) 0 0) (mJ M)) R2
          refine go_if rfl (fun (z : (1 : Int32) = 0) => absurd z (show ¬ ((1 : Int32) = 0) from (by decide))) (fun _ => ?_)
          refine go_blk 9 [some (.ref (ad 9 97)), some (.int ((mI M) (ad 9 97) (4 * j1 + j2)))] (pc' := 36) (vs' := [.ref (ad 10 0), .int (nI j1), .int (nI j2)]) (st' := [.int ((mI M) (ad 9 97) (4 * j1 + j2))]) (M' := mm M (up2 (mI M) (ad 10 0) 0 0) (mJ M)) (ps := [ob (mm M (up2 (mI M) (ad 10 0) 0 0) (mJ M)) (ad 10 0) 12, mR (mm M (up2 (mI M) (ad 10 0) 0 0) (mJ M)) (ad 10 0) 97 = some (ad 9 97), va_rf (some (ad 9 97)) = .ref (ad 9 97), ob (mm M (up2 (mI M) (ad 10 0) 0 0) (mJ M)) (ad 9 97) 15, vp_in ((4 * (nI j1)) + (nI j2)) (mN (mm M (up2 (mI M) (ad 10 0) 0 0) (mJ M)) (ad 9 97)), (Value.int ((up2 (mI M) (ad 10 0) 0 0) (ad 9 97) (((4 * (nI j1)) + (nI j2)).toNatClampNeg))) = .int ((mI M) (ad 9 97) (4 * j1 + j2))]) rfl ⟨hM.1, (hM.r 97 15 12), rfl, (hM.o 97 15 12), (vp_eq (eq_add (eq_mul (show (4 : Int32) = nI 4 from rfl) rfl) rfl) (vpi (hM.n 97 15 12) (by omega))), congrArg Value.int ((congrArg (fun z => (up2 (mI M) (ad 10 0) 0 0) (ad 9 97) z) (cl_of (eq_add (eq_mul (show (4 : Int32) = nI 4 from rfl) rfl) rfl) (by omega))).trans ((up2_n _ _ (fun z => absurd (hi _ _ _ _ z.1).1 (by decide))).trans (rfl))), trivial⟩ ?_
          refine go_iret rfl rfl ?_
          have e9 : ((mI M) (ad 9 97) (4 * j1 + j2)) = (mI M) (ad 4 j1) j2 := (by have q0 := ((iT.1 j1 (by assumption)).2.2.1 j2 (by omega)); simp only [vw] at q0; simp [q0])
          rw [e9]
          exact h2 _ ⟨hsc, ad, nc, nb, nt, wk, nw, nx, nl, ne, nk, kd, op, rfl, rfl, rfl, hW.thr⟩
        · exact absurd ⟨j2, hl2, hj2, rfl⟩ c4
      · exact absurd ⟨j1, hj1, rfl⟩ c3
    · -- 0
      show Go 1311 154 0 0 16 [.ref (ad 0 0), .int (nI j1), .int a2, .ref (ad 3 j1)] [.int 0] (mm M (mI M) (mJ M)) R
      refine go_if rfl (fun (z : ¬ (0 : Int32) = 0) => absurd z (show ¬ (¬ (0 : Int32) = 0) from (by decide))) (fun _ => ?_)
      refine go_blk 2 [] (pc' := 29) (vs' := [.ref (ad 0 0), .int (nI j1), .int a2, .ref (ad 3 j1)]) (st' := [.int (-1)]) (M' := mm M (mI M) (mJ M)) (ps := []) rfl trivial ?_
      refine go_iret rfl rfl ?_
      refine K _ _ hM.1 rfl (fun R2 h2 => ?_)
      show Go 1311 269 0 0 0 [.ref (ad 10 0), .int (nI j1), .int a2] [] (mm M (mI M) (mJ M)) R2
      refine go_blk 5 [] (pc' := 7) (vs' := [.ref (ad 10 0), .int (nI j1), .int a2]) (st' := [.int (nI j1), .ref (ad 10 0)]) (M' := mm M (up2 (mI M) (ad 10 0) 0 0) (mJ M)) (ps := [ob (mm M (mI M) (mJ M)) (ad 10 0) 12]) rfl ⟨hM.1, trivial⟩ ?_
      refine go_callV rfl rfl rfl (by omega) rfl (by decide) (by decide) hM.1 ?_
      refine s_Mo_isTeam hM (((up2_n _ _ (fun z => absurd z.2 (by decide))).trans (rfl)).trans nt2) (Nat.le_trans nt3 (by decide)) (fun j5 hj5 hx5 => ⟨ne_i, ?_⟩) (fun c5 => ⟨ne_i, ?_⟩)
      · -- 1
        show Go 1311 269 0 0 10 [.ref (ad 10 0), .int (nI j1), .int a2] [.int 1] (mm M (up2 (mI M) (ad 10 0) 0 0) (mJ M)) R2
        refine go_if rfl (fun (z : (1 : Int32) = 0) => absurd z (show ¬ ((1 : Int32) = 0) from (by decide))) (fun _ => ?_)
        refine go_blk 3 [] (pc' := 16) (vs' := [.ref (ad 10 0), .int (nI j1), .int a2]) (st' := [.int 3, .int 0, .int a2]) (M' := mm M (up2 (mI M) (ad 10 0) 0 0) (mJ M)) (ps := []) rfl trivial ?_
        refine go_callS rfl (by decide) rfl rfl (by omega) rfl (by decide) (by decide) ?_
        refine s_Mo_isInK 0 3 (by decide) (by decide) (fun j6 hl6 hj6 hx6 => ⟨ne_i, ?_⟩) (fun c6 => ⟨ne_i, ?_⟩)
        · exact absurd ⟨j6, hl6, hj6, hx6⟩ c2
        · -- 0
          show Go 1311 269 0 0 19 [.ref (ad 10 0), .int (nI j1), .int a2] [.int 0] (mm M (up2 (mI M) (ad 10 0) 0 0) (mJ M)) R2
          refine go_if rfl (fun _ => ?_) (fun (z : ¬ ((0 : Int32) = 0)) => absurd (show (0 : Int32) = 0 from (by decide)) z)
          refine go_blk 1 [] (pc' := 36) (vs' := [.ref (ad 10 0), .int (nI j1), .int a2]) (st' := [.int (-1)]) (M' := mm M (up2 (mI M) (ad 10 0) 0 0) (mJ M)) (ps := []) rfl trivial ?_
          refine go_iret rfl rfl ?_
          exact h2 _ ⟨hsc, ad, nc, nb, nt, wk, nw, nx, nl, ne, nk, kd, op, rfl, rfl, rfl, hW.thr⟩
      · exact absurd ⟨j1, hj1, rfl⟩ c5
  · -- ('n',)
    show Go 1311 154 0 0 5 [.ref (ad 0 0), .int a1, .int a2, .retAddr 0] [.null] (mm M (mI M) (mJ M)) R
    refine go_blk 2 [] (pc' := 7) (vs' := [.ref (ad 0 0), .int a1, .int a2, .null]) (st' := [.null]) (M' := mm M (mI M) (mJ M)) (ps := []) rfl trivial ?_
    refine go_ifnull0 rfl ?_
    refine go_blk 2 [] (pc' := 29) (vs' := [.ref (ad 0 0), .int a1, .int a2, .null]) (st' := [.int (-1)]) (M' := mm M (mI M) (mJ M)) (ps := []) rfl trivial ?_
    refine go_iret rfl rfl ?_
    refine K _ _ hM.1 rfl (fun R2 h2 => ?_)
    show Go 1311 269 0 0 0 [.ref (ad 10 0), .int a1, .int a2] [] (mm M (mI M) (mJ M)) R2
    refine go_blk 5 [] (pc' := 7) (vs' := [.ref (ad 10 0), .int a1, .int a2]) (st' := [.int a1, .ref (ad 10 0)]) (M' := mm M (up2 (mI M) (ad 10 0) 0 0) (mJ M)) (ps := [ob (mm M (mI M) (mJ M)) (ad 10 0) 12]) rfl ⟨hM.1, trivial⟩ ?_
    refine go_callV rfl rfl rfl (by omega) rfl (by decide) (by decide) hM.1 ?_
    refine s_Mo_isTeam hM (((up2_n _ _ (fun z => absurd z.2 (by decide))).trans (rfl)).trans nt2) (Nat.le_trans nt3 (by decide)) (fun j7 hj7 hx7 => ⟨ne_i, ?_⟩) (fun c7 => ⟨ne_i, ?_⟩)
    · exact absurd ⟨j7, hj7, hx7⟩ c1
    · -- 0
      show Go 1311 269 0 0 10 [.ref (ad 10 0), .int a1, .int a2] [.int 0] (mm M (up2 (mI M) (ad 10 0) 0 0) (mJ M)) R2
      refine go_if rfl (fun _ => ?_) (fun (z : ¬ ((0 : Int32) = 0)) => absurd (show (0 : Int32) = 0 from (by decide)) z)
      refine go_blk 1 [] (pc' := 36) (vs' := [.ref (ad 10 0), .int a1, .int a2]) (st' := [.int (-1)]) (M' := mm M (up2 (mI M) (ad 10 0) 0 0) (mJ M)) (ps := []) rfl trivial ?_
      refine go_iret rfl rfl ?_
      exact h2 _ ⟨hsc, ad, nc, nb, nt, wk, nw, nx, nl, ne, nk, kd, op, rfl, rfl, rfl, hW.thr⟩

