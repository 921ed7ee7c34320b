/-! call: tick -/
set_option maxHeartbeats 20000000 in
set_option maxRecDepth 100000 in
theorem op20 {x o u : Nat} {sc : Nat × Nat × (Nat → Int32)} : Op20 (II x o u sc) x o := by
  intro M a1 hI R K
  obtain ⟨hsc, ad, nc, nb, nt, wk, nw, nx, nl, ne, nk, kd, op, rfl, rfl, rfl, hW⟩ := hI
  obtain ⟨hi, ⟨hF, hM, hC, hB, hT, hX⟩, ⟨iS, iC, iB, iR, iL, iT⟩, ⟨jO, jR, jB, jX, jL⟩, kO, kC, kD, kP, kX⟩ := id hW
  obtain ⟨⟨nc1, nc2, nc3⟩, ⟨nb1, nb2, nb3⟩, ⟨nt1, nt2, nt3⟩, ⟨wk1, wk2, wk3⟩, ⟨nw1, nw2, nw3⟩, ⟨op1, op2, op3⟩, ncm, ncm1, ncm2, ncm3⟩ := id iS
  simp only [vw] at nc1 nc2 nb1 nb2 nt1 nt2 wk1 wk2 nw1 nw2 op1 op2 ncm2 ncm3
  obtain ⟨nn, nn3, nn1, nn2, nnb⟩ := jX.2.1
  simp only [vw] at nn1 nn2
  have nl3 := jL.1.2.2.1
  have nx3 := jX.1.2.2
  have nk3 := jB.1.2.2.2.2.1
  have ne3 := jB.1.2.2.2.2.2
  rcases op with _ | _
  · replace op1 : mI M (ad 0 0) 8 = 0 := op1
    replace op2 : mI M (ad 10 0) 21 = 0 := op2
    show Go 1311 136 0 0 0 [.ref (ad 0 0), .int a1, .retAddr 0, .retAddr 0] [] (mm M (mI M) (mJ M)) R
    refine go_blk 2 [some (.int 0)] (pc' := 4) (vs' := [.ref (ad 0 0), .int a1, .retAddr 0, .retAddr 0]) (st' := [.int 0]) (M' := mm M (mI M) (mJ M)) (ps := [ob (mm M (mI M) (mJ M)) (ad 0 0) 11, (Value.int ((mI M) (ad 0 0) 8)) = .int 0]) rfl ⟨(hF.o 0), congrArg Value.int op1, trivial⟩ ?_
    refine go_if rfl (fun _ => ?_) (fun (z : ¬ ((0 : Int32) = 0)) => absurd (show (0 : Int32) = 0 from (by decide)) z)
    refine go_blk 1 [] (pc' := 31) (vs' := [.ref (ad 0 0), .int a1, .retAddr 0, .retAddr 0]) (st' := [.int (-1)]) (M' := mm M (mI M) (mJ M)) (ps := []) rfl trivial ?_
    refine go_iret rfl rfl ?_
    refine K _ _ hM.1 rfl (fun R2 h2 => ?_)
    show Go 1311 226 0 0 0 [.ref (ad 10 0), .int a1, .retAddr 0, .retAddr 0, .retAddr 0] [] (mm M (mI M) (mJ M)) R2
    refine go_blk 5 [some (.int 0)] (pc' := 9) (vs' := [.ref (ad 10 0), .int a1, .retAddr 0, .retAddr 0, .retAddr 0]) (st' := [.int 0]) (M' := mm M (up2 (mI M) (ad 10 0) 0 0) (mJ M)) (ps := [ob (mm M (mI M) (mJ M)) (ad 10 0) 12, ob (mm M (up2 (mI M) (ad 10 0) 0 0) (mJ M)) (ad 10 0) 12, (Value.int ((up2 (mI M) (ad 10 0) 0 0) (ad 10 0) 21)) = .int 0]) rfl ⟨hM.1, hM.1, congrArg Value.int (((up2_n _ _ (fun z => absurd z.2 (by decide))).trans (rfl)).trans op2), trivial⟩ ?_
    refine go_if rfl (fun _ => ?_) (fun (z : ¬ ((0 : Int32) = 0)) => absurd (show (0 : Int32) = 0 from (by decide)) z)
    refine go_blk 1 [] (pc' := 36) (vs' := [.ref (ad 10 0), .int a1, .retAddr 0, .retAddr 0, .retAddr 0]) (st' := [.int (-1)]) (M' := mm M (up2 (mI M) (ad 10 0) 0 0) (mJ M)) (ps := []) rfl trivial ?_
    refine go_iret rfl rfl ?_
    exact h2 _ ⟨hsc, ad, nc, nb, nt, wk, nw, nx, nl, ne, nk, kd, false, rfl, rfl, rfl, hW.thr⟩
  · replace op1 : mI M (ad 0 0) 8 = 1 := op1
    replace op2 : mI M (ad 10 0) 21 = 1 := op2
    replace op3 : wk < 52 := op3 rfl
    show Go 1311 136 0 0 0 [.ref (ad 0 0), .int a1, .retAddr 0, .retAddr 0] [] (mm M (mI M) (mJ M)) R
    refine go_blk 2 [some (.int 1)] (pc' := 4) (vs' := [.ref (ad 0 0), .int a1, .retAddr 0, .retAddr 0]) (st' := [.int 1]) (M' := mm M (mI M) (mJ M)) (ps := [ob (mm M (mI M) (mJ M)) (ad 0 0) 11, (Value.int ((mI M) (ad 0 0) 8)) = .int 1]) rfl ⟨(hF.o 0), congrArg Value.int op1, trivial⟩ ?_
    refine go_if rfl (fun (z : (1 : Int32) = 0) => absurd z (show ¬ ((1 : Int32) = 0) from (by decide))) (fun _ => ?_)
    refine go_blk 3 [] (pc' := 12) (vs' := [.ref (ad 0 0), .int a1, .retAddr 0, .retAddr 0]) (st' := [.int 500, .int 0, .int a1]) (M' := mm M (mI M) (mJ M)) (ps := []) rfl trivial ?_
    refine go_callS rfl (by decide) rfl rfl (by omega) rfl (by decide) (by decide) ?_
    refine s_CY_withinK 0 500 (by decide) (by decide) (fun j1 hl1 hj1 hx1 => ⟨ne_i, ?_⟩) (fun c1 => ⟨ne_i, ?_⟩)
    · -- 1
      subst hx1
      show Go 1311 136 0 0 15 [.ref (ad 0 0), .int (nI j1), .retAddr 0, .retAddr 0] [.int 1] (mm M (mI M) (mJ M)) R
      refine go_if rfl (fun (z : (1 : Int32) = 0) => absurd z (show ¬ ((1 : Int32) = 0) from (by decide))) (fun _ => ?_)
      refine go_blk 5 [some (.int (nI nw))] (pc' := 27) (vs' := [.ref (ad 0 0), .int (nI j1), .retAddr 0, .retAddr 0]) (st' := [.int 1440, .int ((nI nw) + (nI j1))]) (M' := mm M (mI M) (mJ M)) (ps := [ob (mm M (mI M) (mJ M)) (ad 0 0) 11, (Value.int ((mI M) (ad 0 0) 9)) = .int (nI nw)]) rfl ⟨(hF.o 0), congrArg Value.int nw1, trivial⟩ ?_
      refine go_icmp rfl (fun (c2 : ((nI nw) + (nI j1)) ≤ 1440) => ?_) (fun (c2 : ¬ (((nI nw) + (nI j1)) ≤ 1440)) => ?_)
      · -- ((nI nw) + (nI j1)) ≤ 1440
        refine go_blk 2 [] (pc' := 34) (vs' := [.ref (ad 0 0), .int (nI j1), .int 0, .retAddr 0]) (st' := []) (M' := mm M (mI M) (mJ M)) (ps := []) rfl trivial ?_
        have hle : nw + j1 ≤ 1440 := by have z := c2; rw [nI_add] at z; exact (nI_les (a := nw + j1) (b := 1440) (by omega) (by decide)).mp z
        rcases Nat.eq_zero_or_pos j1 with hq | hq
        · subst hq
          show Go 1311 136 0 0 34 [.ref (ad 0 0), .int 0, .int 0, .retAddr 0] [] (mm M (mI M) (mJ M)) R
          refine go_blk 2 [] (pc' := 36) (vs' := [.ref (ad 0 0), .int 0, .int 0, .retAddr 0]) (st' := [.int 0, .int 0]) (M' := mm M (mI M) (mJ M)) (ps := []) rfl trivial ?_
          refine go_icmp rfl (fun _ => ?_) (fun (z : ¬ (0 ≤ (0 : Int32))) => absurd (show 0 ≤ (0 : Int32) from (by decide)) z)
          refine go_blk 1 [] (pc' := 96) (vs' := [.ref (ad 0 0), .int 0, .int 0, .retAddr 0]) (st' := [.int 0]) (M' := mm M (mI M) (mJ M)) (ps := []) rfl trivial ?_
          refine go_if rfl (fun _ => ?_) (fun (z : ¬ ((0 : Int32) ≤ 0)) => absurd (show (0 : Int32) ≤ 0 from (by decide)) z)
          refine go_blk 2 [some (.int (nI nw))] (pc' := 110) (vs' := [.ref (ad 0 0), .int 0, .int 0, .retAddr 0]) (st' := [.int (nI nw)]) (M' := mm M (mI M) (mJ M)) (ps := [ob (mm M (mI M) (mJ M)) (ad 0 0) 11, (Value.int ((mI M) (ad 0 0) 9)) = .int (nI nw)]) rfl ⟨(hF.o 0), congrArg Value.int nw1, trivial⟩ ?_
          refine go_iret rfl rfl ?_
          refine K _ _ hM.1 rfl (fun R2 h2 => ?_)
          show Go 1311 226 0 0 0 [.ref (ad 10 0), .int 0, .retAddr 0, .retAddr 0, .retAddr 0] [] (mm M (mI M) (mJ M)) R2
          refine go_blk 5 [some (.int 1)] (pc' := 9) (vs' := [.ref (ad 10 0), .int 0, .retAddr 0, .retAddr 0, .retAddr 0]) (st' := [.int 1]) (M' := mm M (up2 (mI M) (ad 10 0) 0 0) (mJ M)) (ps := [ob (mm M (mI M) (mJ M)) (ad 10 0) 12, ob (mm M (up2 (mI M) (ad 10 0) 0 0) (mJ M)) (ad 10 0) 12, (Value.int ((up2 (mI M) (ad 10 0) 0 0) (ad 10 0) 21)) = .int 1]) rfl ⟨hM.1, hM.1, congrArg Value.int (((up2_n _ _ (fun z => absurd z.2 (by decide))).trans (rfl)).trans op2), trivial⟩ ?_
          refine go_if rfl (fun (z : (1 : Int32) = 0) => absurd z (show ¬ ((1 : Int32) = 0) from (by decide))) (fun _ => ?_)
          refine go_blk 3 [] (pc' := 17) (vs' := [.ref (ad 10 0), .int 0, .retAddr 0, .retAddr 0, .retAddr 0]) (st' := [.int 500, .int 0, .int 0]) (M' := mm M (up2 (mI M) (ad 10 0) 0 0) (mJ M)) (ps := []) rfl trivial ?_
          refine go_callS rfl (by decide) rfl rfl (by omega) rfl (by decide) (by decide) ?_
          refine s_Mo_isInK 0 500 (by decide) (by decide) (fun j23 hl23 hj23 hx23 => ⟨ne_i, ?_⟩) (fun c23 => ⟨ne_i, ?_⟩)
          · -- 1
            show Go 1311 226 0 0 20 [.ref (ad 10 0), .int 0, .retAddr 0, .retAddr 0, .retAddr 0] [.int 1] (mm M (up2 (mI M) (ad 10 0) 0 0) (mJ M)) R2
            refine go_if rfl (fun (z : (1 : Int32) = 0) => absurd z (show ¬ ((1 : Int32) = 0) from (by decide))) (fun _ => ?_)
            refine go_blk 5 [some (.int (nI nw))] (pc' := 32) (vs' := [.ref (ad 10 0), .int 0, .retAddr 0, .retAddr 0, .retAddr 0]) (st' := [.int 1440, .int ((nI nw) + 0)]) (M' := mm M (up2 (mI M) (ad 10 0) 0 0) (mJ M)) (ps := [ob (mm M (up2 (mI M) (ad 10 0) 0 0) (mJ M)) (ad 10 0) 12, (Value.int ((up2 (mI M) (ad 10 0) 0 0) (ad 10 0) 20)) = .int (nI nw)]) rfl ⟨hM.1, congrArg Value.int (((up2_n _ _ (fun z => absurd z.2 (by decide))).trans (rfl)).trans nw2), trivial⟩ ?_
            refine go_icmp rfl (fun _ => ?_) (fun (z : ¬ (((nI nw) + 0) ≤ 1440)) => absurd (show ((nI nw) + 0) ≤ 1440 from (by rw [Int32.add_zero]; exact (nI_les (a := nw) (b := 1440) (by omega) (by decide)).mpr nw3)) z)
            refine go_blk 4 [] (pc' := 41) (vs' := [.ref (ad 10 0), .int 0, .int 0, .retAddr 0, .retAddr 0]) (st' := [.int 0, .int 0]) (M' := mm M (up2 (mI M) (ad 10 0) 0 0) (mJ M)) (ps := []) rfl trivial ?_
            refine go_icmp rfl (fun _ => ?_) (fun (z : ¬ (0 ≤ (0 : Int32))) => absurd (show 0 ≤ (0 : Int32) from (by decide)) z)
            refine go_blk 2 [some (.int (nI nw))] (pc' := 98) (vs' := [.ref (ad 10 0), .int 0, .int 0, .retAddr 0, .retAddr 0]) (st' := [.int (nI nw)]) (M' := mm M (up2 (mI M) (ad 10 0) 0 0) (mJ M)) (ps := [ob (mm M (up2 (mI M) (ad 10 0) 0 0) (mJ M)) (ad 10 0) 12, (Value.int ((up2 (mI M) (ad 10 0) 0 0) (ad 10 0) 20)) = .int (nI nw)]) rfl ⟨hM.1, congrArg Value.int (((up2_n _ _ (fun z => absurd z.2 (by decide))).trans (rfl)).trans nw2), trivial⟩ ?_
            refine go_iret rfl rfl ?_
            exact h2 _ ⟨hsc, ad, nc, nb, nt, wk, nw, nx, nl, ne, nk, kd, true, rfl, rfl, rfl, hW.thr⟩
          · exact absurd ⟨0, by decide, by decide, rfl⟩ c23
        · obtain ⟨jb, hjb⟩ := jb_of hW
          obtain ⟨hE, hRC⟩ := EC.of hW hjb
          have hDW := DW.of hW
          obtain ⟨tk1, tk2⟩ := tkD_ok (n := nw) nc3 nt3 hDW j1 hle
          refine lp_CY_tick (n := nw) (q := j1) (by omega) hE hle hDW nt1 (fun fc u3 hfc => ?_) 0 (Nat.zero_le _) (mI M) _ (by rw [Nat.add_zero, up2_self nw1]; exact hRC)
          have fcn : ∀ x k, (∀ t, t < nt → ¬ (x = ad 3 t ∧ 4 ≤ k) ∧ ¬ x = ad 5 t) → (∀ c, c < nc → mI M (ad 9 32) (7 * wk + c) = 1 → ¬ (x = ad 6 (jb c) ∧ 7 ≤ k ∧ k ≤ 10)) → ¬ (x = ad 0 0 ∧ k = 9) → fc x k = mI M x k := fun x k z1 z2 z3 => (hfc.2.2.2 x k z1 (fun c hc z => z2 c hc (by rw [tk2.1 32 _ (by omega) (by omega) (by omega)] at z; exact z))).trans (up2_n _ _ z3)
          have fct : ∀ t i k, ¬ t = 3 → ¬ t = 5 → ¬ t = 6 → ¬ (t = 0 ∧ i = 0 ∧ k = 9) → fc (ad t i) k = mI M (ad t i) k := fun t i k z1 z2 z3 z4 => fcn _ _ (fun t' _ => ⟨fun z => z1 (hi _ _ _ _ z.1).1, fun z => z2 (hi _ _ _ _ z).1⟩) (fun c _ _ z => z3 (hi _ _ _ _ z.1).1) (fun z => z4 ⟨(hi _ _ _ _ z.1).1, (hi _ _ _ _ z.1).2, z.2⟩)
          have fc9 : fc (ad 0 0) 9 = nI (nw + j1) := (hfc.c0 hi 9).trans (up2_s _ _ _ _)
          show Go 1311 136 0 0 95 [.ref (ad 0 0), .int (nI j1), .int (nI j1), u3] [] (mm M fc (mJ M)) R
          refine go_blk 1 [] (pc' := 96) (vs' := [.ref (ad 0 0), .int (nI j1), .int (nI j1), u3]) (st' := [.int (nI j1)]) (M' := mm M fc (mJ M)) (ps := []) rfl trivial ?_
          refine go_if rfl (fun (z : (nI j1) ≤ 0) => absurd z (show ¬ ((nI j1) ≤ 0) from (Int32.not_le.mpr ((nI_lts (a := 0) (b := j1) (by omega) (by omega)).mpr hq)))) (fun _ => ?_)
          refine go_blk 2 [some (.ref (ad 0 7))] (pc' := 103) (vs' := [.ref (ad 0 0), .int (nI j1), .int (nI j1), u3]) (st' := [.ref (ad 0 7)]) (M' := mm M fc (mJ M)) (ps := [ob (mm M fc (mJ M)) (ad 0 0) 11, mR (mm M fc (mJ M)) (ad 0 0) 14 = some (ad 0 7), va_rf (some (ad 0 7)) = .ref (ad 0 7)]) rfl ⟨(hF.o 0), (hF.r 0 14 7), rfl, trivial⟩ ?_
          refine go_callV rfl rfl rfl (by omega) rfl (by decide) (by decide) (hF.o 7) ?_
          show Go (1311 - 1) 46 0 0 0 [.ref (ad 0 7)] [] (mm M fc (mJ M)) _
          refine go_blk 3 [] (pc' := 5) (vs' := [.ref (ad 0 7)]) (st' := []) (M' := mm M (up2 fc (ad 0 7) 19 0) (mJ M)) (ps := [ob (mm M fc (mJ M)) (ad 0 7) 6, 0 = 0 ∨ 0 = 1]) rfl ⟨(hF.o 7), (Or.inl rfl), trivial⟩ ?_
          refine go_vret rfl rfl ?_
          refine ⟨ne_v, ?_⟩
          show Go 1311 136 0 0 106 [.ref (ad 0 0), .int (nI j1), .int (nI j1), u3] [] (mm M (up2 fc (ad 0 7) 19 0) (mJ M)) R
          refine go_blk 2 [some (.int (nI (nw + j1)))] (pc' := 110) (vs' := [.ref (ad 0 0), .int (nI j1), .int (nI j1), u3]) (st' := [.int (nI (nw + j1))]) (M' := mm M (up2 fc (ad 0 7) 19 0) (mJ M)) (ps := [ob (mm M (up2 fc (ad 0 7) 19 0) (mJ M)) (ad 0 0) 11, (Value.int ((up2 fc (ad 0 7) 19 0) (ad 0 0) 9)) = .int (nI (nw + j1))]) rfl ⟨(hF.o 0), congrArg Value.int (((up2_n _ _ (fun z => absurd z.2 (by decide))).trans (rfl)).trans fc9), trivial⟩ ?_
          refine go_iret rfl rfl ?_
          refine K _ _ hM.1 rfl (fun R2 h2 => ?_)
          show Go 1311 226 0 0 0 [.ref (ad 10 0), .int (nI j1), .retAddr 0, .retAddr 0, .retAddr 0] [] (mm M (up2 fc (ad 0 7) 19 0) (mJ M)) R2
          refine go_blk 5 [some (.int 1)] (pc' := 9) (vs' := [.ref (ad 10 0), .int (nI j1), .retAddr 0, .retAddr 0, .retAddr 0]) (st' := [.int 1]) (M' := mm M (up2 (up2 fc (ad 0 7) 19 0) (ad 10 0) 0 0) (mJ M)) (ps := [ob (mm M (up2 fc (ad 0 7) 19 0) (mJ M)) (ad 10 0) 12, ob (mm M (up2 (up2 fc (ad 0 7) 19 0) (ad 10 0) 0 0) (mJ M)) (ad 10 0) 12, (Value.int ((up2 (up2 fc (ad 0 7) 19 0) (ad 10 0) 0 0) (ad 10 0) 21)) = .int 1]) rfl ⟨hM.1, hM.1, congrArg Value.int (((up2_n _ _ (fun z => absurd z.2 (by decide))).trans ((up2_n _ _ (fun z => absurd (hi _ _ _ _ z.1).1 (by decide))).trans (rfl))).trans ((fct 10 0 21 (by decide) (by decide) (by decide) (by omega)).trans op2)), trivial⟩ ?_
          refine go_if rfl (fun (z : (1 : Int32) = 0) => absurd z (show ¬ ((1 : Int32) = 0) from (by decide))) (fun _ => ?_)
          refine go_blk 3 [] (pc' := 17) (vs' := [.ref (ad 10 0), .int (nI j1), .retAddr 0, .retAddr 0, .retAddr 0]) (st' := [.int 500, .int 0, .int (nI j1)]) (M' := mm M (up2 (up2 fc (ad 0 7) 19 0) (ad 10 0) 0 0) (mJ M)) (ps := []) rfl trivial ?_
          refine go_callS rfl (by decide) rfl rfl (by omega) rfl (by decide) (by decide) ?_
          refine s_Mo_isInK 0 500 (by decide) (by decide) (fun j73 hl73 hj73 hx73 => ⟨ne_i, ?_⟩) (fun c73 => ⟨ne_i, ?_⟩)
          · -- 1
            show Go 1311 226 0 0 20 [.ref (ad 10 0), .int (nI j1), .retAddr 0, .retAddr 0, .retAddr 0] [.int 1] (mm M (up2 (up2 fc (ad 0 7) 19 0) (ad 10 0) 0 0) (mJ M)) R2
            refine go_if rfl (fun (z : (1 : Int32) = 0) => absurd z (show ¬ ((1 : Int32) = 0) from (by decide))) (fun _ => ?_)
            refine go_blk 5 [some (.int (nI nw))] (pc' := 32) (vs' := [.ref (ad 10 0), .int (nI j1), .retAddr 0, .retAddr 0, .retAddr 0]) (st' := [.int 1440, .int ((nI nw) + (nI j1))]) (M' := mm M (up2 (up2 fc (ad 0 7) 19 0) (ad 10 0) 0 0) (mJ M)) (ps := [ob (mm M (up2 (up2 fc (ad 0 7) 19 0) (ad 10 0) 0 0) (mJ M)) (ad 10 0) 12, (Value.int ((up2 (up2 fc (ad 0 7) 19 0) (ad 10 0) 0 0) (ad 10 0) 20)) = .int (nI nw)]) rfl ⟨hM.1, congrArg Value.int (((up2_n _ _ (fun z => absurd z.2 (by decide))).trans ((up2_n _ _ (fun z => absurd (hi _ _ _ _ z.1).1 (by decide))).trans (rfl))).trans ((fct 10 0 20 (by decide) (by decide) (by decide) (by omega)).trans nw2)), trivial⟩ ?_
            refine go_icmp rfl (fun _ => ?_) (fun (z : ¬ (((nI nw) + (nI j1)) ≤ 1440)) => absurd (show ((nI nw) + (nI j1)) ≤ 1440 from (by rw [nI_add]; exact (nI_les (a := nw + j1) (b := 1440) (by omega) (by decide)).mpr hle)) z)
            refine go_blk 2 [] (pc' := 39) (vs' := [.ref (ad 10 0), .int (nI j1), .int 0, .retAddr 0, .retAddr 0]) (st' := []) (M' := mm M (up2 (up2 fc (ad 0 7) 19 0) (ad 10 0) 0 0) (mJ M)) (ps := []) rfl trivial ?_
            obtain ⟨F, hF2⟩ : ∃ F, up2 (up2 fc (ad 0 7) 19 0) (ad 10 0) 0 0 = F := ⟨_, rfl⟩
            rw [hF2]
            have F1 : ∀ x k, ¬ (x = ad 0 7 ∧ k = 19) → ¬ (x = ad 10 0 ∧ k = 0) → F x k = fc x k := fun x k z1 z2 => by rw [← hF2, up2_n _ _ z2, up2_n _ _ z1]
            have F9 : ∀ i k, F (ad 9 i) k = mI M (ad 9 i) k := fun i k => (F1 _ _ (fun z => absurd (hi _ _ _ _ z.1).1 (by decide)) (fun z => absurd (hi _ _ _ _ z.1).1 (by decide))).trans (fct 9 i k (by decide) (by decide) (by decide) (by omega))
            have F10 : ∀ k, ¬ k = 0 → F (ad 10 0) k = mI M (ad 10 0) k := fun k z => (F1 _ _ (fun y => absurd (hi _ _ _ _ y.1).1 (by decide)) (fun y => z y.2)).trans (fct 10 0 k (by decide) (by decide) (by decide) (by omega))
            refine lp_Mo_tick (F := F) (n := nw) (q := j1) (by omega) hM hi nt3 nc3 op3 ((F10 19 (by decide)).trans wk2) (F10 31 (by decide)) ((F10 30 (by decide)).trans nt2) hle hDW (fun fm u3 u4 hfm => ?_) 0 (Nat.zero_le _) F _ _ ⟨fun i k _ _ => F9 i k, fun _ _ _ _ => rfl, (F10 20 (by decide)).trans nw2⟩
            refine go_blk 2 [some (.int (nI (nw + j1)))] (pc' := 98) (vs' := [.ref (ad 10 0), .int (nI j1), .int (nI j1), u3, u4]) (st' := [.int (nI (nw + j1))]) (M' := mm M fm (mJ M)) (ps := [ob (mm M fm (mJ M)) (ad 10 0) 12, Value.int (fm (ad 10 0) 20) = .int (nI (nw + j1))]) rfl ⟨hM.1, congrArg Value.int hfm.2.2, trivial⟩ ?_
            refine go_iret rfl rfl ?_
            have gm : ∀ t i k, ¬ (t = 9 ∧ 37 ≤ i ∧ i ≤ 51) → ¬ (t = 10 ∧ i = 0 ∧ (k = 0 ∨ k = 20)) → fm (ad t i) k = F (ad t i) k := fun t i k z1 z2 => hfm.2.1 _ _ (fun j y1 y2 y => z1 ⟨(hi _ _ _ _ y).1, by have := (hi _ _ _ _ y).2; omega, by have := (hi _ _ _ _ y).2; omega⟩) (fun y => z2 ⟨(hi _ _ _ _ y.1).1, (hi _ _ _ _ y.1).2, y.2⟩)
            have gF : ∀ t i k, ¬ (t = 0 ∧ i = 7 ∧ k = 19) → ¬ (t = 10 ∧ i = 0 ∧ k = 0) → F (ad t i) k = fc (ad t i) k := fun t i k z1 z2 => F1 _ _ (fun y => z1 ⟨(hi _ _ _ _ y.1).1, (hi _ _ _ _ y.1).2, y.2⟩) (fun y => z2 ⟨(hi _ _ _ _ y.1).1, (hi _ _ _ _ y.1).2, y.2⟩)
            have gc : ∀ t i k, ¬ t = 9 → ¬ t = 10 → ¬ (t = 0 ∧ i = 7 ∧ k = 19) → fm (ad t i) k = fc (ad t i) k := fun t i k z1 z2 z3 => (gm t i k (fun y => z1 y.1) (fun y => z2 y.1)).trans (gF t i k z3 (fun y => z2 y.1))
            have hrm : RC ad jb nt nc wk (fun x k => fm x k) fm (tkD (mI M (ad 10 0) 31) wk nt nw j1 (fun i k => mI M (ad 9 i) k)) := by
              obtain ⟨r1, r2, r3, r4⟩ := hfc
              refine ⟨fun t ht => ?_, fun t i n ht z1 z2 z3 => ?_, fun c hc z => ?_, fun _ _ _ _ => rfl⟩
              · rw [gc 3 t 0 (by decide) (by decide) (by omega), gc 3 t 1 (by decide) (by decide) (by omega), gc 3 t 4 (by decide) (by decide) (by omega), gc 3 t 5 (by decide) (by decide) (by omega), gc 3 t 6 (by decide) (by decide) (by omega), gc 3 t 7 (by decide) (by decide) (by omega), gc 3 t 8 (by decide) (by decide) (by omega), gc 3 t 9 (by decide) (by decide) (by omega), gc 3 t 10 (by decide) (by decide) (by omega)]; exact r1 t ht
              · rw [gc 5 t i (by decide) (by decide) (by omega)]; exact r2 t i n ht z1 z2 z3
              · rw [gc 6 _ 1 (by decide) (by decide) (by omega), gc 6 _ 3 (by decide) (by decide) (by omega), gc 6 _ 4 (by decide) (by decide) (by omega), gc 6 _ 5 (by decide) (by decide) (by omega), gc 6 _ 6 (by decide) (by decide) (by omega), gc 6 _ 7 (by decide) (by decide) (by omega), gc 6 _ 8 (by decide) (by decide) (by omega), gc 6 _ 9 (by decide) (by decide) (by omega), gc 6 _ 10 (by decide) (by decide) (by omega)]; exact r3 c hc z
            have h719 : fm (ad 0 7) 19 = 0 := by rw [gm 0 7 19 (by omega) (by omega), ← hF2, up2_n _ _ (fun z => absurd (hi _ _ _ _ z.1).1 (by decide)), up2_s]
            have hWt := WI.tick (nw' := nw + j1) (f := fm) (jb := jb) hW hle hjb tk1 tk2 hfm.1 hrm ⟨(gc 0 0 9 (by decide) (by decide) (by omega)).trans fc9, hfm.2.2, h719⟩ (fun t i k hq hn => ?_)
            · exact h2 _ ⟨hsc, ad, nc, nb, nt, wk, nw + j1, nx, nl, ne, nk, kd, true, rfl, rfl, rfl, hWt⟩
            show fm (ad t i) k = mI M (ad t i) k
            have hn10 : ¬ (t = 10 ∧ k = 0) := by
              clear hn
              simp only [irr, Bool.or_eq_false_iff, Bool.and_eq_false_iff, beq_eq_false_iff_ne, decide_eq_false_iff_not, ne_eq] at hq
              omega
            rw [gm t i k (fun z => hn (Or.inr (Or.inr (Or.inr (Or.inl z))))) (fun z => by rcases z.2.2 with y | y; exact hn10 ⟨z.1, y⟩; exact hn (Or.inr (Or.inl ⟨z.1, y⟩))), gF t i k (fun z => hn (Or.inr (Or.inr (Or.inl z)))) (fun z => hn10 ⟨z.1, z.2.2⟩)]
            exact fcn _ _ (fun t' ht' => ⟨fun z => hn (Or.inr (Or.inr (Or.inr (Or.inr (Or.inl ⟨(hi _ _ _ _ z.1).1, by rw [(hi _ _ _ _ z.1).2]; exact ht', z.2⟩))))), fun z => hn (Or.inr (Or.inr (Or.inr (Or.inr (Or.inr (Or.inl ⟨(hi _ _ _ _ z).1, by rw [(hi _ _ _ _ z).2]; exact ht'⟩))))))⟩) (fun c hc h32 z => hn (Or.inr (Or.inr (Or.inr (Or.inr (Or.inr (Or.inr ⟨(hi _ _ _ _ z.1).1, ⟨c, hc, h32, (hi _ _ _ _ z.1).2⟩, z.2⟩))))))) (fun z => hn (Or.inl ⟨(hi _ _ _ _ z.1).1, (hi _ _ _ _ z.1).2, z.2⟩))
          · exact absurd ⟨j1, hl1, hj1, rfl⟩ c73
      · -- ¬ (((nI nw) + (nI j1)) ≤ 1440)
        refine go_blk 1 [] (pc' := 31) (vs' := [.ref (ad 0 0), .int (nI j1), .retAddr 0, .retAddr 0]) (st' := [.int (-1)]) (M' := mm M (mI M) (mJ M)) (ps := []) rfl trivial ?_
        refine go_iret rfl rfl ?_
        refine K _ _ hM.1 rfl (fun R2 h2 => ?_)
        show Go 1311 226 0 0 0 [.ref (ad 10 0), .int (nI j1), .retAddr 0, .retAddr 0, .retAddr 0] [] (mm M (mI M) (mJ M)) R2
        refine go_blk 5 [some (.int 1)] (pc' := 9) (vs' := [.ref (ad 10 0), .int (nI j1), .retAddr 0, .retAddr 0, .retAddr 0]) (st' := [.int 1]) (M' := mm M (up2 (mI M) (ad 10 0) 0 0) (mJ M)) (ps := [ob (mm M (mI M) (mJ M)) (ad 10 0) 12, ob (mm M (up2 (mI M) (ad 10 0) 0 0) (mJ M)) (ad 10 0) 12, (Value.int ((up2 (mI M) (ad 10 0) 0 0) (ad 10 0) 21)) = .int 1]) rfl ⟨hM.1, hM.1, congrArg Value.int (((up2_n _ _ (fun z => absurd z.2 (by decide))).trans (rfl)).trans op2), trivial⟩ ?_
        refine go_if rfl (fun (z : (1 : Int32) = 0) => absurd z (show ¬ ((1 : Int32) = 0) from (by decide))) (fun _ => ?_)
        refine go_blk 3 [] (pc' := 17) (vs' := [.ref (ad 10 0), .int (nI j1), .retAddr 0, .retAddr 0, .retAddr 0]) (st' := [.int 500, .int 0, .int (nI j1)]) (M' := mm M (up2 (mI M) (ad 10 0) 0 0) (mJ M)) (ps := []) rfl trivial ?_
        refine go_callS rfl (by decide) rfl rfl (by omega) rfl (by decide) (by decide) ?_
        refine s_Mo_isInK 0 500 (by decide) (by decide) (fun j3 hl3 hj3 hx3 => ⟨ne_i, ?_⟩) (fun c3 => ⟨ne_i, ?_⟩)
        · -- 1
          show Go 1311 226 0 0 20 [.ref (ad 10 0), .int (nI j1), .retAddr 0, .retAddr 0, .retAddr 0] [.int 1] (mm M (up2 (mI M) (ad 10 0) 0 0) (mJ M)) R2
          refine go_if rfl (fun (z : (1 : Int32) = 0) => absurd z (show ¬ ((1 : Int32) = 0) from (by decide))) (fun _ => ?_)
          refine go_blk 5 [some (.int (nI nw))] (pc' := 32) (vs' := [.ref (ad 10 0), .int (nI j1), .retAddr 0, .retAddr 0, .retAddr 0]) (st' := [.int 1440, .int ((nI nw) + (nI j1))]) (M' := mm M (up2 (mI M) (ad 10 0) 0 0) (mJ M)) (ps := [ob (mm M (up2 (mI M) (ad 10 0) 0 0) (mJ M)) (ad 10 0) 12, (Value.int ((up2 (mI M) (ad 10 0) 0 0) (ad 10 0) 20)) = .int (nI nw)]) rfl ⟨hM.1, congrArg Value.int (((up2_n _ _ (fun z => absurd z.2 (by decide))).trans (rfl)).trans nw2), trivial⟩ ?_
          refine go_icmp rfl (fun (z : ((nI nw) + (nI j1)) ≤ 1440) => absurd z (show ¬ (((nI nw) + (nI j1)) ≤ 1440) from c2)) (fun _ => ?_)
          refine go_blk 1 [] (pc' := 36) (vs' := [.ref (ad 10 0), .int (nI j1), .retAddr 0, .retAddr 0, .retAddr 0]) (st' := [.int (-1)]) (M' := mm M (up2 (mI M) (ad 10 0) 0 0) (mJ M)) (ps := []) rfl trivial ?_
          refine go_iret rfl rfl ?_
          exact h2 _ ⟨hsc, ad, nc, nb, nt, wk, nw, nx, nl, ne, nk, kd, true, rfl, rfl, rfl, hW.thr⟩
        · exact absurd ⟨j1, hl1, hj1, rfl⟩ c3
    · -- 0
      show Go 1311 136 0 0 15 [.ref (ad 0 0), .int a1, .retAddr 0, .retAddr 0] [.int 0] (mm M (mI M) (mJ M)) R
      refine go_if rfl (fun _ => ?_) (fun (z : ¬ ((0 : Int32) = 0)) => absurd (show (0 : Int32) = 0 from (by decide)) z)
      refine go_blk 1 [] (pc' := 31) (vs' := [.ref (ad 0 0), .int a1, .retAddr 0, .retAddr 0]) (st' := [.int (-1)]) (M' := mm M (mI M) (mJ M)) (ps := []) rfl trivial ?_
      refine go_iret rfl rfl ?_
      refine K _ _ hM.1 rfl (fun R2 h2 => ?_)
      show Go 1311 226 0 0 0 [.ref (ad 10 0), .int a1, .retAddr 0, .retAddr 0, .retAddr 0] [] (mm M (mI M) (mJ M)) R2
      refine go_blk 5 [some (.int 1)] (pc' := 9) (vs' := [.ref (ad 10 0), .int a1, .retAddr 0, .retAddr 0, .retAddr 0]) (st' := [.int 1]) (M' := mm M (up2 (mI M) (ad 10 0) 0 0) (mJ M)) (ps := [ob (mm M (mI M) (mJ M)) (ad 10 0) 12, ob (mm M (up2 (mI M) (ad 10 0) 0 0) (mJ M)) (ad 10 0) 12, (Value.int ((up2 (mI M) (ad 10 0) 0 0) (ad 10 0) 21)) = .int 1]) rfl ⟨hM.1, hM.1, congrArg Value.int (((up2_n _ _ (fun z => absurd z.2 (by decide))).trans (rfl)).trans op2), trivial⟩ ?_
      refine go_if rfl (fun (z : (1 : Int32) = 0) => absurd z (show ¬ ((1 : Int32) = 0) from (by decide))) (fun _ => ?_)
      refine go_blk 3 [] (pc' := 17) (vs' := [.ref (ad 10 0), .int a1, .retAddr 0, .retAddr 0, .retAddr 0]) (st' := [.int 500, .int 0, .int a1]) (M' := mm M (up2 (mI M) (ad 10 0) 0 0) (mJ M)) (ps := []) rfl trivial ?_
      refine go_callS rfl (by decide) rfl rfl (by omega) rfl (by decide) (by decide) ?_
      refine s_Mo_isInK 0 500 (by decide) (by decide) (fun j4 hl4 hj4 hx4 => ⟨ne_i, ?_⟩) (fun c4 => ⟨ne_i, ?_⟩)
      · exact absurd ⟨j4, hl4, hj4, hx4⟩ c1
      · -- 0
        show Go 1311 226 0 0 20 [.ref (ad 10 0), .int a1, .retAddr 0, .retAddr 0, .retAddr 0] [.int 0] (mm M (up2 (mI M) (ad 10 0) 0 0) (mJ M)) R2
        refine go_if rfl (fun _ => ?_) (fun (z : ¬ ((0 : Int32) = 0)) => absurd (show (0 : Int32) = 0 from (by decide)) z)
        refine go_blk 1 [] (pc' := 36) (vs' := [.ref (ad 10 0), .int a1, .retAddr 0, .retAddr 0, .retAddr 0]) (st' := [.int (-1)]) (M' := mm M (up2 (mI M) (ad 10 0) 0 0) (mJ M)) (ps := []) rfl trivial ?_
        refine go_iret rfl rfl ?_
        exact h2 _ ⟨hsc, ad, nc, nb, nt, wk, nw, nx, nl, ne, nk, kd, true, rfl, rfl, rfl, hW.thr⟩

