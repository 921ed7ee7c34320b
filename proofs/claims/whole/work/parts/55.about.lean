/-! call: about -/
theorem go_thr {d k bc bs pc : Nat} {vs : List Value} {M : Mem} {R : Option Value → Mem → Prop} {p0 len b t ix : Nat} {x0 : Int32} {w0 : Int64} {ts : List (Int32 × Nat)} (hf : fet k pc = some (p0, .new ix, len, 98, b, t, x0, w0, ts)) (h : R (some (.retAddr 7)) M) : Go d k bc bs pc vs [] M R := by
  refine go_fold ?_
  unfold runF
  rw [hf]
  exact ⟨rfl, h⟩
theorem WI.thr2 {M : Mem} {ad : Nat → Nat → Nat} {nc nb nt wk nw nx nl ne nk kd : Nat} {op : Bool} {v : Int32} {w : Int64} (h : WI M ad nc nb nt wk nw nx nl ne nk kd op) : WI (mm M (up2 (mI M) (ad 10 0) 0 v) (up2 (mJ M) (ad 0 40) 0 w)) ad nc nb nt wk nw nx nl ne nk kd op :=
  h.keep (fun t i k hq => by simp only [vw_up2 h.1]; rw [up3_n _ _ (by rintro ⟨rfl, rfl, rfl⟩; cases hq)]) (fun t i k hq => by simp only [vw_up2 h.1]; rw [up3_n _ _ (by rintro ⟨rfl, rfl, rfl⟩; omega)])

set_option maxHeartbeats 20000000 in
set_option maxRecDepth 100000 in
theorem op21 {x o u : Nat} {sc : Nat × Nat × (Nat → Int32)} : Op21 (II x o u sc) x o u := by
  intro M a1 a2 hI R K1 K2
  obtain ⟨hsc, ad, nc, nb, nt, wk, nw, nx, nl, ne, nk, kd, op, rfl, rfl, rfl, hW⟩ := hI
  obtain ⟨hi, ⟨hF, hM, hC, hB, hT, hX⟩, ⟨iS, iC, iB, iR, iL, iT⟩, ⟨jO, jR, jB, jX, jL⟩, kO, kC, kD, kP, kX⟩ := id hW
  obtain ⟨⟨nc1, nc2, nc3⟩, ⟨nb1, nb2, nb3⟩, ⟨nt1, nt2, nt3⟩, ⟨wk1, wk2, wk3⟩, ⟨nw1, nw2, nw3⟩, ⟨op1, op2, op3⟩, ncm, ncm1, ncm2, ncm3⟩ := id iS
  simp only [vw] at nc1 nc2 nb1 nb2 nt1 nt2 wk1 wk2 nw1 nw2 op1 op2 ncm2 ncm3
  obtain ⟨nn, nn3, nn1, nn2, nnb⟩ := jX.2.1
  simp only [vw] at nn1 nn2
  have nl3 := jL.1.2.2.1
  have nx3 := jX.1.2.2
  have nk3 := jB.1.2.2.2.2.1
  have ne3 := jB.1.2.2.2.2.2
  rcases op with _ | _
  · replace op1 : mI M (ad 0 0) 8 = 0 := op1
    replace op2 : mI M (ad 10 0) 21 = 0 := op2
    show Go 1302 137 0 0 0 [.ref (ad 0 0), .int a1, .int a2, .retAddr 0] [] (mm M (mI M) (mJ M)) R
    refine go_blk 2 [] (pc' := 2) (vs' := [.ref (ad 0 0), .int a1, .int a2, .retAddr 0]) (st' := [.int a1, .ref (ad 0 0)]) (M' := mm M (mI M) (mJ M)) (ps := []) rfl trivial ?_
    refine go_callV rfl rfl rfl (by omega) rfl (by decide) (by decide) (hF.o 0) ?_
    refine s_CY_teamAt (by omega) hF hT nt1 nt3 (fun j1 hj1 hx1 => ⟨ne_a, ?_⟩) (fun c1 => ⟨ne_0, ?_⟩)
    · -- ('r', 'ad 3 j1')
      subst hx1
      obtain ⟨rn1, ra1, re1, rr1⟩ := (iT.1 j1 (by assumption)).2.2.2
      show Go 1302 137 0 0 5 [.ref (ad 0 0), .int (nI j1), .int a2, .retAddr 0] [.ref (ad 3 j1)] (mm M (mI M) (mJ M)) R
      refine go_blk 3 [some (.int 0)] (pc' := 10) (vs' := [.ref (ad 0 0), .int (nI j1), .int a2, .ref (ad 3 j1)]) (st' := [.int 0]) (M' := mm M (mI M) (mJ M)) (ps := [ob (mm M (mI M) (mJ M)) (ad 0 0) 11, (Value.int ((mI M) (ad 0 0) 8)) = .int 0]) rfl ⟨(hF.o 0), congrArg Value.int op1, trivial⟩ ?_
      refine go_if rfl (fun _ => ?_) (fun (z : ¬ ((0 : Int32) = 0)) => absurd (show (0 : Int32) = 0 from (by decide)) z)
      refine go_thr rfl ?_
      refine K2 _ hM.1 rfl (fun R2 h2 => ?_)
      show Go 1311 227 0 0 0 [.ref (ad 10 0), .int (nI j1), .int a2] [] (mm M (mI M) (mJ M)) R2
      refine go_blk 3 [some (.int 0)] (pc' := 5) (vs' := [.ref (ad 10 0), .int (nI j1), .int a2]) (st' := [.int 0, .ref (ad 10 0)]) (M' := mm M (mI M) (mJ M)) (ps := [ob (mm M (mI M) (mJ M)) (ad 10 0) 12, (Value.int ((mI M) (ad 10 0) 21)) = .int 0]) rfl ⟨hM.1, congrArg Value.int op2, trivial⟩ ?_
      refine go_if rfl (fun _ => ?_) (fun (z : ¬ ((0 : Int32) = 0)) => absurd (show (0 : Int32) = 0 from (by decide)) z)
      refine go_blk 4 [some (.int 1)] (pc' := 37) (vs' := [.ref (ad 10 0), .int (nI j1), .int a2]) (st' := [.int 1]) (M' := mm M (up2 (mI M) (ad 10 0) 0 1) (mJ M)) (ps := [ob (mm M (mI M) (mJ M)) (ad 10 0) 12, ob (mm M (up2 (mI M) (ad 10 0) 0 1) (mJ M)) (ad 10 0) 12, (Value.int ((up2 (mI M) (ad 10 0) 0 1) (ad 10 0) 0)) = .int 1]) rfl ⟨hM.1, hM.1, congrArg Value.int (up2_s _ _ _ _), trivial⟩ ?_
      refine go_if rfl (fun (z : (1 : Int32) ≤ 0) => absurd z (show ¬ ((1 : Int32) ≤ 0) from (by decide))) (fun _ => ?_)
      refine go_blk 1 [] (pc' := 41) (vs' := [.ref (ad 10 0), .int (nI j1), .int a2]) (st' := [.int 0]) (M' := mm M (up2 (mI M) (ad 10 0) 0 1) (mJ M)) (ps := []) rfl trivial ?_
      refine go_iret rfl rfl ?_
      exact h2 _ _ ⟨hsc, ad, nc, nb, nt, wk, nw, nx, nl, ne, nk, kd, false, rfl, rfl, rfl, hW.thr⟩ (by show up2 (mI M) (ad 10 0) 0 1 (ad 10 0) 0 = 1; simp [up2])
      
    · -- ('n',)
      show Go 1302 137 0 0 5 [.ref (ad 0 0), .int a1, .int a2, .retAddr 0] [.null] (mm M (mI M) (mJ M)) R
      refine go_blk 3 [some (.int 0)] (pc' := 10) (vs' := [.ref (ad 0 0), .int a1, .int a2, .null]) (st' := [.int 0]) (M' := mm M (mI M) (mJ M)) (ps := [ob (mm M (mI M) (mJ M)) (ad 0 0) 11, (Value.int ((mI M) (ad 0 0) 8)) = .int 0]) rfl ⟨(hF.o 0), congrArg Value.int op1, trivial⟩ ?_
      refine go_if rfl (fun _ => ?_) (fun (z : ¬ ((0 : Int32) = 0)) => absurd (show (0 : Int32) = 0 from (by decide)) z)
      refine go_thr rfl ?_
      refine K2 _ hM.1 rfl (fun R2 h2 => ?_)
      show Go 1311 227 0 0 0 [.ref (ad 10 0), .int a1, .int a2] [] (mm M (mI M) (mJ M)) R2
      refine go_blk 3 [some (.int 0)] (pc' := 5) (vs' := [.ref (ad 10 0), .int a1, .int a2]) (st' := [.int 0, .ref (ad 10 0)]) (M' := mm M (mI M) (mJ M)) (ps := [ob (mm M (mI M) (mJ M)) (ad 10 0) 12, (Value.int ((mI M) (ad 10 0) 21)) = .int 0]) rfl ⟨hM.1, congrArg Value.int op2, trivial⟩ ?_
      refine go_if rfl (fun _ => ?_) (fun (z : ¬ ((0 : Int32) = 0)) => absurd (show (0 : Int32) = 0 from (by decide)) z)
      refine go_blk 4 [some (.int 1)] (pc' := 37) (vs' := [.ref (ad 10 0), .int a1, .int a2]) (st' := [.int 1]) (M' := mm M (up2 (mI M) (ad 10 0) 0 1) (mJ M)) (ps := [ob (mm M (mI M) (mJ M)) (ad 10 0) 12, ob (mm M (up2 (mI M) (ad 10 0) 0 1) (mJ M)) (ad 10 0) 12, (Value.int ((up2 (mI M) (ad 10 0) 0 1) (ad 10 0) 0)) = .int 1]) rfl ⟨hM.1, hM.1, congrArg Value.int (up2_s _ _ _ _), trivial⟩ ?_
      refine go_if rfl (fun (z : (1 : Int32) ≤ 0) => absurd z (show ¬ ((1 : Int32) ≤ 0) from (by decide))) (fun _ => ?_)
      refine go_blk 1 [] (pc' := 41) (vs' := [.ref (ad 10 0), .int a1, .int a2]) (st' := [.int 0]) (M' := mm M (up2 (mI M) (ad 10 0) 0 1) (mJ M)) (ps := []) rfl trivial ?_
      refine go_iret rfl rfl ?_
      exact h2 _ _ ⟨hsc, ad, nc, nb, nt, wk, nw, nx, nl, ne, nk, kd, false, rfl, rfl, rfl, hW.thr⟩ (by show up2 (mI M) (ad 10 0) 0 1 (ad 10 0) 0 = 1; simp [up2])
      
  · replace op1 : mI M (ad 0 0) 8 = 1 := op1
    replace op2 : mI M (ad 10 0) 21 = 1 := op2
    show Go 1302 137 0 0 0 [.ref (ad 0 0), .int a1, .int a2, .retAddr 0] [] (mm M (mI M) (mJ M)) R
    refine go_blk 2 [] (pc' := 2) (vs' := [.ref (ad 0 0), .int a1, .int a2, .retAddr 0]) (st' := [.int a1, .ref (ad 0 0)]) (M' := mm M (mI M) (mJ M)) (ps := []) rfl trivial ?_
    refine go_callV rfl rfl rfl (by omega) rfl (by decide) (by decide) (hF.o 0) ?_
    refine s_CY_teamAt (by omega) hF hT nt1 nt3 (fun j1 hj1 hx1 => ⟨ne_a, ?_⟩) (fun c1 => ⟨ne_0, ?_⟩)
    · -- ('r', 'ad 3 j1')
      subst hx1
      obtain ⟨rn1, ra1, re1, rr1⟩ := (iT.1 j1 (by assumption)).2.2.2
      show Go 1302 137 0 0 5 [.ref (ad 0 0), .int (nI j1), .int a2, .retAddr 0] [.ref (ad 3 j1)] (mm M (mI M) (mJ M)) R
      refine go_blk 3 [some (.int 1)] (pc' := 10) (vs' := [.ref (ad 0 0), .int (nI j1), .int a2, .ref (ad 3 j1)]) (st' := [.int 1]) (M' := mm M (mI M) (mJ M)) (ps := [ob (mm M (mI M) (mJ M)) (ad 0 0) 11, (Value.int ((mI M) (ad 0 0) 8)) = .int 1]) rfl ⟨(hF.o 0), congrArg Value.int op1, trivial⟩ ?_
      refine go_if rfl (fun (z : (1 : Int32) = 0) => absurd z (show ¬ ((1 : Int32) = 0) from (by decide))) (fun _ => ?_)
      refine go_blk 1 [] (pc' := 14) (vs' := [.ref (ad 0 0), .int (nI j1), .int a2, .ref (ad 3 j1)]) (st' := [.ref (ad 3 j1)]) (M' := mm M (mI M) (mJ M)) (ps := []) rfl trivial ?_
      refine go_ifnull1 rfl ?_
      refine go_blk 3 [] (pc' := 20) (vs' := [.ref (ad 0 0), .int (nI j1), .int a2, .ref (ad 3 j1)]) (st' := [.int 5, .int 0, .int a2]) (M' := mm M (mI M) (mJ M)) (ps := []) rfl trivial ?_
      refine go_callS rfl (by decide) rfl rfl (by omega) rfl (by decide) (by decide) ?_
      refine s_CY_withinK 0 5 (by decide) (by decide) (fun j2 hl2 hj2 hx2 => ⟨ne_i, ?_⟩) (fun c2 => ⟨ne_i, ?_⟩)
      · -- 1
        subst hx2
        rcases (show j2 = 0 ∨ j2 = 1 ∨ j2 = 2 ∨ j2 = 3 ∨ j2 = 4 ∨ j2 = 5 by omega) with rfl | rfl | rfl | rfl | rfl | rfl
        · -- 0
          show Go 1302 137 0 0 23 [.ref (ad 0 0), .int (nI j1), .int 0, .ref (ad 3 j1)] [.int 1] (mm M (mI M) (mJ M)) R
          refine go_if rfl (fun _ => ?_) (fun (z : ¬ (¬ (1 : Int32) = 0)) => absurd (show ¬ (1 : Int32) = 0 from (by decide)) z)
          refine go_blk 2 [] (pc' := 36) (vs' := [.ref (ad 0 0), .int (nI j1), .int 0, .ref (ad 3 j1)]) (st' := [.int 0, .ref (ad 3 j1)]) (M' := mm M (mI M) (mJ M)) (ps := []) rfl trivial ?_
          refine go_callV rfl rfl rfl (by omega) rfl (by decide) (by decide) (hT j1 (by assumption)).2.1 ?_
          show Go (1302 - 1) 75 0 0 0 [.ref (ad 3 j1), .int 0] [] (mm M (mI M) (mJ M)) _
          refine go_blk 1 [] (pc' := 1) (vs' := [.ref (ad 3 j1), .int 0]) (st' := [.int 0]) (M' := mm M (mI M) (mJ M)) (ps := []) rfl trivial ?_
          refine go_tsw rfl ?_
          refine ⟨fun _ => ?_, fun z => absurd rfl z⟩
          show Go (1302 - 1) 75 0 0 40 [.ref (ad 3 j1), .int 0] [] (mm M (mI M) (mJ M)) _
          refine go_blk 2 [some (.int ((mI M) (ad 9 44) j1))] (pc' := 44) (vs' := [.ref (ad 3 j1), .int 0]) (st' := [.int ((mI M) (ad 9 44) j1)]) (M' := mm M (mI M) (mJ M)) (ps := [ob (mm M (mI M) (mJ M)) (ad 3 j1) 8, (Value.int ((mI M) (ad 3 j1) 7)) = .int ((mI M) (ad 9 44) j1)]) rfl ⟨(hT j1 (by assumption)).2.1, congrArg Value.int ((iT.1 j1 (by assumption)).1.2.2.2.2.2.1), trivial⟩ ?_
          refine go_iret rfl rfl ?_
          refine ⟨ne_i, ?_⟩
          show Go 1302 137 0 0 39 [.ref (ad 0 0), .int (nI j1), .int 0, .ref (ad 3 j1)] [.int ((mI M) (ad 9 44) j1)] (mm M (mI M) (mJ M)) R
          refine go_iret rfl rfl ?_
          refine K1 _ _ hM.1 ⟨hF.o 40, Nat.le_of_eq (hF.n 40).symm⟩ rfl (fun R2 h2 => ?_)
          show Go 1311 227 0 0 0 [.ref (ad 10 0), .int (nI j1), .int 0] [] (mm M (mI M) (up2 (mJ M) (ad 0 40) 0 (((mI M) (ad 9 44) j1).toInt64))) R2
          refine go_blk 3 [some (.int 1)] (pc' := 5) (vs' := [.ref (ad 10 0), .int (nI j1), .int 0]) (st' := [.int 1, .ref (ad 10 0)]) (M' := mm M (mI M) (up2 (mJ M) (ad 0 40) 0 (((mI M) (ad 9 44) j1).toInt64))) (ps := [ob (mm M (mI M) (up2 (mJ M) (ad 0 40) 0 (((mI M) (ad 9 44) j1).toInt64))) (ad 10 0) 12, (Value.int ((mI M) (ad 10 0) 21)) = .int 1]) rfl ⟨hM.1, congrArg Value.int op2, trivial⟩ ?_
          refine go_if rfl (fun (z : (1 : Int32) = 0) => absurd z (show ¬ ((1 : Int32) = 0) from (by decide))) (fun _ => ?_)
          refine go_blk 2 [] (pc' := 10) (vs' := [.ref (ad 10 0), .int (nI j1), .int 0]) (st' := [.int (nI j1), .ref (ad 10 0), .ref (ad 10 0)]) (M' := mm M (mI M) (up2 (mJ M) (ad 0 40) 0 (((mI M) (ad 9 44) j1).toInt64))) (ps := []) rfl trivial ?_
          refine go_callV rfl rfl rfl (by omega) rfl (by decide) (by decide) hM.1 ?_
          refine s_Mo_isTeam hM nt2 (Nat.le_trans nt3 (by decide)) (fun j3 hj3 hx3 => ⟨ne_i, ?_⟩) (fun c3 => ⟨ne_i, ?_⟩)
          · -- 1
            show Go 1311 227 0 0 13 [.ref (ad 10 0), .int (nI j1), .int 0] [.int 1, .ref (ad 10 0)] (mm M (mI M) (up2 (mJ M) (ad 0 40) 0 (((mI M) (ad 9 44) j1).toInt64))) R2
            refine go_if rfl (fun (z : (1 : Int32) = 0) => absurd z (show ¬ ((1 : Int32) = 0) from (by decide))) (fun _ => ?_)
            refine go_blk 3 [] (pc' := 19) (vs' := [.ref (ad 10 0), .int (nI j1), .int 0]) (st' := [.int 5, .int 0, .int 0, .ref (ad 10 0)]) (M' := mm M (mI M) (up2 (mJ M) (ad 0 40) 0 (((mI M) (ad 9 44) j1).toInt64))) (ps := []) rfl trivial ?_
            refine go_callS rfl (by decide) rfl rfl (by omega) rfl (by decide) (by decide) ?_
            refine s_Mo_isInK 0 5 (by decide) (by decide) (fun j4 hl4 hj4 hx4 => ⟨ne_i, ?_⟩) (fun c4 => ⟨ne_i, ?_⟩)
            · -- 1
              show Go 1311 227 0 0 22 [.ref (ad 10 0), .int (nI j1), .int 0] [.int 1, .ref (ad 10 0)] (mm M (mI M) (up2 (mJ M) (ad 0 40) 0 (((mI M) (ad 9 44) j1).toInt64))) R2
              refine go_if rfl (fun (z : (1 : Int32) = 0) => absurd z (show ¬ ((1 : Int32) = 0) from (by decide))) (fun _ => ?_)
              refine go_blk 5 [some (.int 0)] (pc' := 37) (vs' := [.ref (ad 10 0), .int (nI j1), .int 0]) (st' := [.int 0]) (M' := mm M (up2 (mI M) (ad 10 0) 0 0) (up2 (mJ M) (ad 0 40) 0 (((mI M) (ad 9 44) j1).toInt64))) (ps := [ob (mm M (mI M) (up2 (mJ M) (ad 0 40) 0 (((mI M) (ad 9 44) j1).toInt64))) (ad 10 0) 12, ob (mm M (up2 (mI M) (ad 10 0) 0 0) (up2 (mJ M) (ad 0 40) 0 (((mI M) (ad 9 44) j1).toInt64))) (ad 10 0) 12, (Value.int ((up2 (mI M) (ad 10 0) 0 0) (ad 10 0) 0)) = .int 0]) rfl ⟨hM.1, hM.1, congrArg Value.int (up2_s _ _ _ _), trivial⟩ ?_
              refine go_if rfl (fun _ => ?_) (fun (z : ¬ ((0 : Int32) ≤ 0)) => absurd (show (0 : Int32) ≤ 0 from (by decide)) z)
              refine go_blk 1 [] (pc' := 43) (vs' := [.ref (ad 10 0), .int (nI j1), .int 0]) (st' := [.int 0]) (M' := mm M (up2 (mI M) (ad 10 0) 0 0) (up2 (mJ M) (ad 0 40) 0 (((mI M) (ad 9 44) j1).toInt64))) (ps := []) rfl trivial ?_
              refine go_tsw rfl ?_
              refine ⟨fun _ => ?_, fun z => absurd rfl z⟩
              show Go 1311 227 0 0 76 [.ref (ad 10 0), .int (nI j1), .int 0] [] (mm M (up2 (mI M) (ad 10 0) 0 0) (up2 (mJ M) (ad 0 40) 0 (((mI M) (ad 9 44) j1).toInt64))) R2
              refine go_blk 4 [some (.ref (ad 9 44)), some (.int ((mI M) (ad 9 44) j1))] (pc' := 82) (vs' := [.ref (ad 10 0), .int (nI j1), .int 0]) (st' := [.int ((mI M) (ad 9 44) j1)]) (M' := mm M (up2 (mI M) (ad 10 0) 0 0) (up2 (mJ M) (ad 0 40) 0 (((mI M) (ad 9 44) j1).toInt64))) (ps := [ob (mm M (up2 (mI M) (ad 10 0) 0 0) (up2 (mJ M) (ad 0 40) 0 (((mI M) (ad 9 44) j1).toInt64))) (ad 10 0) 12, mR (mm M (up2 (mI M) (ad 10 0) 0 0) (up2 (mJ M) (ad 0 40) 0 (((mI M) (ad 9 44) j1).toInt64))) (ad 10 0) 44 = some (ad 9 44), va_rf (some (ad 9 44)) = .ref (ad 9 44), ob (mm M (up2 (mI M) (ad 10 0) 0 0) (up2 (mJ M) (ad 0 40) 0 (((mI M) (ad 9 44) j1).toInt64))) (ad 9 44) 15, vp_in (nI j1) (mN (mm M (up2 (mI M) (ad 10 0) 0 0) (up2 (mJ M) (ad 0 40) 0 (((mI M) (ad 9 44) j1).toInt64))) (ad 9 44)), (Value.int ((up2 (mI M) (ad 10 0) 0 0) (ad 9 44) ((nI j1).toNatClampNeg))) = .int ((mI M) (ad 9 44) j1)]) rfl ⟨hM.1, (hM.r 44 15 3), rfl, (hM.o 44 15 3), (vpi (hM.n 44 15 3) (by omega)), congrArg Value.int ((congrArg (fun z => (up2 (mI M) (ad 10 0) 0 0) (ad 9 44) z) (nI_clamp (by omega))).trans ((up2_n _ _ (fun z => absurd (hi _ _ _ _ z.1).1 (by decide))).trans (rfl))), trivial⟩ ?_
              refine go_iret rfl rfl ?_
              exact h2 _ ⟨hsc, ad, nc, nb, nt, wk, nw, nx, nl, ne, nk, kd, true, rfl, rfl, rfl, hW.thr2⟩ (by show up2 (mI M) (ad 10 0) 0 0 (ad 10 0) 0 = 0; simp [up2]) (by show up2 (mJ M) (ad 0 40) 0 _ (ad 0 40) 0 = _; simp [up2])
            · exact absurd ⟨0, by decide, by decide, rfl⟩ c4
          · exact absurd ⟨j1, hj1, rfl⟩ c3
        · -- 1
          show Go 1302 137 0 0 23 [.ref (ad 0 0), .int (nI j1), .int 1, .ref (ad 3 j1)] [.int 1] (mm M (mI M) (mJ M)) R
          refine go_if rfl (fun _ => ?_) (fun (z : ¬ (¬ (1 : Int32) = 0)) => absurd (show ¬ (1 : Int32) = 0 from (by decide)) z)
          refine go_blk 2 [] (pc' := 36) (vs' := [.ref (ad 0 0), .int (nI j1), .int 1, .ref (ad 3 j1)]) (st' := [.int 1, .ref (ad 3 j1)]) (M' := mm M (mI M) (mJ M)) (ps := []) rfl trivial ?_
          refine go_callV rfl rfl rfl (by omega) rfl (by decide) (by decide) (hT j1 (by assumption)).2.1 ?_
          show Go (1302 - 1) 75 0 0 0 [.ref (ad 3 j1), .int 1] [] (mm M (mI M) (mJ M)) _
          refine go_blk 1 [] (pc' := 1) (vs' := [.ref (ad 3 j1), .int 1]) (st' := [.int 1]) (M' := mm M (mI M) (mJ M)) (ps := []) rfl trivial ?_
          refine go_tsw rfl ?_
          refine ⟨fun (z : (1 : Int32) = 0) => absurd z (by decide), fun _ => ?_⟩
          refine ⟨fun _ => ?_, fun z => absurd rfl z⟩
          show Go (1302 - 1) 75 0 0 45 [.ref (ad 3 j1), .int 1] [] (mm M (mI M) (mJ M)) _
          refine go_blk 2 [some (.int ((mI M) (ad 9 45) j1))] (pc' := 49) (vs' := [.ref (ad 3 j1), .int 1]) (st' := [.int ((mI M) (ad 9 45) j1)]) (M' := mm M (mI M) (mJ M)) (ps := [ob (mm M (mI M) (mJ M)) (ad 3 j1) 8, (Value.int ((mI M) (ad 3 j1) 8)) = .int ((mI M) (ad 9 45) j1)]) rfl ⟨(hT j1 (by assumption)).2.1, congrArg Value.int ((iT.1 j1 (by assumption)).1.2.2.2.2.2.2.1), trivial⟩ ?_
          refine go_iret rfl rfl ?_
          refine ⟨ne_i, ?_⟩
          show Go 1302 137 0 0 39 [.ref (ad 0 0), .int (nI j1), .int 1, .ref (ad 3 j1)] [.int ((mI M) (ad 9 45) j1)] (mm M (mI M) (mJ M)) R
          refine go_iret rfl rfl ?_
          refine K1 _ _ hM.1 ⟨hF.o 40, Nat.le_of_eq (hF.n 40).symm⟩ rfl (fun R2 h2 => ?_)
          show Go 1311 227 0 0 0 [.ref (ad 10 0), .int (nI j1), .int 1] [] (mm M (mI M) (up2 (mJ M) (ad 0 40) 0 (((mI M) (ad 9 45) j1).toInt64))) R2
          refine go_blk 3 [some (.int 1)] (pc' := 5) (vs' := [.ref (ad 10 0), .int (nI j1), .int 1]) (st' := [.int 1, .ref (ad 10 0)]) (M' := mm M (mI M) (up2 (mJ M) (ad 0 40) 0 (((mI M) (ad 9 45) j1).toInt64))) (ps := [ob (mm M (mI M) (up2 (mJ M) (ad 0 40) 0 (((mI M) (ad 9 45) j1).toInt64))) (ad 10 0) 12, (Value.int ((mI M) (ad 10 0) 21)) = .int 1]) rfl ⟨hM.1, congrArg Value.int op2, trivial⟩ ?_
          refine go_if rfl (fun (z : (1 : Int32) = 0) => absurd z (show ¬ ((1 : Int32) = 0) from (by decide))) (fun _ => ?_)
          refine go_blk 2 [] (pc' := 10) (vs' := [.ref (ad 10 0), .int (nI j1), .int 1]) (st' := [.int (nI j1), .ref (ad 10 0), .ref (ad 10 0)]) (M' := mm M (mI M) (up2 (mJ M) (ad 0 40) 0 (((mI M) (ad 9 45) j1).toInt64))) (ps := []) rfl trivial ?_
          refine go_callV rfl rfl rfl (by omega) rfl (by decide) (by decide) hM.1 ?_
          refine s_Mo_isTeam hM nt2 (Nat.le_trans nt3 (by decide)) (fun j5 hj5 hx5 => ⟨ne_i, ?_⟩) (fun c5 => ⟨ne_i, ?_⟩)
          · -- 1
            show Go 1311 227 0 0 13 [.ref (ad 10 0), .int (nI j1), .int 1] [.int 1, .ref (ad 10 0)] (mm M (mI M) (up2 (mJ M) (ad 0 40) 0 (((mI M) (ad 9 45) j1).toInt64))) R2
            refine go_if rfl (fun (z : (1 : Int32) = 0) => absurd z (show ¬ ((1 : Int32) = 0) from (by decide))) (fun _ => ?_)
            refine go_blk 3 [] (pc' := 19) (vs' := [.ref (ad 10 0), .int (nI j1), .int 1]) (st' := [.int 5, .int 0, .int 1, .ref (ad 10 0)]) (M' := mm M (mI M) (up2 (mJ M) (ad 0 40) 0 (((mI M) (ad 9 45) j1).toInt64))) (ps := []) rfl trivial ?_
            refine go_callS rfl (by decide) rfl rfl (by omega) rfl (by decide) (by decide) ?_
            refine s_Mo_isInK 0 5 (by decide) (by decide) (fun j6 hl6 hj6 hx6 => ⟨ne_i, ?_⟩) (fun c6 => ⟨ne_i, ?_⟩)
            · -- 1
              show Go 1311 227 0 0 22 [.ref (ad 10 0), .int (nI j1), .int 1] [.int 1, .ref (ad 10 0)] (mm M (mI M) (up2 (mJ M) (ad 0 40) 0 (((mI M) (ad 9 45) j1).toInt64))) R2
              refine go_if rfl (fun (z : (1 : Int32) = 0) => absurd z (show ¬ ((1 : Int32) = 0) from (by decide))) (fun _ => ?_)
              refine go_blk 5 [some (.int 0)] (pc' := 37) (vs' := [.ref (ad 10 0), .int (nI j1), .int 1]) (st' := [.int 0]) (M' := mm M (up2 (mI M) (ad 10 0) 0 0) (up2 (mJ M) (ad 0 40) 0 (((mI M) (ad 9 45) j1).toInt64))) (ps := [ob (mm M (mI M) (up2 (mJ M) (ad 0 40) 0 (((mI M) (ad 9 45) j1).toInt64))) (ad 10 0) 12, ob (mm M (up2 (mI M) (ad 10 0) 0 0) (up2 (mJ M) (ad 0 40) 0 (((mI M) (ad 9 45) j1).toInt64))) (ad 10 0) 12, (Value.int ((up2 (mI M) (ad 10 0) 0 0) (ad 10 0) 0)) = .int 0]) rfl ⟨hM.1, hM.1, congrArg Value.int (up2_s _ _ _ _), trivial⟩ ?_
              refine go_if rfl (fun _ => ?_) (fun (z : ¬ ((0 : Int32) ≤ 0)) => absurd (show (0 : Int32) ≤ 0 from (by decide)) z)
              refine go_blk 1 [] (pc' := 43) (vs' := [.ref (ad 10 0), .int (nI j1), .int 1]) (st' := [.int 1]) (M' := mm M (up2 (mI M) (ad 10 0) 0 0) (up2 (mJ M) (ad 0 40) 0 (((mI M) (ad 9 45) j1).toInt64))) (ps := []) rfl trivial ?_
              refine go_tsw rfl ?_
              refine ⟨fun (z : (1 : Int32) = 0) => absurd z (by decide), fun _ => ?_⟩
              refine ⟨fun _ => ?_, fun z => absurd rfl z⟩
              show Go 1311 227 0 0 83 [.ref (ad 10 0), .int (nI j1), .int 1] [] (mm M (up2 (mI M) (ad 10 0) 0 0) (up2 (mJ M) (ad 0 40) 0 (((mI M) (ad 9 45) j1).toInt64))) R2
              refine go_blk 4 [some (.ref (ad 9 45)), some (.int ((mI M) (ad 9 45) j1))] (pc' := 89) (vs' := [.ref (ad 10 0), .int (nI j1), .int 1]) (st' := [.int ((mI M) (ad 9 45) j1)]) (M' := mm M (up2 (mI M) (ad 10 0) 0 0) (up2 (mJ M) (ad 0 40) 0 (((mI M) (ad 9 45) j1).toInt64))) (ps := [ob (mm M (up2 (mI M) (ad 10 0) 0 0) (up2 (mJ M) (ad 0 40) 0 (((mI M) (ad 9 45) j1).toInt64))) (ad 10 0) 12, mR (mm M (up2 (mI M) (ad 10 0) 0 0) (up2 (mJ M) (ad 0 40) 0 (((mI M) (ad 9 45) j1).toInt64))) (ad 10 0) 45 = some (ad 9 45), va_rf (some (ad 9 45)) = .ref (ad 9 45), ob (mm M (up2 (mI M) (ad 10 0) 0 0) (up2 (mJ M) (ad 0 40) 0 (((mI M) (ad 9 45) j1).toInt64))) (ad 9 45) 15, vp_in (nI j1) (mN (mm M (up2 (mI M) (ad 10 0) 0 0) (up2 (mJ M) (ad 0 40) 0 (((mI M) (ad 9 45) j1).toInt64))) (ad 9 45)), (Value.int ((up2 (mI M) (ad 10 0) 0 0) (ad 9 45) ((nI j1).toNatClampNeg))) = .int ((mI M) (ad 9 45) j1)]) rfl ⟨hM.1, (hM.r 45 15 3), rfl, (hM.o 45 15 3), (vpi (hM.n 45 15 3) (by omega)), congrArg Value.int ((congrArg (fun z => (up2 (mI M) (ad 10 0) 0 0) (ad 9 45) z) (nI_clamp (by omega))).trans ((up2_n _ _ (fun z => absurd (hi _ _ _ _ z.1).1 (by decide))).trans (rfl))), trivial⟩ ?_
              refine go_iret rfl rfl ?_
              exact h2 _ ⟨hsc, ad, nc, nb, nt, wk, nw, nx, nl, ne, nk, kd, true, rfl, rfl, rfl, hW.thr2⟩ (by show up2 (mI M) (ad 10 0) 0 0 (ad 10 0) 0 = 0; simp [up2]) (by show up2 (mJ M) (ad 0 40) 0 _ (ad 0 40) 0 = _; simp [up2])
            · exact absurd ⟨1, by decide, by decide, rfl⟩ c6
          · exact absurd ⟨j1, hj1, rfl⟩ c5
        · -- 2
          show Go 1302 137 0 0 23 [.ref (ad 0 0), .int (nI j1), .int 2, .ref (ad 3 j1)] [.int 1] (mm M (mI M) (mJ M)) R
          refine go_if rfl (fun _ => ?_) (fun (z : ¬ (¬ (1 : Int32) = 0)) => absurd (show ¬ (1 : Int32) = 0 from (by decide)) z)
          refine go_blk 2 [] (pc' := 36) (vs' := [.ref (ad 0 0), .int (nI j1), .int 2, .ref (ad 3 j1)]) (st' := [.int 2, .ref (ad 3 j1)]) (M' := mm M (mI M) (mJ M)) (ps := []) rfl trivial ?_
          refine go_callV rfl rfl rfl (by omega) rfl (by decide) (by decide) (hT j1 (by assumption)).2.1 ?_
          show Go (1302 - 1) 75 0 0 0 [.ref (ad 3 j1), .int 2] [] (mm M (mI M) (mJ M)) _
          refine go_blk 1 [] (pc' := 1) (vs' := [.ref (ad 3 j1), .int 2]) (st' := [.int 2]) (M' := mm M (mI M) (mJ M)) (ps := []) rfl trivial ?_
          refine go_tsw rfl ?_
          refine ⟨fun (z : (2 : Int32) = 0) => absurd z (by decide), fun _ => ?_⟩
          refine ⟨fun (z : (2 : Int32) = 1) => absurd z (by decide), fun _ => ?_⟩
          refine ⟨fun _ => ?_, fun z => absurd rfl z⟩
          show Go (1302 - 1) 75 0 0 50 [.ref (ad 3 j1), .int 2] [] (mm M (mI M) (mJ M)) _
          refine go_blk 2 [some (.int ((mI M) (ad 9 46) j1))] (pc' := 54) (vs' := [.ref (ad 3 j1), .int 2]) (st' := [.int ((mI M) (ad 9 46) j1)]) (M' := mm M (mI M) (mJ M)) (ps := [ob (mm M (mI M) (mJ M)) (ad 3 j1) 8, (Value.int ((mI M) (ad 3 j1) 9)) = .int ((mI M) (ad 9 46) j1)]) rfl ⟨(hT j1 (by assumption)).2.1, congrArg Value.int ((iT.1 j1 (by assumption)).1.2.2.2.2.2.2.2.1), trivial⟩ ?_
          refine go_iret rfl rfl ?_
          refine ⟨ne_i, ?_⟩
          show Go 1302 137 0 0 39 [.ref (ad 0 0), .int (nI j1), .int 2, .ref (ad 3 j1)] [.int ((mI M) (ad 9 46) j1)] (mm M (mI M) (mJ M)) R
          refine go_iret rfl rfl ?_
          refine K1 _ _ hM.1 ⟨hF.o 40, Nat.le_of_eq (hF.n 40).symm⟩ rfl (fun R2 h2 => ?_)
          show Go 1311 227 0 0 0 [.ref (ad 10 0), .int (nI j1), .int 2] [] (mm M (mI M) (up2 (mJ M) (ad 0 40) 0 (((mI M) (ad 9 46) j1).toInt64))) R2
          refine go_blk 3 [some (.int 1)] (pc' := 5) (vs' := [.ref (ad 10 0), .int (nI j1), .int 2]) (st' := [.int 1, .ref (ad 10 0)]) (M' := mm M (mI M) (up2 (mJ M) (ad 0 40) 0 (((mI M) (ad 9 46) j1).toInt64))) (ps := [ob (mm M (mI M) (up2 (mJ M) (ad 0 40) 0 (((mI M) (ad 9 46) j1).toInt64))) (ad 10 0) 12, (Value.int ((mI M) (ad 10 0) 21)) = .int 1]) rfl ⟨hM.1, congrArg Value.int op2, trivial⟩ ?_
          refine go_if rfl (fun (z : (1 : Int32) = 0) => absurd z (show ¬ ((1 : Int32) = 0) from (by decide))) (fun _ => ?_)
          refine go_blk 2 [] (pc' := 10) (vs' := [.ref (ad 10 0), .int (nI j1), .int 2]) (st' := [.int (nI j1), .ref (ad 10 0), .ref (ad 10 0)]) (M' := mm M (mI M) (up2 (mJ M) (ad 0 40) 0 (((mI M) (ad 9 46) j1).toInt64))) (ps := []) rfl trivial ?_
          refine go_callV rfl rfl rfl (by omega) rfl (by decide) (by decide) hM.1 ?_
          refine s_Mo_isTeam hM nt2 (Nat.le_trans nt3 (by decide)) (fun j7 hj7 hx7 => ⟨ne_i, ?_⟩) (fun c7 => ⟨ne_i, ?_⟩)
          · -- 1
            show Go 1311 227 0 0 13 [.ref (ad 10 0), .int (nI j1), .int 2] [.int 1, .ref (ad 10 0)] (mm M (mI M) (up2 (mJ M) (ad 0 40) 0 (((mI M) (ad 9 46) j1).toInt64))) R2
            refine go_if rfl (fun (z : (1 : Int32) = 0) => absurd z (show ¬ ((1 : Int32) = 0) from (by decide))) (fun _ => ?_)
            refine go_blk 3 [] (pc' := 19) (vs' := [.ref (ad 10 0), .int (nI j1), .int 2]) (st' := [.int 5, .int 0, .int 2, .ref (ad 10 0)]) (M' := mm M (mI M) (up2 (mJ M) (ad 0 40) 0 (((mI M) (ad 9 46) j1).toInt64))) (ps := []) rfl trivial ?_
            refine go_callS rfl (by decide) rfl rfl (by omega) rfl (by decide) (by decide) ?_
            refine s_Mo_isInK 0 5 (by decide) (by decide) (fun j8 hl8 hj8 hx8 => ⟨ne_i, ?_⟩) (fun c8 => ⟨ne_i, ?_⟩)
            · -- 1
              show Go 1311 227 0 0 22 [.ref (ad 10 0), .int (nI j1), .int 2] [.int 1, .ref (ad 10 0)] (mm M (mI M) (up2 (mJ M) (ad 0 40) 0 (((mI M) (ad 9 46) j1).toInt64))) R2
              refine go_if rfl (fun (z : (1 : Int32) = 0) => absurd z (show ¬ ((1 : Int32) = 0) from (by decide))) (fun _ => ?_)
              refine go_blk 5 [some (.int 0)] (pc' := 37) (vs' := [.ref (ad 10 0), .int (nI j1), .int 2]) (st' := [.int 0]) (M' := mm M (up2 (mI M) (ad 10 0) 0 0) (up2 (mJ M) (ad 0 40) 0 (((mI M) (ad 9 46) j1).toInt64))) (ps := [ob (mm M (mI M) (up2 (mJ M) (ad 0 40) 0 (((mI M) (ad 9 46) j1).toInt64))) (ad 10 0) 12, ob (mm M (up2 (mI M) (ad 10 0) 0 0) (up2 (mJ M) (ad 0 40) 0 (((mI M) (ad 9 46) j1).toInt64))) (ad 10 0) 12, (Value.int ((up2 (mI M) (ad 10 0) 0 0) (ad 10 0) 0)) = .int 0]) rfl ⟨hM.1, hM.1, congrArg Value.int (up2_s _ _ _ _), trivial⟩ ?_
              refine go_if rfl (fun _ => ?_) (fun (z : ¬ ((0 : Int32) ≤ 0)) => absurd (show (0 : Int32) ≤ 0 from (by decide)) z)
              refine go_blk 1 [] (pc' := 43) (vs' := [.ref (ad 10 0), .int (nI j1), .int 2]) (st' := [.int 2]) (M' := mm M (up2 (mI M) (ad 10 0) 0 0) (up2 (mJ M) (ad 0 40) 0 (((mI M) (ad 9 46) j1).toInt64))) (ps := []) rfl trivial ?_
              refine go_tsw rfl ?_
              refine ⟨fun (z : (2 : Int32) = 0) => absurd z (by decide), fun _ => ?_⟩
              refine ⟨fun (z : (2 : Int32) = 1) => absurd z (by decide), fun _ => ?_⟩
              refine ⟨fun _ => ?_, fun z => absurd rfl z⟩
              show Go 1311 227 0 0 90 [.ref (ad 10 0), .int (nI j1), .int 2] [] (mm M (up2 (mI M) (ad 10 0) 0 0) (up2 (mJ M) (ad 0 40) 0 (((mI M) (ad 9 46) j1).toInt64))) R2
              refine go_blk 4 [some (.ref (ad 9 46)), some (.int ((mI M) (ad 9 46) j1))] (pc' := 96) (vs' := [.ref (ad 10 0), .int (nI j1), .int 2]) (st' := [.int ((mI M) (ad 9 46) j1)]) (M' := mm M (up2 (mI M) (ad 10 0) 0 0) (up2 (mJ M) (ad 0 40) 0 (((mI M) (ad 9 46) j1).toInt64))) (ps := [ob (mm M (up2 (mI M) (ad 10 0) 0 0) (up2 (mJ M) (ad 0 40) 0 (((mI M) (ad 9 46) j1).toInt64))) (ad 10 0) 12, mR (mm M (up2 (mI M) (ad 10 0) 0 0) (up2 (mJ M) (ad 0 40) 0 (((mI M) (ad 9 46) j1).toInt64))) (ad 10 0) 46 = some (ad 9 46), va_rf (some (ad 9 46)) = .ref (ad 9 46), ob (mm M (up2 (mI M) (ad 10 0) 0 0) (up2 (mJ M) (ad 0 40) 0 (((mI M) (ad 9 46) j1).toInt64))) (ad 9 46) 15, vp_in (nI j1) (mN (mm M (up2 (mI M) (ad 10 0) 0 0) (up2 (mJ M) (ad 0 40) 0 (((mI M) (ad 9 46) j1).toInt64))) (ad 9 46)), (Value.int ((up2 (mI M) (ad 10 0) 0 0) (ad 9 46) ((nI j1).toNatClampNeg))) = .int ((mI M) (ad 9 46) j1)]) rfl ⟨hM.1, (hM.r 46 15 3), rfl, (hM.o 46 15 3), (vpi (hM.n 46 15 3) (by omega)), congrArg Value.int ((congrArg (fun z => (up2 (mI M) (ad 10 0) 0 0) (ad 9 46) z) (nI_clamp (by omega))).trans ((up2_n _ _ (fun z => absurd (hi _ _ _ _ z.1).1 (by decide))).trans (rfl))), trivial⟩ ?_
              refine go_iret rfl rfl ?_
              exact h2 _ ⟨hsc, ad, nc, nb, nt, wk, nw, nx, nl, ne, nk, kd, true, rfl, rfl, rfl, hW.thr2⟩ (by show up2 (mI M) (ad 10 0) 0 0 (ad 10 0) 0 = 0; simp [up2]) (by show up2 (mJ M) (ad 0 40) 0 _ (ad 0 40) 0 = _; simp [up2])
            · exact absurd ⟨2, by decide, by decide, rfl⟩ c8
          · exact absurd ⟨j1, hj1, rfl⟩ c7
        · -- 3
          show Go 1302 137 0 0 23 [.ref (ad 0 0), .int (nI j1), .int 3, .ref (ad 3 j1)] [.int 1] (mm M (mI M) (mJ M)) R
          refine go_if rfl (fun _ => ?_) (fun (z : ¬ (¬ (1 : Int32) = 0)) => absurd (show ¬ (1 : Int32) = 0 from (by decide)) z)
          refine go_blk 2 [] (pc' := 36) (vs' := [.ref (ad 0 0), .int (nI j1), .int 3, .ref (ad 3 j1)]) (st' := [.int 3, .ref (ad 3 j1)]) (M' := mm M (mI M) (mJ M)) (ps := []) rfl trivial ?_
          refine go_callV rfl rfl rfl (by omega) rfl (by decide) (by decide) (hT j1 (by assumption)).2.1 ?_
          show Go (1302 - 1) 75 0 0 0 [.ref (ad 3 j1), .int 3] [] (mm M (mI M) (mJ M)) _
          refine go_blk 1 [] (pc' := 1) (vs' := [.ref (ad 3 j1), .int 3]) (st' := [.int 3]) (M' := mm M (mI M) (mJ M)) (ps := []) rfl trivial ?_
          refine go_tsw rfl ?_
          refine ⟨fun (z : (3 : Int32) = 0) => absurd z (by decide), fun _ => ?_⟩
          refine ⟨fun (z : (3 : Int32) = 1) => absurd z (by decide), fun _ => ?_⟩
          refine ⟨fun (z : (3 : Int32) = 2) => absurd z (by decide), fun _ => ?_⟩
          refine ⟨fun _ => ?_, fun z => absurd rfl z⟩
          show Go (1302 - 1) 75 0 0 55 [.ref (ad 3 j1), .int 3] [] (mm M (mI M) (mJ M)) _
          refine go_blk 2 [some (.int ((mI M) (ad 9 47) j1))] (pc' := 59) (vs' := [.ref (ad 3 j1), .int 3]) (st' := [.int ((mI M) (ad 9 47) j1)]) (M' := mm M (mI M) (mJ M)) (ps := [ob (mm M (mI M) (mJ M)) (ad 3 j1) 8, (Value.int ((mI M) (ad 3 j1) 5)) = .int ((mI M) (ad 9 47) j1)]) rfl ⟨(hT j1 (by assumption)).2.1, congrArg Value.int ((iT.1 j1 (by assumption)).1.2.2.2.1), trivial⟩ ?_
          refine go_iret rfl rfl ?_
          refine ⟨ne_i, ?_⟩
          show Go 1302 137 0 0 39 [.ref (ad 0 0), .int (nI j1), .int 3, .ref (ad 3 j1)] [.int ((mI M) (ad 9 47) j1)] (mm M (mI M) (mJ M)) R
          refine go_iret rfl rfl ?_
          refine K1 _ _ hM.1 ⟨hF.o 40, Nat.le_of_eq (hF.n 40).symm⟩ rfl (fun R2 h2 => ?_)
          show Go 1311 227 0 0 0 [.ref (ad 10 0), .int (nI j1), .int 3] [] (mm M (mI M) (up2 (mJ M) (ad 0 40) 0 (((mI M) (ad 9 47) j1).toInt64))) R2
          refine go_blk 3 [some (.int 1)] (pc' := 5) (vs' := [.ref (ad 10 0), .int (nI j1), .int 3]) (st' := [.int 1, .ref (ad 10 0)]) (M' := mm M (mI M) (up2 (mJ M) (ad 0 40) 0 (((mI M) (ad 9 47) j1).toInt64))) (ps := [ob (mm M (mI M) (up2 (mJ M) (ad 0 40) 0 (((mI M) (ad 9 47) j1).toInt64))) (ad 10 0) 12, (Value.int ((mI M) (ad 10 0) 21)) = .int 1]) rfl ⟨hM.1, congrArg Value.int op2, trivial⟩ ?_
          refine go_if rfl (fun (z : (1 : Int32) = 0) => absurd z (show ¬ ((1 : Int32) = 0) from (by decide))) (fun _ => ?_)
          refine go_blk 2 [] (pc' := 10) (vs' := [.ref (ad 10 0), .int (nI j1), .int 3]) (st' := [.int (nI j1), .ref (ad 10 0), .ref (ad 10 0)]) (M' := mm M (mI M) (up2 (mJ M) (ad 0 40) 0 (((mI M) (ad 9 47) j1).toInt64))) (ps := []) rfl trivial ?_
          refine go_callV rfl rfl rfl (by omega) rfl (by decide) (by decide) hM.1 ?_
          refine s_Mo_isTeam hM nt2 (Nat.le_trans nt3 (by decide)) (fun j9 hj9 hx9 => ⟨ne_i, ?_⟩) (fun c9 => ⟨ne_i, ?_⟩)
          · -- 1
            show Go 1311 227 0 0 13 [.ref (ad 10 0), .int (nI j1), .int 3] [.int 1, .ref (ad 10 0)] (mm M (mI M) (up2 (mJ M) (ad 0 40) 0 (((mI M) (ad 9 47) j1).toInt64))) R2
            refine go_if rfl (fun (z : (1 : Int32) = 0) => absurd z (show ¬ ((1 : Int32) = 0) from (by decide))) (fun _ => ?_)
            refine go_blk 3 [] (pc' := 19) (vs' := [.ref (ad 10 0), .int (nI j1), .int 3]) (st' := [.int 5, .int 0, .int 3, .ref (ad 10 0)]) (M' := mm M (mI M) (up2 (mJ M) (ad 0 40) 0 (((mI M) (ad 9 47) j1).toInt64))) (ps := []) rfl trivial ?_
            refine go_callS rfl (by decide) rfl rfl (by omega) rfl (by decide) (by decide) ?_
            refine s_Mo_isInK 0 5 (by decide) (by decide) (fun j10 hl10 hj10 hx10 => ⟨ne_i, ?_⟩) (fun c10 => ⟨ne_i, ?_⟩)
            · -- 1
              show Go 1311 227 0 0 22 [.ref (ad 10 0), .int (nI j1), .int 3] [.int 1, .ref (ad 10 0)] (mm M (mI M) (up2 (mJ M) (ad 0 40) 0 (((mI M) (ad 9 47) j1).toInt64))) R2
              refine go_if rfl (fun (z : (1 : Int32) = 0) => absurd z (show ¬ ((1 : Int32) = 0) from (by decide))) (fun _ => ?_)
              refine go_blk 5 [some (.int 0)] (pc' := 37) (vs' := [.ref (ad 10 0), .int (nI j1), .int 3]) (st' := [.int 0]) (M' := mm M (up2 (mI M) (ad 10 0) 0 0) (up2 (mJ M) (ad 0 40) 0 (((mI M) (ad 9 47) j1).toInt64))) (ps := [ob (mm M (mI M) (up2 (mJ M) (ad 0 40) 0 (((mI M) (ad 9 47) j1).toInt64))) (ad 10 0) 12, ob (mm M (up2 (mI M) (ad 10 0) 0 0) (up2 (mJ M) (ad 0 40) 0 (((mI M) (ad 9 47) j1).toInt64))) (ad 10 0) 12, (Value.int ((up2 (mI M) (ad 10 0) 0 0) (ad 10 0) 0)) = .int 0]) rfl ⟨hM.1, hM.1, congrArg Value.int (up2_s _ _ _ _), trivial⟩ ?_
              refine go_if rfl (fun _ => ?_) (fun (z : ¬ ((0 : Int32) ≤ 0)) => absurd (show (0 : Int32) ≤ 0 from (by decide)) z)
              refine go_blk 1 [] (pc' := 43) (vs' := [.ref (ad 10 0), .int (nI j1), .int 3]) (st' := [.int 3]) (M' := mm M (up2 (mI M) (ad 10 0) 0 0) (up2 (mJ M) (ad 0 40) 0 (((mI M) (ad 9 47) j1).toInt64))) (ps := []) rfl trivial ?_
              refine go_tsw rfl ?_
              refine ⟨fun (z : (3 : Int32) = 0) => absurd z (by decide), fun _ => ?_⟩
              refine ⟨fun (z : (3 : Int32) = 1) => absurd z (by decide), fun _ => ?_⟩
              refine ⟨fun (z : (3 : Int32) = 2) => absurd z (by decide), fun _ => ?_⟩
              refine ⟨fun _ => ?_, fun z => absurd rfl z⟩
              show Go 1311 227 0 0 97 [.ref (ad 10 0), .int (nI j1), .int 3] [] (mm M (up2 (mI M) (ad 10 0) 0 0) (up2 (mJ M) (ad 0 40) 0 (((mI M) (ad 9 47) j1).toInt64))) R2
              refine go_blk 4 [some (.ref (ad 9 47)), some (.int ((mI M) (ad 9 47) j1))] (pc' := 103) (vs' := [.ref (ad 10 0), .int (nI j1), .int 3]) (st' := [.int ((mI M) (ad 9 47) j1)]) (M' := mm M (up2 (mI M) (ad 10 0) 0 0) (up2 (mJ M) (ad 0 40) 0 (((mI M) (ad 9 47) j1).toInt64))) (ps := [ob (mm M (up2 (mI M) (ad 10 0) 0 0) (up2 (mJ M) (ad 0 40) 0 (((mI M) (ad 9 47) j1).toInt64))) (ad 10 0) 12, mR (mm M (up2 (mI M) (ad 10 0) 0 0) (up2 (mJ M) (ad 0 40) 0 (((mI M) (ad 9 47) j1).toInt64))) (ad 10 0) 47 = some (ad 9 47), va_rf (some (ad 9 47)) = .ref (ad 9 47), ob (mm M (up2 (mI M) (ad 10 0) 0 0) (up2 (mJ M) (ad 0 40) 0 (((mI M) (ad 9 47) j1).toInt64))) (ad 9 47) 15, vp_in (nI j1) (mN (mm M (up2 (mI M) (ad 10 0) 0 0) (up2 (mJ M) (ad 0 40) 0 (((mI M) (ad 9 47) j1).toInt64))) (ad 9 47)), (Value.int ((up2 (mI M) (ad 10 0) 0 0) (ad 9 47) ((nI j1).toNatClampNeg))) = .int ((mI M) (ad 9 47) j1)]) rfl ⟨hM.1, (hM.r 47 15 3), rfl, (hM.o 47 15 3), (vpi (hM.n 47 15 3) (by omega)), congrArg Value.int ((congrArg (fun z => (up2 (mI M) (ad 10 0) 0 0) (ad 9 47) z) (nI_clamp (by omega))).trans ((up2_n _ _ (fun z => absurd (hi _ _ _ _ z.1).1 (by decide))).trans (rfl))), trivial⟩ ?_
              refine go_iret rfl rfl ?_
              exact h2 _ ⟨hsc, ad, nc, nb, nt, wk, nw, nx, nl, ne, nk, kd, true, rfl, rfl, rfl, hW.thr2⟩ (by show up2 (mI M) (ad 10 0) 0 0 (ad 10 0) 0 = 0; simp [up2]) (by show up2 (mJ M) (ad 0 40) 0 _ (ad 0 40) 0 = _; simp [up2])
            · exact absurd ⟨3, by decide, by decide, rfl⟩ c10
          · exact absurd ⟨j1, hj1, rfl⟩ c9
        · -- 4
          show Go 1302 137 0 0 23 [.ref (ad 0 0), .int (nI j1), .int 4, .ref (ad 3 j1)] [.int 1] (mm M (mI M) (mJ M)) R
          refine go_if rfl (fun _ => ?_) (fun (z : ¬ (¬ (1 : Int32) = 0)) => absurd (show ¬ (1 : Int32) = 0 from (by decide)) z)
          refine go_blk 2 [] (pc' := 36) (vs' := [.ref (ad 0 0), .int (nI j1), .int 4, .ref (ad 3 j1)]) (st' := [.int 4, .ref (ad 3 j1)]) (M' := mm M (mI M) (mJ M)) (ps := []) rfl trivial ?_
          refine go_callV rfl rfl rfl (by omega) rfl (by decide) (by decide) (hT j1 (by assumption)).2.1 ?_
          show Go (1302 - 1) 75 0 0 0 [.ref (ad 3 j1), .int 4] [] (mm M (mI M) (mJ M)) _
          refine go_blk 1 [] (pc' := 1) (vs' := [.ref (ad 3 j1), .int 4]) (st' := [.int 4]) (M' := mm M (mI M) (mJ M)) (ps := []) rfl trivial ?_
          refine go_tsw rfl ?_
          refine ⟨fun (z : (4 : Int32) = 0) => absurd z (by decide), fun _ => ?_⟩
          refine ⟨fun (z : (4 : Int32) = 1) => absurd z (by decide), fun _ => ?_⟩
          refine ⟨fun (z : (4 : Int32) = 2) => absurd z (by decide), fun _ => ?_⟩
          refine ⟨fun (z : (4 : Int32) = 3) => absurd z (by decide), fun _ => ?_⟩
          refine ⟨fun _ => ?_, fun z => absurd rfl z⟩
          show Go (1302 - 1) 75 0 0 60 [.ref (ad 3 j1), .int 4] [] (mm M (mI M) (mJ M)) _
          refine go_blk 2 [some (.int ((mI M) (ad 9 48) j1))] (pc' := 64) (vs' := [.ref (ad 3 j1), .int 4]) (st' := [.int ((mI M) (ad 9 48) j1)]) (M' := mm M (mI M) (mJ M)) (ps := [ob (mm M (mI M) (mJ M)) (ad 3 j1) 8, (Value.int ((mI M) (ad 3 j1) 6)) = .int ((mI M) (ad 9 48) j1)]) rfl ⟨(hT j1 (by assumption)).2.1, congrArg Value.int ((iT.1 j1 (by assumption)).1.2.2.2.2.1), trivial⟩ ?_
          refine go_iret rfl rfl ?_
          refine ⟨ne_i, ?_⟩
          show Go 1302 137 0 0 39 [.ref (ad 0 0), .int (nI j1), .int 4, .ref (ad 3 j1)] [.int ((mI M) (ad 9 48) j1)] (mm M (mI M) (mJ M)) R
          refine go_iret rfl rfl ?_
          refine K1 _ _ hM.1 ⟨hF.o 40, Nat.le_of_eq (hF.n 40).symm⟩ rfl (fun R2 h2 => ?_)
          show Go 1311 227 0 0 0 [.ref (ad 10 0), .int (nI j1), .int 4] [] (mm M (mI M) (up2 (mJ M) (ad 0 40) 0 (((mI M) (ad 9 48) j1).toInt64))) R2
          refine go_blk 3 [some (.int 1)] (pc' := 5) (vs' := [.ref (ad 10 0), .int (nI j1), .int 4]) (st' := [.int 1, .ref (ad 10 0)]) (M' := mm M (mI M) (up2 (mJ M) (ad 0 40) 0 (((mI M) (ad 9 48) j1).toInt64))) (ps := [ob (mm M (mI M) (up2 (mJ M) (ad 0 40) 0 (((mI M) (ad 9 48) j1).toInt64))) (ad 10 0) 12, (Value.int ((mI M) (ad 10 0) 21)) = .int 1]) rfl ⟨hM.1, congrArg Value.int op2, trivial⟩ ?_
          refine go_if rfl (fun (z : (1 : Int32) = 0) => absurd z (show ¬ ((1 : Int32) = 0) from (by decide))) (fun _ => ?_)
          refine go_blk 2 [] (pc' := 10) (vs' := [.ref (ad 10 0), .int (nI j1), .int 4]) (st' := [.int (nI j1), .ref (ad 10 0), .ref (ad 10 0)]) (M' := mm M (mI M) (up2 (mJ M) (ad 0 40) 0 (((mI M) (ad 9 48) j1).toInt64))) (ps := []) rfl trivial ?_
          refine go_callV rfl rfl rfl (by omega) rfl (by decide) (by decide) hM.1 ?_
          refine s_Mo_isTeam hM nt2 (Nat.le_trans nt3 (by decide)) (fun j11 hj11 hx11 => ⟨ne_i, ?_⟩) (fun c11 => ⟨ne_i, ?_⟩)
          · -- 1
            show Go 1311 227 0 0 13 [.ref (ad 10 0), .int (nI j1), .int 4] [.int 1, .ref (ad 10 0)] (mm M (mI M) (up2 (mJ M) (ad 0 40) 0 (((mI M) (ad 9 48) j1).toInt64))) R2
            refine go_if rfl (fun (z : (1 : Int32) = 0) => absurd z (show ¬ ((1 : Int32) = 0) from (by decide))) (fun _ => ?_)
            refine go_blk 3 [] (pc' := 19) (vs' := [.ref (ad 10 0), .int (nI j1), .int 4]) (st' := [.int 5, .int 0, .int 4, .ref (ad 10 0)]) (M' := mm M (mI M) (up2 (mJ M) (ad 0 40) 0 (((mI M) (ad 9 48) j1).toInt64))) (ps := []) rfl trivial ?_
            refine go_callS rfl (by decide) rfl rfl (by omega) rfl (by decide) (by decide) ?_
            refine s_Mo_isInK 0 5 (by decide) (by decide) (fun j12 hl12 hj12 hx12 => ⟨ne_i, ?_⟩) (fun c12 => ⟨ne_i, ?_⟩)
            · -- 1
              show Go 1311 227 0 0 22 [.ref (ad 10 0), .int (nI j1), .int 4] [.int 1, .ref (ad 10 0)] (mm M (mI M) (up2 (mJ M) (ad 0 40) 0 (((mI M) (ad 9 48) j1).toInt64))) R2
              refine go_if rfl (fun (z : (1 : Int32) = 0) => absurd z (show ¬ ((1 : Int32) = 0) from (by decide))) (fun _ => ?_)
              refine go_blk 5 [some (.int 0)] (pc' := 37) (vs' := [.ref (ad 10 0), .int (nI j1), .int 4]) (st' := [.int 0]) (M' := mm M (up2 (mI M) (ad 10 0) 0 0) (up2 (mJ M) (ad 0 40) 0 (((mI M) (ad 9 48) j1).toInt64))) (ps := [ob (mm M (mI M) (up2 (mJ M) (ad 0 40) 0 (((mI M) (ad 9 48) j1).toInt64))) (ad 10 0) 12, ob (mm M (up2 (mI M) (ad 10 0) 0 0) (up2 (mJ M) (ad 0 40) 0 (((mI M) (ad 9 48) j1).toInt64))) (ad 10 0) 12, (Value.int ((up2 (mI M) (ad 10 0) 0 0) (ad 10 0) 0)) = .int 0]) rfl ⟨hM.1, hM.1, congrArg Value.int (up2_s _ _ _ _), trivial⟩ ?_
              refine go_if rfl (fun _ => ?_) (fun (z : ¬ ((0 : Int32) ≤ 0)) => absurd (show (0 : Int32) ≤ 0 from (by decide)) z)
              refine go_blk 1 [] (pc' := 43) (vs' := [.ref (ad 10 0), .int (nI j1), .int 4]) (st' := [.int 4]) (M' := mm M (up2 (mI M) (ad 10 0) 0 0) (up2 (mJ M) (ad 0 40) 0 (((mI M) (ad 9 48) j1).toInt64))) (ps := []) rfl trivial ?_
              refine go_tsw rfl ?_
              refine ⟨fun (z : (4 : Int32) = 0) => absurd z (by decide), fun _ => ?_⟩
              refine ⟨fun (z : (4 : Int32) = 1) => absurd z (by decide), fun _ => ?_⟩
              refine ⟨fun (z : (4 : Int32) = 2) => absurd z (by decide), fun _ => ?_⟩
              refine ⟨fun (z : (4 : Int32) = 3) => absurd z (by decide), fun _ => ?_⟩
              refine ⟨fun _ => ?_, fun z => absurd rfl z⟩
              show Go 1311 227 0 0 104 [.ref (ad 10 0), .int (nI j1), .int 4] [] (mm M (up2 (mI M) (ad 10 0) 0 0) (up2 (mJ M) (ad 0 40) 0 (((mI M) (ad 9 48) j1).toInt64))) R2
              refine go_blk 4 [some (.ref (ad 9 48)), some (.int ((mI M) (ad 9 48) j1))] (pc' := 110) (vs' := [.ref (ad 10 0), .int (nI j1), .int 4]) (st' := [.int ((mI M) (ad 9 48) j1)]) (M' := mm M (up2 (mI M) (ad 10 0) 0 0) (up2 (mJ M) (ad 0 40) 0 (((mI M) (ad 9 48) j1).toInt64))) (ps := [ob (mm M (up2 (mI M) (ad 10 0) 0 0) (up2 (mJ M) (ad 0 40) 0 (((mI M) (ad 9 48) j1).toInt64))) (ad 10 0) 12, mR (mm M (up2 (mI M) (ad 10 0) 0 0) (up2 (mJ M) (ad 0 40) 0 (((mI M) (ad 9 48) j1).toInt64))) (ad 10 0) 48 = some (ad 9 48), va_rf (some (ad 9 48)) = .ref (ad 9 48), ob (mm M (up2 (mI M) (ad 10 0) 0 0) (up2 (mJ M) (ad 0 40) 0 (((mI M) (ad 9 48) j1).toInt64))) (ad 9 48) 15, vp_in (nI j1) (mN (mm M (up2 (mI M) (ad 10 0) 0 0) (up2 (mJ M) (ad 0 40) 0 (((mI M) (ad 9 48) j1).toInt64))) (ad 9 48)), (Value.int ((up2 (mI M) (ad 10 0) 0 0) (ad 9 48) ((nI j1).toNatClampNeg))) = .int ((mI M) (ad 9 48) j1)]) rfl ⟨hM.1, (hM.r 48 15 3), rfl, (hM.o 48 15 3), (vpi (hM.n 48 15 3) (by omega)), congrArg Value.int ((congrArg (fun z => (up2 (mI M) (ad 10 0) 0 0) (ad 9 48) z) (nI_clamp (by omega))).trans ((up2_n _ _ (fun z => absurd (hi _ _ _ _ z.1).1 (by decide))).trans (rfl))), trivial⟩ ?_
              refine go_iret rfl rfl ?_
              exact h2 _ ⟨hsc, ad, nc, nb, nt, wk, nw, nx, nl, ne, nk, kd, true, rfl, rfl, rfl, hW.thr2⟩ (by show up2 (mI M) (ad 10 0) 0 0 (ad 10 0) 0 = 0; simp [up2]) (by show up2 (mJ M) (ad 0 40) 0 _ (ad 0 40) 0 = _; simp [up2])
            · exact absurd ⟨4, by decide, by decide, rfl⟩ c12
          · exact absurd ⟨j1, hj1, rfl⟩ c11
        · -- 5
          show Go 1302 137 0 0 23 [.ref (ad 0 0), .int (nI j1), .int 5, .ref (ad 3 j1)] [.int 1] (mm M (mI M) (mJ M)) R
          refine go_if rfl (fun _ => ?_) (fun (z : ¬ (¬ (1 : Int32) = 0)) => absurd (show ¬ (1 : Int32) = 0 from (by decide)) z)
          refine go_blk 2 [] (pc' := 36) (vs' := [.ref (ad 0 0), .int (nI j1), .int 5, .ref (ad 3 j1)]) (st' := [.int 5, .ref (ad 3 j1)]) (M' := mm M (mI M) (mJ M)) (ps := []) rfl trivial ?_
          refine go_callV rfl rfl rfl (by omega) rfl (by decide) (by decide) (hT j1 (by assumption)).2.1 ?_
          show Go (1302 - 1) 75 0 0 0 [.ref (ad 3 j1), .int 5] [] (mm M (mI M) (mJ M)) _
          refine go_blk 1 [] (pc' := 1) (vs' := [.ref (ad 3 j1), .int 5]) (st' := [.int 5]) (M' := mm M (mI M) (mJ M)) (ps := []) rfl trivial ?_
          refine go_tsw rfl ?_
          refine ⟨fun (z : (5 : Int32) = 0) => absurd z (by decide), fun _ => ?_⟩
          refine ⟨fun (z : (5 : Int32) = 1) => absurd z (by decide), fun _ => ?_⟩
          refine ⟨fun (z : (5 : Int32) = 2) => absurd z (by decide), fun _ => ?_⟩
          refine ⟨fun (z : (5 : Int32) = 3) => absurd z (by decide), fun _ => ?_⟩
          refine ⟨fun (z : (5 : Int32) = 4) => absurd z (by decide), fun _ => ?_⟩
          refine ⟨fun _ => ?_, fun z => absurd rfl z⟩
          show Go (1302 - 1) 75 0 0 65 [.ref (ad 3 j1), .int 5] [] (mm M (mI M) (mJ M)) _
          refine go_blk 2 [some (.int ((mI M) (ad 9 49) j1))] (pc' := 69) (vs' := [.ref (ad 3 j1), .int 5]) (st' := [.int ((mI M) (ad 9 49) j1)]) (M' := mm M (mI M) (mJ M)) (ps := [ob (mm M (mI M) (mJ M)) (ad 3 j1) 8, (Value.int ((mI M) (ad 3 j1) 10)) = .int ((mI M) (ad 9 49) j1)]) rfl ⟨(hT j1 (by assumption)).2.1, congrArg Value.int ((iT.1 j1 (by assumption)).1.2.2.2.2.2.2.2.2), trivial⟩ ?_
          refine go_iret rfl rfl ?_
          refine ⟨ne_i, ?_⟩
          show Go 1302 137 0 0 39 [.ref (ad 0 0), .int (nI j1), .int 5, .ref (ad 3 j1)] [.int ((mI M) (ad 9 49) j1)] (mm M (mI M) (mJ M)) R
          refine go_iret rfl rfl ?_
          refine K1 _ _ hM.1 ⟨hF.o 40, Nat.le_of_eq (hF.n 40).symm⟩ rfl (fun R2 h2 => ?_)
          show Go 1311 227 0 0 0 [.ref (ad 10 0), .int (nI j1), .int 5] [] (mm M (mI M) (up2 (mJ M) (ad 0 40) 0 (((mI M) (ad 9 49) j1).toInt64))) R2
          refine go_blk 3 [some (.int 1)] (pc' := 5) (vs' := [.ref (ad 10 0), .int (nI j1), .int 5]) (st' := [.int 1, .ref (ad 10 0)]) (M' := mm M (mI M) (up2 (mJ M) (ad 0 40) 0 (((mI M) (ad 9 49) j1).toInt64))) (ps := [ob (mm M (mI M) (up2 (mJ M) (ad 0 40) 0 (((mI M) (ad 9 49) j1).toInt64))) (ad 10 0) 12, (Value.int ((mI M) (ad 10 0) 21)) = .int 1]) rfl ⟨hM.1, congrArg Value.int op2, trivial⟩ ?_
          refine go_if rfl (fun (z : (1 : Int32) = 0) => absurd z (show ¬ ((1 : Int32) = 0) from (by decide))) (fun _ => ?_)
          refine go_blk 2 [] (pc' := 10) (vs' := [.ref (ad 10 0), .int (nI j1), .int 5]) (st' := [.int (nI j1), .ref (ad 10 0), .ref (ad 10 0)]) (M' := mm M (mI M) (up2 (mJ M) (ad 0 40) 0 (((mI M) (ad 9 49) j1).toInt64))) (ps := []) rfl trivial ?_
          refine go_callV rfl rfl rfl (by omega) rfl (by decide) (by decide) hM.1 ?_
          refine s_Mo_isTeam hM nt2 (Nat.le_trans nt3 (by decide)) (fun j13 hj13 hx13 => ⟨ne_i, ?_⟩) (fun c13 => ⟨ne_i, ?_⟩)
          · -- 1
            show Go 1311 227 0 0 13 [.ref (ad 10 0), .int (nI j1), .int 5] [.int 1, .ref (ad 10 0)] (mm M (mI M) (up2 (mJ M) (ad 0 40) 0 (((mI M) (ad 9 49) j1).toInt64))) R2
            refine go_if rfl (fun (z : (1 : Int32) = 0) => absurd z (show ¬ ((1 : Int32) = 0) from (by decide))) (fun _ => ?_)
            refine go_blk 3 [] (pc' := 19) (vs' := [.ref (ad 10 0), .int (nI j1), .int 5]) (st' := [.int 5, .int 0, .int 5, .ref (ad 10 0)]) (M' := mm M (mI M) (up2 (mJ M) (ad 0 40) 0 (((mI M) (ad 9 49) j1).toInt64))) (ps := []) rfl trivial ?_
            refine go_callS rfl (by decide) rfl rfl (by omega) rfl (by decide) (by decide) ?_
            refine s_Mo_isInK 0 5 (by decide) (by decide) (fun j14 hl14 hj14 hx14 => ⟨ne_i, ?_⟩) (fun c14 => ⟨ne_i, ?_⟩)
            · -- 1
              show Go 1311 227 0 0 22 [.ref (ad 10 0), .int (nI j1), .int 5] [.int 1, .ref (ad 10 0)] (mm M (mI M) (up2 (mJ M) (ad 0 40) 0 (((mI M) (ad 9 49) j1).toInt64))) R2
              refine go_if rfl (fun (z : (1 : Int32) = 0) => absurd z (show ¬ ((1 : Int32) = 0) from (by decide))) (fun _ => ?_)
              refine go_blk 5 [some (.int 0)] (pc' := 37) (vs' := [.ref (ad 10 0), .int (nI j1), .int 5]) (st' := [.int 0]) (M' := mm M (up2 (mI M) (ad 10 0) 0 0) (up2 (mJ M) (ad 0 40) 0 (((mI M) (ad 9 49) j1).toInt64))) (ps := [ob (mm M (mI M) (up2 (mJ M) (ad 0 40) 0 (((mI M) (ad 9 49) j1).toInt64))) (ad 10 0) 12, ob (mm M (up2 (mI M) (ad 10 0) 0 0) (up2 (mJ M) (ad 0 40) 0 (((mI M) (ad 9 49) j1).toInt64))) (ad 10 0) 12, (Value.int ((up2 (mI M) (ad 10 0) 0 0) (ad 10 0) 0)) = .int 0]) rfl ⟨hM.1, hM.1, congrArg Value.int (up2_s _ _ _ _), trivial⟩ ?_
              refine go_if rfl (fun _ => ?_) (fun (z : ¬ ((0 : Int32) ≤ 0)) => absurd (show (0 : Int32) ≤ 0 from (by decide)) z)
              refine go_blk 1 [] (pc' := 43) (vs' := [.ref (ad 10 0), .int (nI j1), .int 5]) (st' := [.int 5]) (M' := mm M (up2 (mI M) (ad 10 0) 0 0) (up2 (mJ M) (ad 0 40) 0 (((mI M) (ad 9 49) j1).toInt64))) (ps := []) rfl trivial ?_
              refine go_tsw rfl ?_
              refine ⟨fun (z : (5 : Int32) = 0) => absurd z (by decide), fun _ => ?_⟩
              refine ⟨fun (z : (5 : Int32) = 1) => absurd z (by decide), fun _ => ?_⟩
              refine ⟨fun (z : (5 : Int32) = 2) => absurd z (by decide), fun _ => ?_⟩
              refine ⟨fun (z : (5 : Int32) = 3) => absurd z (by decide), fun _ => ?_⟩
              refine ⟨fun (z : (5 : Int32) = 4) => absurd z (by decide), fun _ => ?_⟩
              show Go 1311 227 0 0 111 [.ref (ad 10 0), .int (nI j1), .int 5] [] (mm M (up2 (mI M) (ad 10 0) 0 0) (up2 (mJ M) (ad 0 40) 0 (((mI M) (ad 9 49) j1).toInt64))) R2
              refine go_blk 4 [some (.ref (ad 9 49)), some (.int ((mI M) (ad 9 49) j1))] (pc' := 117) (vs' := [.ref (ad 10 0), .int (nI j1), .int 5]) (st' := [.int ((mI M) (ad 9 49) j1)]) (M' := mm M (up2 (mI M) (ad 10 0) 0 0) (up2 (mJ M) (ad 0 40) 0 (((mI M) (ad 9 49) j1).toInt64))) (ps := [ob (mm M (up2 (mI M) (ad 10 0) 0 0) (up2 (mJ M) (ad 0 40) 0 (((mI M) (ad 9 49) j1).toInt64))) (ad 10 0) 12, mR (mm M (up2 (mI M) (ad 10 0) 0 0) (up2 (mJ M) (ad 0 40) 0 (((mI M) (ad 9 49) j1).toInt64))) (ad 10 0) 49 = some (ad 9 49), va_rf (some (ad 9 49)) = .ref (ad 9 49), ob (mm M (up2 (mI M) (ad 10 0) 0 0) (up2 (mJ M) (ad 0 40) 0 (((mI M) (ad 9 49) j1).toInt64))) (ad 9 49) 15, vp_in (nI j1) (mN (mm M (up2 (mI M) (ad 10 0) 0 0) (up2 (mJ M) (ad 0 40) 0 (((mI M) (ad 9 49) j1).toInt64))) (ad 9 49)), (Value.int ((up2 (mI M) (ad 10 0) 0 0) (ad 9 49) ((nI j1).toNatClampNeg))) = .int ((mI M) (ad 9 49) j1)]) rfl ⟨hM.1, (hM.r 49 15 3), rfl, (hM.o 49 15 3), (vpi (hM.n 49 15 3) (by omega)), congrArg Value.int ((congrArg (fun z => (up2 (mI M) (ad 10 0) 0 0) (ad 9 49) z) (nI_clamp (by omega))).trans ((up2_n _ _ (fun z => absurd (hi _ _ _ _ z.1).1 (by decide))).trans (rfl))), trivial⟩ ?_
              refine go_iret rfl rfl ?_
              exact h2 _ ⟨hsc, ad, nc, nb, nt, wk, nw, nx, nl, ne, nk, kd, true, rfl, rfl, rfl, hW.thr2⟩ (by show up2 (mI M) (ad 10 0) 0 0 (ad 10 0) 0 = 0; simp [up2]) (by show up2 (mJ M) (ad 0 40) 0 _ (ad 0 40) 0 = _; simp [up2])
            · exact absurd ⟨5, by decide, by decide, rfl⟩ c14
          · exact absurd ⟨j1, hj1, rfl⟩ c13
      · -- 0
        show Go 1302 137 0 0 23 [.ref (ad 0 0), .int (nI j1), .int a2, .ref (ad 3 j1)] [.int 0] (mm M (mI M) (mJ M)) R
        refine go_if rfl (fun (z : ¬ (0 : Int32) = 0) => absurd z (show ¬ (¬ (0 : Int32) = 0) from (by decide))) (fun _ => ?_)
        refine go_thr rfl ?_
        refine K2 _ hM.1 rfl (fun R2 h2 => ?_)
        show Go 1311 227 0 0 0 [.ref (ad 10 0), .int (nI j1), .int a2] [] (mm M (mI M) (mJ M)) R2
        refine go_blk 3 [some (.int 1)] (pc' := 5) (vs' := [.ref (ad 10 0), .int (nI j1), .int a2]) (st' := [.int 1, .ref (ad 10 0)]) (M' := mm M (mI M) (mJ M)) (ps := [ob (mm M (mI M) (mJ M)) (ad 10 0) 12, (Value.int ((mI M) (ad 10 0) 21)) = .int 1]) rfl ⟨hM.1, congrArg Value.int op2, trivial⟩ ?_
        refine go_if rfl (fun (z : (1 : Int32) = 0) => absurd z (show ¬ ((1 : Int32) = 0) from (by decide))) (fun _ => ?_)
        refine go_blk 2 [] (pc' := 10) (vs' := [.ref (ad 10 0), .int (nI j1), .int a2]) (st' := [.int (nI j1), .ref (ad 10 0), .ref (ad 10 0)]) (M' := mm M (mI M) (mJ M)) (ps := []) rfl trivial ?_
        refine go_callV rfl rfl rfl (by omega) rfl (by decide) (by decide) hM.1 ?_
        refine s_Mo_isTeam hM nt2 (Nat.le_trans nt3 (by decide)) (fun j15 hj15 hx15 => ⟨ne_i, ?_⟩) (fun c15 => ⟨ne_i, ?_⟩)
        · -- 1
          show Go 1311 227 0 0 13 [.ref (ad 10 0), .int (nI j1), .int a2] [.int 1, .ref (ad 10 0)] (mm M (mI M) (mJ M)) R2
          refine go_if rfl (fun (z : (1 : Int32) = 0) => absurd z (show ¬ ((1 : Int32) = 0) from (by decide))) (fun _ => ?_)
          refine go_blk 3 [] (pc' := 19) (vs' := [.ref (ad 10 0), .int (nI j1), .int a2]) (st' := [.int 5, .int 0, .int a2, .ref (ad 10 0)]) (M' := mm M (mI M) (mJ M)) (ps := []) rfl trivial ?_
          refine go_callS rfl (by decide) rfl rfl (by omega) rfl (by decide) (by decide) ?_
          refine s_Mo_isInK 0 5 (by decide) (by decide) (fun j16 hl16 hj16 hx16 => ⟨ne_i, ?_⟩) (fun c16 => ⟨ne_i, ?_⟩)
          · exact absurd ⟨j16, hl16, hj16, hx16⟩ c2
          · -- 0
            show Go 1311 227 0 0 22 [.ref (ad 10 0), .int (nI j1), .int a2] [.int 0, .ref (ad 10 0)] (mm M (mI M) (mJ M)) R2
            refine go_if rfl (fun _ => ?_) (fun (z : ¬ ((0 : Int32) = 0)) => absurd (show (0 : Int32) = 0 from (by decide)) z)
            refine go_blk 4 [some (.int 1)] (pc' := 37) (vs' := [.ref (ad 10 0), .int (nI j1), .int a2]) (st' := [.int 1]) (M' := mm M (up2 (mI M) (ad 10 0) 0 1) (mJ M)) (ps := [ob (mm M (mI M) (mJ M)) (ad 10 0) 12, ob (mm M (up2 (mI M) (ad 10 0) 0 1) (mJ M)) (ad 10 0) 12, (Value.int ((up2 (mI M) (ad 10 0) 0 1) (ad 10 0) 0)) = .int 1]) rfl ⟨hM.1, hM.1, congrArg Value.int (up2_s _ _ _ _), trivial⟩ ?_
            refine go_if rfl (fun (z : (1 : Int32) ≤ 0) => absurd z (show ¬ ((1 : Int32) ≤ 0) from (by decide))) (fun _ => ?_)
            refine go_blk 1 [] (pc' := 41) (vs' := [.ref (ad 10 0), .int (nI j1), .int a2]) (st' := [.int 0]) (M' := mm M (up2 (mI M) (ad 10 0) 0 1) (mJ M)) (ps := []) rfl trivial ?_
            refine go_iret rfl rfl ?_
            exact h2 _ _ ⟨hsc, ad, nc, nb, nt, wk, nw, nx, nl, ne, nk, kd, true, rfl, rfl, rfl, hW.thr⟩ (by show up2 (mI M) (ad 10 0) 0 1 (ad 10 0) 0 = 1; simp [up2])
        · exact absurd ⟨j1, hj1, rfl⟩ c15
        
    · -- ('n',)
      show Go 1302 137 0 0 5 [.ref (ad 0 0), .int a1, .int a2, .retAddr 0] [.null] (mm M (mI M) (mJ M)) R
      refine go_blk 3 [some (.int 1)] (pc' := 10) (vs' := [.ref (ad 0 0), .int a1, .int a2, .null]) (st' := [.int 1]) (M' := mm M (mI M) (mJ M)) (ps := [ob (mm M (mI M) (mJ M)) (ad 0 0) 11, (Value.int ((mI M) (ad 0 0) 8)) = .int 1]) rfl ⟨(hF.o 0), congrArg Value.int op1, trivial⟩ ?_
      refine go_if rfl (fun (z : (1 : Int32) = 0) => absurd z (show ¬ ((1 : Int32) = 0) from (by decide))) (fun _ => ?_)
      refine go_blk 1 [] (pc' := 14) (vs' := [.ref (ad 0 0), .int a1, .int a2, .null]) (st' := [.null]) (M' := mm M (mI M) (mJ M)) (ps := []) rfl trivial ?_
      refine go_ifnull0 rfl ?_
      refine go_thr rfl ?_
      refine K2 _ hM.1 rfl (fun R2 h2 => ?_)
      show Go 1311 227 0 0 0 [.ref (ad 10 0), .int a1, .int a2] [] (mm M (mI M) (mJ M)) R2
      refine go_blk 3 [some (.int 1)] (pc' := 5) (vs' := [.ref (ad 10 0), .int a1, .int a2]) (st' := [.int 1, .ref (ad 10 0)]) (M' := mm M (mI M) (mJ M)) (ps := [ob (mm M (mI M) (mJ M)) (ad 10 0) 12, (Value.int ((mI M) (ad 10 0) 21)) = .int 1]) rfl ⟨hM.1, congrArg Value.int op2, trivial⟩ ?_
      refine go_if rfl (fun (z : (1 : Int32) = 0) => absurd z (show ¬ ((1 : Int32) = 0) from (by decide))) (fun _ => ?_)
      refine go_blk 2 [] (pc' := 10) (vs' := [.ref (ad 10 0), .int a1, .int a2]) (st' := [.int a1, .ref (ad 10 0), .ref (ad 10 0)]) (M' := mm M (mI M) (mJ M)) (ps := []) rfl trivial ?_
      refine go_callV rfl rfl rfl (by omega) rfl (by decide) (by decide) hM.1 ?_
      refine s_Mo_isTeam hM nt2 (Nat.le_trans nt3 (by decide)) (fun j17 hj17 hx17 => ⟨ne_i, ?_⟩) (fun c17 => ⟨ne_i, ?_⟩)
      · exact absurd ⟨j17, hj17, hx17⟩ c1
      · -- 0
        show Go 1311 227 0 0 13 [.ref (ad 10 0), .int a1, .int a2] [.int 0, .ref (ad 10 0)] (mm M (mI M) (mJ M)) R2
        refine go_if rfl (fun _ => ?_) (fun (z : ¬ ((0 : Int32) = 0)) => absurd (show (0 : Int32) = 0 from (by decide)) z)
        refine go_blk 4 [some (.int 1)] (pc' := 37) (vs' := [.ref (ad 10 0), .int a1, .int a2]) (st' := [.int 1]) (M' := mm M (up2 (mI M) (ad 10 0) 0 1) (mJ M)) (ps := [ob (mm M (mI M) (mJ M)) (ad 10 0) 12, ob (mm M (up2 (mI M) (ad 10 0) 0 1) (mJ M)) (ad 10 0) 12, (Value.int ((up2 (mI M) (ad 10 0) 0 1) (ad 10 0) 0)) = .int 1]) rfl ⟨hM.1, hM.1, congrArg Value.int (up2_s _ _ _ _), trivial⟩ ?_
        refine go_if rfl (fun (z : (1 : Int32) ≤ 0) => absurd z (show ¬ ((1 : Int32) ≤ 0) from (by decide))) (fun _ => ?_)
        refine go_blk 1 [] (pc' := 41) (vs' := [.ref (ad 10 0), .int a1, .int a2]) (st' := [.int 0]) (M' := mm M (up2 (mI M) (ad 10 0) 0 1) (mJ M)) (ps := []) rfl trivial ?_
        refine go_iret rfl rfl ?_
        exact h2 _ _ ⟨hsc, ad, nc, nb, nt, wk, nw, nx, nl, ne, nk, kd, true, rfl, rfl, rfl, hW.thr⟩ (by show up2 (mI M) (ad 10 0) 0 1 (ad 10 0) 0 = 1; simp [up2])
      

