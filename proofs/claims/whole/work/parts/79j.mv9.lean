/-! calls: moved, move, both sides -/
theorem mv_gd0 {V : Nat → Nat → Int32} {nc nb w : Nat} {r : Nat × Int32 × (Nat → Int32)} (hnc : nc ≤ 7) (hr : mvS (okQ V) (dsP V) nc (gsL (gsP V w) nb) (frP V nb w) 0 0 (fun _ => -1) none = some r) : GD nc (frP V nb w) (gsL (gsP V w) nb) (fun _ => -1) r.2.2 := by
  rcases mvS_gd hnc _ _ _ _ _ _ _ (gs_nodup _ _) hr with z | z
  · cases z
  · exact z.2
theorem mem_gs {V : Nat → Nat → Int32} {nb w b : Nat} : b ∈ gsL (gsP V w) nb ↔ b < nb ∧ ¬ V 15 b = 0 ∧ V 7 b = nI w ∧ ¬ V 5 (7 * w + (V 6 b).toNatClampNeg) = 0 := by
  unfold gsL
  rw [List.mem_filter, List.mem_range, gsP_of]

set_option maxHeartbeats 20000000 in
set_option maxRecDepth 100000 in
theorem op6 {x o u : Nat} {sc : Nat × Nat × (Nat → Int32)} : Op6 (II x o u sc) x o := by
  intro M a1 hI R K
  obtain ⟨hsc, ad, nc, nb, nt, wk, nw, nx, nl, ne, nk, kd, op, rfl, rfl, rfl, hW⟩ := hI
  obtain ⟨hi, ⟨hF, hM, hC, hB, hT, hX⟩, ⟨iS, iC, iB, iR, iL, iT⟩, ⟨jO, jR, jB, jX, jL⟩, kO, kC, kD, kP, kX⟩ := id hW
  obtain ⟨⟨nc1, nc2, nc3⟩, ⟨nb1, nb2, nb3⟩, ⟨nt1, nt2, nt3⟩, ⟨wk1, wk2, wk3⟩, ⟨nw1, nw2, nw3⟩, ⟨op1, op2, op3⟩, ncm, ncm1, ncm2, ncm3⟩ := id iS
  simp only [vw] at nc1 nc2 nb1 nb2 nt1 nt2 wk1 wk2 nw1 nw2 op1 op2 ncm2 ncm3
  obtain ⟨nn, nn3, nn1, nn2, nnb⟩ := jX.2.1
  simp only [vw] at nn1 nn2
  have nl3 := jL.1.2.2.1
  have nx3 := jX.1.2.2
  have nk3 := jB.1.2.2.2.2.1
  have ne3 := jB.1.2.2.2.2.2
  rcases op with _ | _
  · replace op1 : mI M (ad 0 0) 8 = 0 := op1
    replace op2 : mI M (ad 10 0) 21 = 0 := op2
    show Go 1311 122 0 0 0 [.ref (ad 0 0), .int a1, .retAddr 0] [] (mm M (mI M) (mJ M)) R
    refine go_blk 2 [] (pc' := 2) (vs' := [.ref (ad 0 0), .int a1, .retAddr 0]) (st' := [.int a1, .ref (ad 0 0)]) (M' := mm M (mI M) (mJ M)) (ps := []) rfl trivial ?_
    refine go_callV rfl rfl rfl (by omega) rfl (by decide) (by decide) (hF.o 0) ?_
    refine s_CY_bookingAt (by omega) hF hB nb1 nb3 (fun j1 hj1 hx1 => ⟨ne_a, ?_⟩) (fun c1 => ⟨ne_0, ?_⟩)
    · -- ('r', 'ad 2 j1')
      subst hx1
      obtain ⟨bc1, bd1, be1⟩ := (iB.1 j1 (by assumption)).2.1.1
      obtain ⟨bw1, bx1, by1, bz1⟩ := (iB.1 j1 (by assumption)).2.2.1
      show Go 1311 122 0 0 5 [.ref (ad 0 0), .int (nI j1), .retAddr 0] [.ref (ad 2 j1)] (mm M (mI M) (mJ M)) R
      refine go_blk 2 [] (pc' := 7) (vs' := [.ref (ad 0 0), .int (nI j1), .ref (ad 2 j1)]) (st' := [.ref (ad 2 j1)]) (M' := mm M (mI M) (mJ M)) (ps := []) rfl trivial ?_
      refine go_ifnull1 rfl ?_
      refine go_blk 2 [some (.int ((mI M) (ad 9 15) j1))] (pc' := 14) (vs' := [.ref (ad 0 0), .int (nI j1), .ref (ad 2 j1)]) (st' := [.int ((mI M) (ad 9 15) j1)]) (M' := mm M (mI M) (mJ M)) (ps := [ob (mm M (mI M) (mJ M)) (ad 2 j1) 0, (Value.int ((mI M) (ad 2 j1) 6)) = .int ((mI M) (ad 9 15) j1)]) rfl ⟨(hB j1 (by assumption)).2, congrArg Value.int ((iB.1 j1 (by assumption)).1.2.2.2.2.2.2.1), trivial⟩ ?_
      refine go_if rfl (fun (c2 : ((mI M) (ad 9 15) j1) = 0) => ?_) (fun (c2 : ¬ (((mI M) (ad 9 15) j1) = 0)) => ?_)
      · -- ((mI M) (ad 9 15) j1) = 0
        refine go_blk 1 [] (pc' := 29) (vs' := [.ref (ad 0 0), .int (nI j1), .ref (ad 2 j1)]) (st' := [.int (-1)]) (M' := mm M (mI M) (mJ M)) (ps := []) rfl trivial ?_
        refine go_iret rfl rfl ?_
        refine K _ _ hM.1 rfl (fun R2 h2 => ?_)
        show Go 1311 200 0 0 0 [.ref (ad 10 0), .int (nI j1)] [] (mm M (mI M) (mJ M)) R2
        refine go_blk 5 [] (pc' := 7) (vs' := [.ref (ad 10 0), .int (nI j1)]) (st' := [.int (nI j1), .ref (ad 10 0)]) (M' := mm M (up2 (mI M) (ad 10 0) 0 0) (mJ M)) (ps := [ob (mm M (mI M) (mJ M)) (ad 10 0) 12]) rfl ⟨hM.1, trivial⟩ ?_
        refine go_callV rfl rfl rfl (by omega) rfl (by decide) (by decide) hM.1 ?_
        refine s_Mo_isBooking hM (((up2_n _ _ (fun z => absurd z.2 (by decide))).trans (rfl)).trans nb2) (Nat.le_trans nb3 (by decide)) (fun j3 hj3 hx3 => ⟨ne_i, ?_⟩) (fun c3 => ⟨ne_i, ?_⟩)
        · -- 1
          show Go 1311 200 0 0 10 [.ref (ad 10 0), .int (nI j1)] [.int 1] (mm M (up2 (mI M) (ad 10 0) 0 0) (mJ M)) R2
          refine go_if rfl (fun (z : (1 : Int32) = 0) => absurd z (show ¬ ((1 : Int32) = 0) from (by decide))) (fun _ => ?_)
          refine go_blk 5 [some (.ref (ad 9 7)), some (.int (nI bw1))] (pc' := 20) (vs' := [.ref (ad 10 0), .int (nI j1)]) (st' := [.int (nI bw1), .ref (ad 10 0)]) (M' := mm M (up2 (mI M) (ad 10 0) 0 0) (mJ M)) (ps := [ob (mm M (up2 (mI M) (ad 10 0) 0 0) (mJ M)) (ad 10 0) 12, mR (mm M (up2 (mI M) (ad 10 0) 0 0) (mJ M)) (ad 10 0) 7 = some (ad 9 7), va_rf (some (ad 9 7)) = .ref (ad 9 7), ob (mm M (up2 (mI M) (ad 10 0) 0 0) (mJ M)) (ad 9 7) 15, vp_in (nI j1) (mN (mm M (up2 (mI M) (ad 10 0) 0 0) (mJ M)) (ad 9 7)), (Value.int ((up2 (mI M) (ad 10 0) 0 0) (ad 9 7) ((nI j1).toNatClampNeg))) = .int (nI bw1)]) rfl ⟨hM.1, (hM.r 7 15 60), rfl, (hM.o 7 15 60), (vpi (hM.n 7 15 60) (by omega)), congrArg Value.int ((congrArg (fun z => (up2 (mI M) (ad 10 0) 0 0) (ad 9 7) z) (nI_clamp (by omega))).trans (((up2_n _ _ (fun z => absurd (hi _ _ _ _ z.1).1 (by decide))).trans (rfl)).trans by1)), trivial⟩ ?_
          refine go_callV rfl rfl rfl (by omega) rfl (by decide) (by decide) hM.1 ?_
          refine s_Mo_findMoves (V := (fun i k => mI M (ad 9 i) k)) (nc := nc) (nb := nb) (wk := wk) (lo := wk) (by omega) hM hi nc3 nb3 wk3 ((up2_n _ _ (fun z => absurd z.2 (by decide))).trans nc2) ((up2_n _ _ (fun z => absurd z.2 (by decide))).trans nb2) ((up2_n _ _ (fun z => absurd z.2 (by decide))).trans wk2) (Or.inl ⟨((up2_n _ _ (fun z => absurd z.2 (by decide))).trans op2), rfl⟩) (fun i k _ _ _ => (up2_n _ _ (fun z => absurd (hi _ _ _ _ z.1).1 (by decide)))) (fun b hb => (iB.1 b hb).2.1.1) (fun w4 hl4 hj4 hx4 e4 q4 hr4 he4 h264 h274 hg4 => ⟨ne_i, ?_⟩) (fun hn4 e4 he4 => ⟨ne_i, ?_⟩)
          · -- ('i', '1')
            obtain rfl : bw1 = w4 := (nI_eqs (by omega) (by omega)).mp hx4
            show Go 1311 200 0 0 23 [.ref (ad 10 0), .int (nI j1)] [.int 1] (mm M e4 (mJ M)) R2
            refine go_if rfl (fun (z : (1 : Int32) = 0) => absurd z (show ¬ ((1 : Int32) = 0) from (by decide))) (fun _ => ?_)
            refine go_blk 5 [some (.ref (ad 9 23)), some (.int (q4.2.2 j1))] (pc' := 36) (vs' := [.ref (ad 10 0), .int (nI j1)]) (st' := [.int (q4.2.2 j1)]) (M' := mm M e4 (mJ M)) (ps := [ob (mm M e4 (mJ M)) (ad 10 0) 12, mR (mm M e4 (mJ M)) (ad 10 0) 23 = some (ad 9 23), va_rf (some (ad 9 23)) = .ref (ad 9 23), ob (mm M e4 (mJ M)) (ad 9 23) 15, vp_in (nI j1) (mN (mm M e4 (mJ M)) (ad 9 23)), (Value.int (e4 (ad 9 23) ((nI j1).toNatClampNeg))) = .int (q4.2.2 j1)]) rfl ⟨hM.1, (hM.r 23 15 60), rfl, (hM.o 23 15 60), (vpi (hM.n 23 15 60) (by omega)), congrArg Value.int ((congrArg (fun z => e4 (ad 9 23) z) (nI_clamp (by omega))).trans (hg4 j1 (by assumption))), trivial⟩ ?_
            refine go_iret rfl rfl ?_
            have e9 : (q4.2.2 j1) = (-1) := ((mv_gd0 nc3 hr4).1 j1 (fun z => absurd (mem_gs.mp z).2.1 (not_not_intro (by assumption))))
            rw [e9]
            have hWe : WI (mm M e4 (mJ M)) ad nc nb nt wk nw nx nl ne nk kd false := hW.keep (fun t i k hq => ?_) (fun _ _ _ _ => rfl)
            · exact h2 _ ⟨hsc, ad, nc, nb, nt, wk, nw, nx, nl, ne, nk, kd, false, rfl, rfl, rfl, hWe⟩
            have hn : ¬ (t = 10 ∧ (k = 0 ∨ (25 ≤ k ∧ k ≤ 27))) ∧ ¬ (t = 9 ∧ (i = 22 ∨ i = 23 ∨ i = 24)) ∧ ¬ (t = 0 ∧ (i = 6 ∨ (11 ≤ i ∧ i ≤ 15))) := by
              simp only [irr, Bool.or_eq_false_iff, Bool.and_eq_false_iff, beq_eq_false_iff_ne, decide_eq_false_iff_not, ne_eq] at hq
              omega
            show e4 (ad t i) k = mI M (ad t i) k
            rw [he4 _ _ (fun z => hn.1 ⟨(hi _ _ _ _ z.1).1, z.2⟩) (fun z => hn.2.1 ⟨(hi _ _ _ _ z).1, by have := (hi _ _ _ _ z).2; omega⟩) (fun z => hn.2.1 ⟨(hi _ _ _ _ z).1, by have := (hi _ _ _ _ z).2; omega⟩) (fun z => hn.2.1 ⟨(hi _ _ _ _ z).1, by have := (hi _ _ _ _ z).2; omega⟩)]
            exact up2_n _ _ (fun z => hn.1 ⟨(hi _ _ _ _ z.1).1, Or.inl z.2⟩)
          · -- ('i', '0')
            show Go 1311 200 0 0 23 [.ref (ad 10 0), .int (nI j1)] [.int 0] (mm M e4 (mJ M)) R2
            refine go_if rfl (fun _ => ?_) (fun (z : ¬ ((0 : Int32) = 0)) => absurd (show (0 : Int32) = 0 from (by decide)) z)
            refine go_blk 1 [] (pc' := 36) (vs' := [.ref (ad 10 0), .int (nI j1)]) (st' := [.int (-1)]) (M' := mm M e4 (mJ M)) (ps := []) rfl trivial ?_
            refine go_iret rfl rfl ?_
            have hWe : WI (mm M e4 (mJ M)) ad nc nb nt wk nw nx nl ne nk kd false := hW.keep (fun t i k hq => ?_) (fun _ _ _ _ => rfl)
            · exact h2 _ ⟨hsc, ad, nc, nb, nt, wk, nw, nx, nl, ne, nk, kd, false, rfl, rfl, rfl, hWe⟩
            have hn : ¬ (t = 10 ∧ (k = 0 ∨ (25 ≤ k ∧ k ≤ 27))) ∧ ¬ (t = 9 ∧ (i = 22 ∨ i = 23 ∨ i = 24)) ∧ ¬ (t = 0 ∧ (i = 6 ∨ (11 ≤ i ∧ i ≤ 15))) := by
              simp only [irr, Bool.or_eq_false_iff, Bool.and_eq_false_iff, beq_eq_false_iff_ne, decide_eq_false_iff_not, ne_eq] at hq
              omega
            show e4 (ad t i) k = mI M (ad t i) k
            rw [he4 _ _ (fun z => hn.1 ⟨(hi _ _ _ _ z.1).1, z.2⟩) (fun z => hn.2.1 ⟨(hi _ _ _ _ z).1, by have := (hi _ _ _ _ z).2; omega⟩) (fun z => hn.2.1 ⟨(hi _ _ _ _ z).1, by have := (hi _ _ _ _ z).2; omega⟩) (fun z => hn.2.1 ⟨(hi _ _ _ _ z).1, by have := (hi _ _ _ _ z).2; omega⟩)]
            exact up2_n _ _ (fun z => hn.1 ⟨(hi _ _ _ _ z.1).1, Or.inl z.2⟩)
        · exact absurd ⟨j1, hj1, rfl⟩ c3
      · -- ¬ (((mI M) (ad 9 15) j1) = 0)
        refine go_blk 3 [some (.int (nI bw1))] (pc' := 22) (vs' := [.ref (ad 0 0), .int (nI j1), .ref (ad 2 j1)]) (st' := [.int (nI bw1), .ref (ad 0 0)]) (M' := mm M (mI M) (mJ M)) (ps := [ob (mm M (mI M) (mJ M)) (ad 2 j1) 0, (Value.int ((mI M) (ad 2 j1) 1)) = .int (nI bw1)]) rfl ⟨(hB j1 (by assumption)).2, congrArg Value.int ((iB.1 j1 (by assumption)).1.2.1.trans by1), trivial⟩ ?_
        refine go_callV rfl rfl rfl (by omega) rfl (by decide) (by decide) (hF.o 0) ?_
        refine s_CY_isToComeK (wk := wk) (lo := wk) (by omega) hF wk1 wk3 (Or.inl ⟨op1, rfl⟩) (fun j5 hl5 hj5 hx5 => ⟨ne_i, ?_⟩) (fun c5 => ⟨ne_i, ?_⟩)
        · -- 1
          obtain rfl : bw1 = j5 := (nI_eqs (by omega) (by omega)).mp hx5
          show Go 1311 122 0 0 25 [.ref (ad 0 0), .int (nI j1), .ref (ad 2 j1)] [.int 1] (mm M (mI M) (mJ M)) R
          refine go_if rfl (fun _ => ?_) (fun (z : ¬ (¬ (1 : Int32) = 0)) => absurd (show ¬ (1 : Int32) = 0 from (by decide)) z)
          refine go_blk 3 [some (.int (nI bw1))] (pc' := 35) (vs' := [.ref (ad 0 0), .int (nI j1), .ref (ad 2 j1)]) (st' := [.int (nI bw1), .ref (ad 0 0)]) (M' := mm M (mI M) (mJ M)) (ps := [ob (mm M (mI M) (mJ M)) (ad 2 j1) 0, (Value.int ((mI M) (ad 2 j1) 1)) = .int (nI bw1)]) rfl ⟨(hB j1 (by assumption)).2, congrArg Value.int ((iB.1 j1 (by assumption)).1.2.1.trans by1), trivial⟩ ?_
          refine go_callV rfl rfl rfl (by omega) rfl (by decide) (by decide) (hF.o 0) ?_
          refine s_CY_findMoves (by omega) hW (by omega) (fun r6 F6 f6 hr6 hF6 hG6 hC6 => ⟨ne_v, ?_⟩)
          · -- ('v',)
            obtain ⟨rb, hrb⟩ := mvS_some (ok := okQ (fun i k => mI M (ad 9 i) k)) (ds := dsP (fun i k => mI M (ad 9 i) k)) (nc := nc) (gsL (gsP (fun i k => mI M (ad 9 i) k) bw1) nb) (frP (fun i k => mI M (ad 9 i) k) nb bw1) 0 0 (fun _ => -1) none
            rw [hrb] at hC6
            have hra : ∀ t i k, ¬ irR t i k → r6 (ad t i) k = mR M (ad t i) k := fun t i k z => hr6 _ _ (fun y => z (Or.inl ⟨(hi _ _ _ _ y).1, Or.inl (hi _ _ _ _ y).2⟩)) (fun y => z (Or.inl ⟨(hi _ _ _ _ y).1, Or.inr (hi _ _ _ _ y).2⟩))
            have hW2 := hW.mr hra
            have hF := hW2.2.1.1
            have hM := hW2.2.1.2.1
            have hfm : ∀ x k, ¬ x = ad 0 6 → ¬ x = ad 0 12 → ¬ x = ad 0 14 → ¬ x = ad 0 15 → f6 x k = mI M x k := fun x k z1 z2 z3 z4 => (hC6.1 x k (fun z => z1 z.1) z2 z3 z4).trans (hF6 x k z1 z2)
            have hfo : ∀ t i k, ¬ t = 0 → f6 (ad t i) k = mI M (ad t i) k := fun t i k z => hfm _ _ (fun y => z (hi _ _ _ _ y).1) (fun y => z (hi _ _ _ _ y).1) (fun y => z (hi _ _ _ _ y).1) (fun y => z (hi _ _ _ _ y).1)
            show Go 1311 122 0 0 38 [.ref (ad 0 0), .int (nI j1), .ref (ad 2 j1)] [] (mm (mr M r6) f6 (mJ M)) R
            refine go_blk 3 [some (.ref (ad 0 6))] (pc' := 43) (vs' := [.ref (ad 0 0), .int (nI j1), .ref (ad 2 j1)]) (st' := [.ref (ad 2 j1), .ref (ad 0 6)]) (M' := mm (mr M r6) f6 (mJ M)) (ps := [ob (mm (mr M r6) f6 (mJ M)) (ad 0 0) 11, mR (mm (mr M r6) f6 (mJ M)) (ad 0 0) 13 = some (ad 0 6), va_rf (some (ad 0 6)) = .ref (ad 0 6)]) rfl ⟨(hF.o 0), (hF.r 0 13 6), rfl, trivial⟩ ?_
            refine go_callV rfl rfl rfl (by omega) rfl (by decide) (by decide) (hF.o 6) ?_
            refine s_Mv_goalOf hG6 hC6 (by assumption) (fun z => (mv_gd0 nc3 hrb).1 j1 z) ⟨ne_i, ?_⟩
            show Go 1311 122 0 0 46 [.ref (ad 0 0), .int (nI j1), .ref (ad 2 j1)] [.int (rb.2.2 j1)] (mm (mr M r6) f6 (mJ M)) R
            refine go_iret rfl rfl ?_
            refine K _ _ hM.1 rfl (fun R2 h2 => ?_)
            show Go 1311 200 0 0 0 [.ref (ad 10 0), .int (nI j1)] [] (mm (mr M r6) f6 (mJ M)) R2
            refine go_blk 5 [] (pc' := 7) (vs' := [.ref (ad 10 0), .int (nI j1)]) (st' := [.int (nI j1), .ref (ad 10 0)]) (M' := mm (mr M r6) (up2 f6 (ad 10 0) 0 0) (mJ M)) (ps := [ob (mm (mr M r6) f6 (mJ M)) (ad 10 0) 12]) rfl ⟨hM.1, trivial⟩ ?_
            refine go_callV rfl rfl rfl (by omega) rfl (by decide) (by decide) hM.1 ?_
            refine s_Mo_isBooking hM (((up2_n _ _ (fun z => absurd z.2 (by decide))).trans (rfl)).trans ((hfo 10 0 18 (by decide)).trans nb2)) (Nat.le_trans nb3 (by decide)) (fun j7 hj7 hx7 => ⟨ne_i, ?_⟩) (fun c7 => ⟨ne_i, ?_⟩)
            · -- 1
              show Go 1311 200 0 0 10 [.ref (ad 10 0), .int (nI j1)] [.int 1] (mm (mr M r6) (up2 f6 (ad 10 0) 0 0) (mJ M)) R2
              refine go_if rfl (fun (z : (1 : Int32) = 0) => absurd z (show ¬ ((1 : Int32) = 0) from (by decide))) (fun _ => ?_)
              refine go_blk 5 [some (.ref (ad 9 7)), some (.int (nI bw1))] (pc' := 20) (vs' := [.ref (ad 10 0), .int (nI j1)]) (st' := [.int (nI bw1), .ref (ad 10 0)]) (M' := mm (mr M r6) (up2 f6 (ad 10 0) 0 0) (mJ M)) (ps := [ob (mm (mr M r6) (up2 f6 (ad 10 0) 0 0) (mJ M)) (ad 10 0) 12, mR (mm (mr M r6) (up2 f6 (ad 10 0) 0 0) (mJ M)) (ad 10 0) 7 = some (ad 9 7), va_rf (some (ad 9 7)) = .ref (ad 9 7), ob (mm (mr M r6) (up2 f6 (ad 10 0) 0 0) (mJ M)) (ad 9 7) 15, vp_in (nI j1) (mN (mm (mr M r6) (up2 f6 (ad 10 0) 0 0) (mJ M)) (ad 9 7)), (Value.int ((up2 f6 (ad 10 0) 0 0) (ad 9 7) ((nI j1).toNatClampNeg))) = .int (nI bw1)]) rfl ⟨hM.1, (hM.r 7 15 60), rfl, (hM.o 7 15 60), (vpi (hM.n 7 15 60) (by omega)), congrArg Value.int ((congrArg (fun z => (up2 f6 (ad 10 0) 0 0) (ad 9 7) z) (nI_clamp (by omega))).trans (((up2_n _ _ (fun z => absurd (hi _ _ _ _ z.1).1 (by decide))).trans (rfl)).trans ((hfo 9 7 j1 (by decide)).trans by1))), trivial⟩ ?_
              refine go_callV rfl rfl rfl (by omega) rfl (by decide) (by decide) hM.1 ?_
              refine s_Mo_findMoves (V := (fun i k => mI M (ad 9 i) k)) (nc := nc) (nb := nb) (wk := wk) (lo := wk) (by omega) hM hi nc3 nb3 wk3 ((up2_n _ _ (fun z => absurd z.2 (by decide))).trans ((hfo 10 0 17 (by decide)).trans nc2)) ((up2_n _ _ (fun z => absurd z.2 (by decide))).trans ((hfo 10 0 18 (by decide)).trans nb2)) ((up2_n _ _ (fun z => absurd z.2 (by decide))).trans ((hfo 10 0 19 (by decide)).trans wk2)) (Or.inl ⟨((up2_n _ _ (fun z => absurd z.2 (by decide))).trans ((hfo 10 0 21 (by decide)).trans op2)), rfl⟩) (fun i k _ _ _ => (up2_n _ _ (fun z => absurd (hi _ _ _ _ z.1).1 (by decide))).trans (hfo 9 i k (by decide))) (fun b hb => (iB.1 b hb).2.1.1) (fun w8 hl8 hj8 hx8 e8 q8 hr8 he8 h268 h278 hg8 => ⟨ne_i, ?_⟩) (fun hn8 e8 he8 => ⟨ne_i, ?_⟩)
              · -- ('i', '1')
                obtain rfl : bw1 = w8 := (nI_eqs (by omega) (by omega)).mp hx8
                obtain rfl : rb = q8 := by rw [hrb] at hr8; exact Option.some.inj hr8
                show Go 1311 200 0 0 23 [.ref (ad 10 0), .int (nI j1)] [.int 1] (mm (mr M r6) e8 (mJ M)) R2
                refine go_if rfl (fun (z : (1 : Int32) = 0) => absurd z (show ¬ ((1 : Int32) = 0) from (by decide))) (fun _ => ?_)
                refine go_blk 5 [some (.ref (ad 9 23)), some (.int (rb.2.2 j1))] (pc' := 36) (vs' := [.ref (ad 10 0), .int (nI j1)]) (st' := [.int (rb.2.2 j1)]) (M' := mm (mr M r6) e8 (mJ M)) (ps := [ob (mm (mr M r6) e8 (mJ M)) (ad 10 0) 12, mR (mm (mr M r6) e8 (mJ M)) (ad 10 0) 23 = some (ad 9 23), va_rf (some (ad 9 23)) = .ref (ad 9 23), ob (mm (mr M r6) e8 (mJ M)) (ad 9 23) 15, vp_in (nI j1) (mN (mm (mr M r6) e8 (mJ M)) (ad 9 23)), (Value.int (e8 (ad 9 23) ((nI j1).toNatClampNeg))) = .int (rb.2.2 j1)]) rfl ⟨hM.1, (hM.r 23 15 60), rfl, (hM.o 23 15 60), (vpi (hM.n 23 15 60) (by omega)), congrArg Value.int ((congrArg (fun z => e8 (ad 9 23) z) (nI_clamp (by omega))).trans (hg8 j1 (by assumption))), trivial⟩ ?_
                refine go_iret rfl rfl ?_
                have hWe : WI (mm (mr M r6) e8 (mJ M)) ad nc nb nt wk nw nx nl ne nk kd false := hW2.keep (fun t i k hq => ?_) (fun _ _ _ _ => rfl)
                · exact h2 _ ⟨hsc, ad, nc, nb, nt, wk, nw, nx, nl, ne, nk, kd, false, rfl, rfl, rfl, hWe⟩
                have hn : ¬ (t = 10 ∧ (k = 0 ∨ (25 ≤ k ∧ k ≤ 27))) ∧ ¬ (t = 9 ∧ (i = 22 ∨ i = 23 ∨ i = 24)) ∧ ¬ (t = 0 ∧ (i = 6 ∨ (11 ≤ i ∧ i ≤ 15))) := by
                  simp only [irr, Bool.or_eq_false_iff, Bool.and_eq_false_iff, beq_eq_false_iff_ne, decide_eq_false_iff_not, ne_eq] at hq
                  omega
                show e8 (ad t i) k = mI M (ad t i) k
                rw [he8 _ _ (fun z => hn.1 ⟨(hi _ _ _ _ z.1).1, z.2⟩) (fun z => hn.2.1 ⟨(hi _ _ _ _ z).1, by have := (hi _ _ _ _ z).2; omega⟩) (fun z => hn.2.1 ⟨(hi _ _ _ _ z).1, by have := (hi _ _ _ _ z).2; omega⟩) (fun z => hn.2.1 ⟨(hi _ _ _ _ z).1, by have := (hi _ _ _ _ z).2; omega⟩)]
                rw [up2_n _ _ (fun z => hn.1 ⟨(hi _ _ _ _ z.1).1, Or.inl z.2⟩)]
                exact hfm _ _ (fun z => hn.2.2 (by have := hi _ _ _ _ z; omega)) (fun z => hn.2.2 (by have := hi _ _ _ _ z; omega)) (fun z => hn.2.2 (by have := hi _ _ _ _ z; omega)) (fun z => hn.2.2 (by have := hi _ _ _ _ z; omega))
              · -- ('i', '0')
                exact absurd ⟨bw1, hl5, hj5, rfl⟩ hn8
            · exact absurd ⟨j1, hj1, rfl⟩ c7
        · -- 0
          show Go 1311 122 0 0 25 [.ref (ad 0 0), .int (nI j1), .ref (ad 2 j1)] [.int 0] (mm M (mI M) (mJ M)) R
          refine go_if rfl (fun (z : ¬ (0 : Int32) = 0) => absurd z (show ¬ (¬ (0 : Int32) = 0) from (by decide))) (fun _ => ?_)
          refine go_blk 1 [] (pc' := 29) (vs' := [.ref (ad 0 0), .int (nI j1), .ref (ad 2 j1)]) (st' := [.int (-1)]) (M' := mm M (mI M) (mJ M)) (ps := []) rfl trivial ?_
          refine go_iret rfl rfl ?_
          refine K _ _ hM.1 rfl (fun R2 h2 => ?_)
          show Go 1311 200 0 0 0 [.ref (ad 10 0), .int (nI j1)] [] (mm M (mI M) (mJ M)) R2
          refine go_blk 5 [] (pc' := 7) (vs' := [.ref (ad 10 0), .int (nI j1)]) (st' := [.int (nI j1), .ref (ad 10 0)]) (M' := mm M (up2 (mI M) (ad 10 0) 0 0) (mJ M)) (ps := [ob (mm M (mI M) (mJ M)) (ad 10 0) 12]) rfl ⟨hM.1, trivial⟩ ?_
          refine go_callV rfl rfl rfl (by omega) rfl (by decide) (by decide) hM.1 ?_
          refine s_Mo_isBooking hM (((up2_n _ _ (fun z => absurd z.2 (by decide))).trans (rfl)).trans nb2) (Nat.le_trans nb3 (by decide)) (fun j9 hj9 hx9 => ⟨ne_i, ?_⟩) (fun c9 => ⟨ne_i, ?_⟩)
          · -- 1
            show Go 1311 200 0 0 10 [.ref (ad 10 0), .int (nI j1)] [.int 1] (mm M (up2 (mI M) (ad 10 0) 0 0) (mJ M)) R2
            refine go_if rfl (fun (z : (1 : Int32) = 0) => absurd z (show ¬ ((1 : Int32) = 0) from (by decide))) (fun _ => ?_)
            refine go_blk 5 [some (.ref (ad 9 7)), some (.int (nI bw1))] (pc' := 20) (vs' := [.ref (ad 10 0), .int (nI j1)]) (st' := [.int (nI bw1), .ref (ad 10 0)]) (M' := mm M (up2 (mI M) (ad 10 0) 0 0) (mJ M)) (ps := [ob (mm M (up2 (mI M) (ad 10 0) 0 0) (mJ M)) (ad 10 0) 12, mR (mm M (up2 (mI M) (ad 10 0) 0 0) (mJ M)) (ad 10 0) 7 = some (ad 9 7), va_rf (some (ad 9 7)) = .ref (ad 9 7), ob (mm M (up2 (mI M) (ad 10 0) 0 0) (mJ M)) (ad 9 7) 15, vp_in (nI j1) (mN (mm M (up2 (mI M) (ad 10 0) 0 0) (mJ M)) (ad 9 7)), (Value.int ((up2 (mI M) (ad 10 0) 0 0) (ad 9 7) ((nI j1).toNatClampNeg))) = .int (nI bw1)]) rfl ⟨hM.1, (hM.r 7 15 60), rfl, (hM.o 7 15 60), (vpi (hM.n 7 15 60) (by omega)), congrArg Value.int ((congrArg (fun z => (up2 (mI M) (ad 10 0) 0 0) (ad 9 7) z) (nI_clamp (by omega))).trans (((up2_n _ _ (fun z => absurd (hi _ _ _ _ z.1).1 (by decide))).trans (rfl)).trans by1)), trivial⟩ ?_
            refine go_callV rfl rfl rfl (by omega) rfl (by decide) (by decide) hM.1 ?_
            refine s_Mo_findMoves (V := (fun i k => mI M (ad 9 i) k)) (nc := nc) (nb := nb) (wk := wk) (lo := wk) (by omega) hM hi nc3 nb3 wk3 ((up2_n _ _ (fun z => absurd z.2 (by decide))).trans nc2) ((up2_n _ _ (fun z => absurd z.2 (by decide))).trans nb2) ((up2_n _ _ (fun z => absurd z.2 (by decide))).trans wk2) (Or.inl ⟨((up2_n _ _ (fun z => absurd z.2 (by decide))).trans op2), rfl⟩) (fun i k _ _ _ => (up2_n _ _ (fun z => absurd (hi _ _ _ _ z.1).1 (by decide)))) (fun b hb => (iB.1 b hb).2.1.1) (fun w10 hl10 hj10 hx10 e10 q10 hr10 he10 h2610 h2710 hg10 => ⟨ne_i, ?_⟩) (fun hn10 e10 he10 => ⟨ne_i, ?_⟩)
            · -- ('i', '1')
              exact absurd ⟨w10, hl10, hj10, hx10⟩ c5
            · -- ('i', '0')
              show Go 1311 200 0 0 23 [.ref (ad 10 0), .int (nI j1)] [.int 0] (mm M e10 (mJ M)) R2
              refine go_if rfl (fun _ => ?_) (fun (z : ¬ ((0 : Int32) = 0)) => absurd (show (0 : Int32) = 0 from (by decide)) z)
              refine go_blk 1 [] (pc' := 36) (vs' := [.ref (ad 10 0), .int (nI j1)]) (st' := [.int (-1)]) (M' := mm M e10 (mJ M)) (ps := []) rfl trivial ?_
              refine go_iret rfl rfl ?_
              have hWe : WI (mm M e10 (mJ M)) ad nc nb nt wk nw nx nl ne nk kd false := hW.keep (fun t i k hq => ?_) (fun _ _ _ _ => rfl)
              · exact h2 _ ⟨hsc, ad, nc, nb, nt, wk, nw, nx, nl, ne, nk, kd, false, rfl, rfl, rfl, hWe⟩
              have hn : ¬ (t = 10 ∧ (k = 0 ∨ (25 ≤ k ∧ k ≤ 27))) ∧ ¬ (t = 9 ∧ (i = 22 ∨ i = 23 ∨ i = 24)) ∧ ¬ (t = 0 ∧ (i = 6 ∨ (11 ≤ i ∧ i ≤ 15))) := by
                simp only [irr, Bool.or_eq_false_iff, Bool.and_eq_false_iff, beq_eq_false_iff_ne, decide_eq_false_iff_not, ne_eq] at hq
                omega
              show e10 (ad t i) k = mI M (ad t i) k
              rw [he10 _ _ (fun z => hn.1 ⟨(hi _ _ _ _ z.1).1, z.2⟩) (fun z => hn.2.1 ⟨(hi _ _ _ _ z).1, by have := (hi _ _ _ _ z).2; omega⟩) (fun z => hn.2.1 ⟨(hi _ _ _ _ z).1, by have := (hi _ _ _ _ z).2; omega⟩) (fun z => hn.2.1 ⟨(hi _ _ _ _ z).1, by have := (hi _ _ _ _ z).2; omega⟩)]
              exact up2_n _ _ (fun z => hn.1 ⟨(hi _ _ _ _ z.1).1, Or.inl z.2⟩)
          · exact absurd ⟨j1, hj1, rfl⟩ c9
    · -- ('n',)
      show Go 1311 122 0 0 5 [.ref (ad 0 0), .int a1, .retAddr 0] [.null] (mm M (mI M) (mJ M)) R
      refine go_blk 2 [] (pc' := 7) (vs' := [.ref (ad 0 0), .int a1, .null]) (st' := [.null]) (M' := mm M (mI M) (mJ M)) (ps := []) rfl trivial ?_
      refine go_ifnull0 rfl ?_
      refine go_blk 1 [] (pc' := 29) (vs' := [.ref (ad 0 0), .int a1, .null]) (st' := [.int (-1)]) (M' := mm M (mI M) (mJ M)) (ps := []) rfl trivial ?_
      refine go_iret rfl rfl ?_
      refine K _ _ hM.1 rfl (fun R2 h2 => ?_)
      show Go 1311 200 0 0 0 [.ref (ad 10 0), .int a1] [] (mm M (mI M) (mJ M)) R2
      refine go_blk 5 [] (pc' := 7) (vs' := [.ref (ad 10 0), .int a1]) (st' := [.int a1, .ref (ad 10 0)]) (M' := mm M (up2 (mI M) (ad 10 0) 0 0) (mJ M)) (ps := [ob (mm M (mI M) (mJ M)) (ad 10 0) 12]) rfl ⟨hM.1, trivial⟩ ?_
      refine go_callV rfl rfl rfl (by omega) rfl (by decide) (by decide) hM.1 ?_
      refine s_Mo_isBooking hM (((up2_n _ _ (fun z => absurd z.2 (by decide))).trans (rfl)).trans nb2) (Nat.le_trans nb3 (by decide)) (fun j11 hj11 hx11 => ⟨ne_i, ?_⟩) (fun c11 => ⟨ne_i, ?_⟩)
      · exact absurd ⟨j11, hj11, hx11⟩ c1
      · -- 0
        show Go 1311 200 0 0 10 [.ref (ad 10 0), .int a1] [.int 0] (mm M (up2 (mI M) (ad 10 0) 0 0) (mJ M)) R2
        refine go_if rfl (fun _ => ?_) (fun (z : ¬ ((0 : Int32) = 0)) => absurd (show (0 : Int32) = 0 from (by decide)) z)
        refine go_blk 1 [] (pc' := 36) (vs' := [.ref (ad 10 0), .int a1]) (st' := [.int (-1)]) (M' := mm M (up2 (mI M) (ad 10 0) 0 0) (mJ M)) (ps := []) rfl trivial ?_
        refine go_iret rfl rfl ?_
        exact h2 _ ⟨hsc, ad, nc, nb, nt, wk, nw, nx, nl, ne, nk, kd, false, rfl, rfl, rfl, hW.thr⟩
  · replace op1 : mI M (ad 0 0) 8 = 1 := op1
    replace op2 : mI M (ad 10 0) 21 = 1 := op2
    replace op3 : wk < 52 := op3 rfl
    show Go 1311 122 0 0 0 [.ref (ad 0 0), .int a1, .retAddr 0] [] (mm M (mI M) (mJ M)) R
    refine go_blk 2 [] (pc' := 2) (vs' := [.ref (ad 0 0), .int a1, .retAddr 0]) (st' := [.int a1, .ref (ad 0 0)]) (M' := mm M (mI M) (mJ M)) (ps := []) rfl trivial ?_
    refine go_callV rfl rfl rfl (by omega) rfl (by decide) (by decide) (hF.o 0) ?_
    refine s_CY_bookingAt (by omega) hF hB nb1 nb3 (fun j1 hj1 hx1 => ⟨ne_a, ?_⟩) (fun c1 => ⟨ne_0, ?_⟩)
    · -- ('r', 'ad 2 j1')
      subst hx1
      obtain ⟨bc1, bd1, be1⟩ := (iB.1 j1 (by assumption)).2.1.1
      obtain ⟨bw1, bx1, by1, bz1⟩ := (iB.1 j1 (by assumption)).2.2.1
      show Go 1311 122 0 0 5 [.ref (ad 0 0), .int (nI j1), .retAddr 0] [.ref (ad 2 j1)] (mm M (mI M) (mJ M)) R
      refine go_blk 2 [] (pc' := 7) (vs' := [.ref (ad 0 0), .int (nI j1), .ref (ad 2 j1)]) (st' := [.ref (ad 2 j1)]) (M' := mm M (mI M) (mJ M)) (ps := []) rfl trivial ?_
      refine go_ifnull1 rfl ?_
      refine go_blk 2 [some (.int ((mI M) (ad 9 15) j1))] (pc' := 14) (vs' := [.ref (ad 0 0), .int (nI j1), .ref (ad 2 j1)]) (st' := [.int ((mI M) (ad 9 15) j1)]) (M' := mm M (mI M) (mJ M)) (ps := [ob (mm M (mI M) (mJ M)) (ad 2 j1) 0, (Value.int ((mI M) (ad 2 j1) 6)) = .int ((mI M) (ad 9 15) j1)]) rfl ⟨(hB j1 (by assumption)).2, congrArg Value.int ((iB.1 j1 (by assumption)).1.2.2.2.2.2.2.1), trivial⟩ ?_
      refine go_if rfl (fun (c2 : ((mI M) (ad 9 15) j1) = 0) => ?_) (fun (c2 : ¬ (((mI M) (ad 9 15) j1) = 0)) => ?_)
      · -- ((mI M) (ad 9 15) j1) = 0
        refine go_blk 1 [] (pc' := 29) (vs' := [.ref (ad 0 0), .int (nI j1), .ref (ad 2 j1)]) (st' := [.int (-1)]) (M' := mm M (mI M) (mJ M)) (ps := []) rfl trivial ?_
        refine go_iret rfl rfl ?_
        refine K _ _ hM.1 rfl (fun R2 h2 => ?_)
        show Go 1311 200 0 0 0 [.ref (ad 10 0), .int (nI j1)] [] (mm M (mI M) (mJ M)) R2
        refine go_blk 5 [] (pc' := 7) (vs' := [.ref (ad 10 0), .int (nI j1)]) (st' := [.int (nI j1), .ref (ad 10 0)]) (M' := mm M (up2 (mI M) (ad 10 0) 0 0) (mJ M)) (ps := [ob (mm M (mI M) (mJ M)) (ad 10 0) 12]) rfl ⟨hM.1, trivial⟩ ?_
        refine go_callV rfl rfl rfl (by omega) rfl (by decide) (by decide) hM.1 ?_
        refine s_Mo_isBooking hM (((up2_n _ _ (fun z => absurd z.2 (by decide))).trans (rfl)).trans nb2) (Nat.le_trans nb3 (by decide)) (fun j3 hj3 hx3 => ⟨ne_i, ?_⟩) (fun c3 => ⟨ne_i, ?_⟩)
        · -- 1
          show Go 1311 200 0 0 10 [.ref (ad 10 0), .int (nI j1)] [.int 1] (mm M (up2 (mI M) (ad 10 0) 0 0) (mJ M)) R2
          refine go_if rfl (fun (z : (1 : Int32) = 0) => absurd z (show ¬ ((1 : Int32) = 0) from (by decide))) (fun _ => ?_)
          refine go_blk 5 [some (.ref (ad 9 7)), some (.int (nI bw1))] (pc' := 20) (vs' := [.ref (ad 10 0), .int (nI j1)]) (st' := [.int (nI bw1), .ref (ad 10 0)]) (M' := mm M (up2 (mI M) (ad 10 0) 0 0) (mJ M)) (ps := [ob (mm M (up2 (mI M) (ad 10 0) 0 0) (mJ M)) (ad 10 0) 12, mR (mm M (up2 (mI M) (ad 10 0) 0 0) (mJ M)) (ad 10 0) 7 = some (ad 9 7), va_rf (some (ad 9 7)) = .ref (ad 9 7), ob (mm M (up2 (mI M) (ad 10 0) 0 0) (mJ M)) (ad 9 7) 15, vp_in (nI j1) (mN (mm M (up2 (mI M) (ad 10 0) 0 0) (mJ M)) (ad 9 7)), (Value.int ((up2 (mI M) (ad 10 0) 0 0) (ad 9 7) ((nI j1).toNatClampNeg))) = .int (nI bw1)]) rfl ⟨hM.1, (hM.r 7 15 60), rfl, (hM.o 7 15 60), (vpi (hM.n 7 15 60) (by omega)), congrArg Value.int ((congrArg (fun z => (up2 (mI M) (ad 10 0) 0 0) (ad 9 7) z) (nI_clamp (by omega))).trans (((up2_n _ _ (fun z => absurd (hi _ _ _ _ z.1).1 (by decide))).trans (rfl)).trans by1)), trivial⟩ ?_
          refine go_callV rfl rfl rfl (by omega) rfl (by decide) (by decide) hM.1 ?_
          refine s_Mo_findMoves (V := (fun i k => mI M (ad 9 i) k)) (nc := nc) (nb := nb) (wk := wk) (lo := (wk + 1)) (by omega) hM hi nc3 nb3 wk3 ((up2_n _ _ (fun z => absurd z.2 (by decide))).trans nc2) ((up2_n _ _ (fun z => absurd z.2 (by decide))).trans nb2) ((up2_n _ _ (fun z => absurd z.2 (by decide))).trans wk2) (Or.inr ⟨((up2_n _ _ (fun z => absurd z.2 (by decide))).trans op2), rfl⟩) (fun i k _ _ _ => (up2_n _ _ (fun z => absurd (hi _ _ _ _ z.1).1 (by decide)))) (fun b hb => (iB.1 b hb).2.1.1) (fun w4 hl4 hj4 hx4 e4 q4 hr4 he4 h264 h274 hg4 => ⟨ne_i, ?_⟩) (fun hn4 e4 he4 => ⟨ne_i, ?_⟩)
          · -- ('i', '1')
            obtain rfl : bw1 = w4 := (nI_eqs (by omega) (by omega)).mp hx4
            show Go 1311 200 0 0 23 [.ref (ad 10 0), .int (nI j1)] [.int 1] (mm M e4 (mJ M)) R2
            refine go_if rfl (fun (z : (1 : Int32) = 0) => absurd z (show ¬ ((1 : Int32) = 0) from (by decide))) (fun _ => ?_)
            refine go_blk 5 [some (.ref (ad 9 23)), some (.int (q4.2.2 j1))] (pc' := 36) (vs' := [.ref (ad 10 0), .int (nI j1)]) (st' := [.int (q4.2.2 j1)]) (M' := mm M e4 (mJ M)) (ps := [ob (mm M e4 (mJ M)) (ad 10 0) 12, mR (mm M e4 (mJ M)) (ad 10 0) 23 = some (ad 9 23), va_rf (some (ad 9 23)) = .ref (ad 9 23), ob (mm M e4 (mJ M)) (ad 9 23) 15, vp_in (nI j1) (mN (mm M e4 (mJ M)) (ad 9 23)), (Value.int (e4 (ad 9 23) ((nI j1).toNatClampNeg))) = .int (q4.2.2 j1)]) rfl ⟨hM.1, (hM.r 23 15 60), rfl, (hM.o 23 15 60), (vpi (hM.n 23 15 60) (by omega)), congrArg Value.int ((congrArg (fun z => e4 (ad 9 23) z) (nI_clamp (by omega))).trans (hg4 j1 (by assumption))), trivial⟩ ?_
            refine go_iret rfl rfl ?_
            have e9 : (q4.2.2 j1) = (-1) := ((mv_gd0 nc3 hr4).1 j1 (fun z => absurd (mem_gs.mp z).2.1 (not_not_intro (by assumption))))
            rw [e9]
            have hWe : WI (mm M e4 (mJ M)) ad nc nb nt wk nw nx nl ne nk kd true := hW.keep (fun t i k hq => ?_) (fun _ _ _ _ => rfl)
            · exact h2 _ ⟨hsc, ad, nc, nb, nt, wk, nw, nx, nl, ne, nk, kd, true, rfl, rfl, rfl, hWe⟩
            have hn : ¬ (t = 10 ∧ (k = 0 ∨ (25 ≤ k ∧ k ≤ 27))) ∧ ¬ (t = 9 ∧ (i = 22 ∨ i = 23 ∨ i = 24)) ∧ ¬ (t = 0 ∧ (i = 6 ∨ (11 ≤ i ∧ i ≤ 15))) := by
              simp only [irr, Bool.or_eq_false_iff, Bool.and_eq_false_iff, beq_eq_false_iff_ne, decide_eq_false_iff_not, ne_eq] at hq
              omega
            show e4 (ad t i) k = mI M (ad t i) k
            rw [he4 _ _ (fun z => hn.1 ⟨(hi _ _ _ _ z.1).1, z.2⟩) (fun z => hn.2.1 ⟨(hi _ _ _ _ z).1, by have := (hi _ _ _ _ z).2; omega⟩) (fun z => hn.2.1 ⟨(hi _ _ _ _ z).1, by have := (hi _ _ _ _ z).2; omega⟩) (fun z => hn.2.1 ⟨(hi _ _ _ _ z).1, by have := (hi _ _ _ _ z).2; omega⟩)]
            exact up2_n _ _ (fun z => hn.1 ⟨(hi _ _ _ _ z.1).1, Or.inl z.2⟩)
          · -- ('i', '0')
            show Go 1311 200 0 0 23 [.ref (ad 10 0), .int (nI j1)] [.int 0] (mm M e4 (mJ M)) R2
            refine go_if rfl (fun _ => ?_) (fun (z : ¬ ((0 : Int32) = 0)) => absurd (show (0 : Int32) = 0 from (by decide)) z)
            refine go_blk 1 [] (pc' := 36) (vs' := [.ref (ad 10 0), .int (nI j1)]) (st' := [.int (-1)]) (M' := mm M e4 (mJ M)) (ps := []) rfl trivial ?_
            refine go_iret rfl rfl ?_
            have hWe : WI (mm M e4 (mJ M)) ad nc nb nt wk nw nx nl ne nk kd true := hW.keep (fun t i k hq => ?_) (fun _ _ _ _ => rfl)
            · exact h2 _ ⟨hsc, ad, nc, nb, nt, wk, nw, nx, nl, ne, nk, kd, true, rfl, rfl, rfl, hWe⟩
            have hn : ¬ (t = 10 ∧ (k = 0 ∨ (25 ≤ k ∧ k ≤ 27))) ∧ ¬ (t = 9 ∧ (i = 22 ∨ i = 23 ∨ i = 24)) ∧ ¬ (t = 0 ∧ (i = 6 ∨ (11 ≤ i ∧ i ≤ 15))) := by
              simp only [irr, Bool.or_eq_false_iff, Bool.and_eq_false_iff, beq_eq_false_iff_ne, decide_eq_false_iff_not, ne_eq] at hq
              omega
            show e4 (ad t i) k = mI M (ad t i) k
            rw [he4 _ _ (fun z => hn.1 ⟨(hi _ _ _ _ z.1).1, z.2⟩) (fun z => hn.2.1 ⟨(hi _ _ _ _ z).1, by have := (hi _ _ _ _ z).2; omega⟩) (fun z => hn.2.1 ⟨(hi _ _ _ _ z).1, by have := (hi _ _ _ _ z).2; omega⟩) (fun z => hn.2.1 ⟨(hi _ _ _ _ z).1, by have := (hi _ _ _ _ z).2; omega⟩)]
            exact up2_n _ _ (fun z => hn.1 ⟨(hi _ _ _ _ z.1).1, Or.inl z.2⟩)
        · exact absurd ⟨j1, hj1, rfl⟩ c3
      · -- ¬ (((mI M) (ad 9 15) j1) = 0)
        refine go_blk 3 [some (.int (nI bw1))] (pc' := 22) (vs' := [.ref (ad 0 0), .int (nI j1), .ref (ad 2 j1)]) (st' := [.int (nI bw1), .ref (ad 0 0)]) (M' := mm M (mI M) (mJ M)) (ps := [ob (mm M (mI M) (mJ M)) (ad 2 j1) 0, (Value.int ((mI M) (ad 2 j1) 1)) = .int (nI bw1)]) rfl ⟨(hB j1 (by assumption)).2, congrArg Value.int ((iB.1 j1 (by assumption)).1.2.1.trans by1), trivial⟩ ?_
        refine go_callV rfl rfl rfl (by omega) rfl (by decide) (by decide) (hF.o 0) ?_
        refine s_CY_isToComeK (wk := wk) (lo := (wk + 1)) (by omega) hF wk1 wk3 (Or.inr ⟨op1, rfl⟩) (fun j5 hl5 hj5 hx5 => ⟨ne_i, ?_⟩) (fun c5 => ⟨ne_i, ?_⟩)
        · -- 1
          obtain rfl : bw1 = j5 := (nI_eqs (by omega) (by omega)).mp hx5
          show Go 1311 122 0 0 25 [.ref (ad 0 0), .int (nI j1), .ref (ad 2 j1)] [.int 1] (mm M (mI M) (mJ M)) R
          refine go_if rfl (fun _ => ?_) (fun (z : ¬ (¬ (1 : Int32) = 0)) => absurd (show ¬ (1 : Int32) = 0 from (by decide)) z)
          refine go_blk 3 [some (.int (nI bw1))] (pc' := 35) (vs' := [.ref (ad 0 0), .int (nI j1), .ref (ad 2 j1)]) (st' := [.int (nI bw1), .ref (ad 0 0)]) (M' := mm M (mI M) (mJ M)) (ps := [ob (mm M (mI M) (mJ M)) (ad 2 j1) 0, (Value.int ((mI M) (ad 2 j1) 1)) = .int (nI bw1)]) rfl ⟨(hB j1 (by assumption)).2, congrArg Value.int ((iB.1 j1 (by assumption)).1.2.1.trans by1), trivial⟩ ?_
          refine go_callV rfl rfl rfl (by omega) rfl (by decide) (by decide) (hF.o 0) ?_
          refine s_CY_findMoves (by omega) hW (by omega) (fun r6 F6 f6 hr6 hF6 hG6 hC6 => ⟨ne_v, ?_⟩)
          · -- ('v',)
            obtain ⟨rb, hrb⟩ := mvS_some (ok := okQ (fun i k => mI M (ad 9 i) k)) (ds := dsP (fun i k => mI M (ad 9 i) k)) (nc := nc) (gsL (gsP (fun i k => mI M (ad 9 i) k) bw1) nb) (frP (fun i k => mI M (ad 9 i) k) nb bw1) 0 0 (fun _ => -1) none
            rw [hrb] at hC6
            have hra : ∀ t i k, ¬ irR t i k → r6 (ad t i) k = mR M (ad t i) k := fun t i k z => hr6 _ _ (fun y => z (Or.inl ⟨(hi _ _ _ _ y).1, Or.inl (hi _ _ _ _ y).2⟩)) (fun y => z (Or.inl ⟨(hi _ _ _ _ y).1, Or.inr (hi _ _ _ _ y).2⟩))
            have hW2 := hW.mr hra
            have hF := hW2.2.1.1
            have hM := hW2.2.1.2.1
            have hfm : ∀ x k, ¬ x = ad 0 6 → ¬ x = ad 0 12 → ¬ x = ad 0 14 → ¬ x = ad 0 15 → f6 x k = mI M x k := fun x k z1 z2 z3 z4 => (hC6.1 x k (fun z => z1 z.1) z2 z3 z4).trans (hF6 x k z1 z2)
            have hfo : ∀ t i k, ¬ t = 0 → f6 (ad t i) k = mI M (ad t i) k := fun t i k z => hfm _ _ (fun y => z (hi _ _ _ _ y).1) (fun y => z (hi _ _ _ _ y).1) (fun y => z (hi _ _ _ _ y).1) (fun y => z (hi _ _ _ _ y).1)
            show Go 1311 122 0 0 38 [.ref (ad 0 0), .int (nI j1), .ref (ad 2 j1)] [] (mm (mr M r6) f6 (mJ M)) R
            refine go_blk 3 [some (.ref (ad 0 6))] (pc' := 43) (vs' := [.ref (ad 0 0), .int (nI j1), .ref (ad 2 j1)]) (st' := [.ref (ad 2 j1), .ref (ad 0 6)]) (M' := mm (mr M r6) f6 (mJ M)) (ps := [ob (mm (mr M r6) f6 (mJ M)) (ad 0 0) 11, mR (mm (mr M r6) f6 (mJ M)) (ad 0 0) 13 = some (ad 0 6), va_rf (some (ad 0 6)) = .ref (ad 0 6)]) rfl ⟨(hF.o 0), (hF.r 0 13 6), rfl, trivial⟩ ?_
            refine go_callV rfl rfl rfl (by omega) rfl (by decide) (by decide) (hF.o 6) ?_
            refine s_Mv_goalOf hG6 hC6 (by assumption) (fun z => (mv_gd0 nc3 hrb).1 j1 z) ⟨ne_i, ?_⟩
            show Go 1311 122 0 0 46 [.ref (ad 0 0), .int (nI j1), .ref (ad 2 j1)] [.int (rb.2.2 j1)] (mm (mr M r6) f6 (mJ M)) R
            refine go_iret rfl rfl ?_
            refine K _ _ hM.1 rfl (fun R2 h2 => ?_)
            show Go 1311 200 0 0 0 [.ref (ad 10 0), .int (nI j1)] [] (mm (mr M r6) f6 (mJ M)) R2
            refine go_blk 5 [] (pc' := 7) (vs' := [.ref (ad 10 0), .int (nI j1)]) (st' := [.int (nI j1), .ref (ad 10 0)]) (M' := mm (mr M r6) (up2 f6 (ad 10 0) 0 0) (mJ M)) (ps := [ob (mm (mr M r6) f6 (mJ M)) (ad 10 0) 12]) rfl ⟨hM.1, trivial⟩ ?_
            refine go_callV rfl rfl rfl (by omega) rfl (by decide) (by decide) hM.1 ?_
            refine s_Mo_isBooking hM (((up2_n _ _ (fun z => absurd z.2 (by decide))).trans (rfl)).trans ((hfo 10 0 18 (by decide)).trans nb2)) (Nat.le_trans nb3 (by decide)) (fun j7 hj7 hx7 => ⟨ne_i, ?_⟩) (fun c7 => ⟨ne_i, ?_⟩)
            · -- 1
              show Go 1311 200 0 0 10 [.ref (ad 10 0), .int (nI j1)] [.int 1] (mm (mr M r6) (up2 f6 (ad 10 0) 0 0) (mJ M)) R2
              refine go_if rfl (fun (z : (1 : Int32) = 0) => absurd z (show ¬ ((1 : Int32) = 0) from (by decide))) (fun _ => ?_)
              refine go_blk 5 [some (.ref (ad 9 7)), some (.int (nI bw1))] (pc' := 20) (vs' := [.ref (ad 10 0), .int (nI j1)]) (st' := [.int (nI bw1), .ref (ad 10 0)]) (M' := mm (mr M r6) (up2 f6 (ad 10 0) 0 0) (mJ M)) (ps := [ob (mm (mr M r6) (up2 f6 (ad 10 0) 0 0) (mJ M)) (ad 10 0) 12, mR (mm (mr M r6) (up2 f6 (ad 10 0) 0 0) (mJ M)) (ad 10 0) 7 = some (ad 9 7), va_rf (some (ad 9 7)) = .ref (ad 9 7), ob (mm (mr M r6) (up2 f6 (ad 10 0) 0 0) (mJ M)) (ad 9 7) 15, vp_in (nI j1) (mN (mm (mr M r6) (up2 f6 (ad 10 0) 0 0) (mJ M)) (ad 9 7)), (Value.int ((up2 f6 (ad 10 0) 0 0) (ad 9 7) ((nI j1).toNatClampNeg))) = .int (nI bw1)]) rfl ⟨hM.1, (hM.r 7 15 60), rfl, (hM.o 7 15 60), (vpi (hM.n 7 15 60) (by omega)), congrArg Value.int ((congrArg (fun z => (up2 f6 (ad 10 0) 0 0) (ad 9 7) z) (nI_clamp (by omega))).trans (((up2_n _ _ (fun z => absurd (hi _ _ _ _ z.1).1 (by decide))).trans (rfl)).trans ((hfo 9 7 j1 (by decide)).trans by1))), trivial⟩ ?_
              refine go_callV rfl rfl rfl (by omega) rfl (by decide) (by decide) hM.1 ?_
              refine s_Mo_findMoves (V := (fun i k => mI M (ad 9 i) k)) (nc := nc) (nb := nb) (wk := wk) (lo := (wk + 1)) (by omega) hM hi nc3 nb3 wk3 ((up2_n _ _ (fun z => absurd z.2 (by decide))).trans ((hfo 10 0 17 (by decide)).trans nc2)) ((up2_n _ _ (fun z => absurd z.2 (by decide))).trans ((hfo 10 0 18 (by decide)).trans nb2)) ((up2_n _ _ (fun z => absurd z.2 (by decide))).trans ((hfo 10 0 19 (by decide)).trans wk2)) (Or.inr ⟨((up2_n _ _ (fun z => absurd z.2 (by decide))).trans ((hfo 10 0 21 (by decide)).trans op2)), rfl⟩) (fun i k _ _ _ => (up2_n _ _ (fun z => absurd (hi _ _ _ _ z.1).1 (by decide))).trans (hfo 9 i k (by decide))) (fun b hb => (iB.1 b hb).2.1.1) (fun w8 hl8 hj8 hx8 e8 q8 hr8 he8 h268 h278 hg8 => ⟨ne_i, ?_⟩) (fun hn8 e8 he8 => ⟨ne_i, ?_⟩)
              · -- ('i', '1')
                obtain rfl : bw1 = w8 := (nI_eqs (by omega) (by omega)).mp hx8
                obtain rfl : rb = q8 := by rw [hrb] at hr8; exact Option.some.inj hr8
                show Go 1311 200 0 0 23 [.ref (ad 10 0), .int (nI j1)] [.int 1] (mm (mr M r6) e8 (mJ M)) R2
                refine go_if rfl (fun (z : (1 : Int32) = 0) => absurd z (show ¬ ((1 : Int32) = 0) from (by decide))) (fun _ => ?_)
                refine go_blk 5 [some (.ref (ad 9 23)), some (.int (rb.2.2 j1))] (pc' := 36) (vs' := [.ref (ad 10 0), .int (nI j1)]) (st' := [.int (rb.2.2 j1)]) (M' := mm (mr M r6) e8 (mJ M)) (ps := [ob (mm (mr M r6) e8 (mJ M)) (ad 10 0) 12, mR (mm (mr M r6) e8 (mJ M)) (ad 10 0) 23 = some (ad 9 23), va_rf (some (ad 9 23)) = .ref (ad 9 23), ob (mm (mr M r6) e8 (mJ M)) (ad 9 23) 15, vp_in (nI j1) (mN (mm (mr M r6) e8 (mJ M)) (ad 9 23)), (Value.int (e8 (ad 9 23) ((nI j1).toNatClampNeg))) = .int (rb.2.2 j1)]) rfl ⟨hM.1, (hM.r 23 15 60), rfl, (hM.o 23 15 60), (vpi (hM.n 23 15 60) (by omega)), congrArg Value.int ((congrArg (fun z => e8 (ad 9 23) z) (nI_clamp (by omega))).trans (hg8 j1 (by assumption))), trivial⟩ ?_
                refine go_iret rfl rfl ?_
                have hWe : WI (mm (mr M r6) e8 (mJ M)) ad nc nb nt wk nw nx nl ne nk kd true := hW2.keep (fun t i k hq => ?_) (fun _ _ _ _ => rfl)
                · exact h2 _ ⟨hsc, ad, nc, nb, nt, wk, nw, nx, nl, ne, nk, kd, true, rfl, rfl, rfl, hWe⟩
                have hn : ¬ (t = 10 ∧ (k = 0 ∨ (25 ≤ k ∧ k ≤ 27))) ∧ ¬ (t = 9 ∧ (i = 22 ∨ i = 23 ∨ i = 24)) ∧ ¬ (t = 0 ∧ (i = 6 ∨ (11 ≤ i ∧ i ≤ 15))) := by
                  simp only [irr, Bool.or_eq_false_iff, Bool.and_eq_false_iff, beq_eq_false_iff_ne, decide_eq_false_iff_not, ne_eq] at hq
                  omega
                show e8 (ad t i) k = mI M (ad t i) k
                rw [he8 _ _ (fun z => hn.1 ⟨(hi _ _ _ _ z.1).1, z.2⟩) (fun z => hn.2.1 ⟨(hi _ _ _ _ z).1, by have := (hi _ _ _ _ z).2; omega⟩) (fun z => hn.2.1 ⟨(hi _ _ _ _ z).1, by have := (hi _ _ _ _ z).2; omega⟩) (fun z => hn.2.1 ⟨(hi _ _ _ _ z).1, by have := (hi _ _ _ _ z).2; omega⟩)]
                rw [up2_n _ _ (fun z => hn.1 ⟨(hi _ _ _ _ z.1).1, Or.inl z.2⟩)]
                exact hfm _ _ (fun z => hn.2.2 (by have := hi _ _ _ _ z; omega)) (fun z => hn.2.2 (by have := hi _ _ _ _ z; omega)) (fun z => hn.2.2 (by have := hi _ _ _ _ z; omega)) (fun z => hn.2.2 (by have := hi _ _ _ _ z; omega))
              · -- ('i', '0')
                exact absurd ⟨bw1, hl5, hj5, rfl⟩ hn8
            · exact absurd ⟨j1, hj1, rfl⟩ c7
        · -- 0
          show Go 1311 122 0 0 25 [.ref (ad 0 0), .int (nI j1), .ref (ad 2 j1)] [.int 0] (mm M (mI M) (mJ M)) R
          refine go_if rfl (fun (z : ¬ (0 : Int32) = 0) => absurd z (show ¬ (¬ (0 : Int32) = 0) from (by decide))) (fun _ => ?_)
          refine go_blk 1 [] (pc' := 29) (vs' := [.ref (ad 0 0), .int (nI j1), .ref (ad 2 j1)]) (st' := [.int (-1)]) (M' := mm M (mI M) (mJ M)) (ps := []) rfl trivial ?_
          refine go_iret rfl rfl ?_
          refine K _ _ hM.1 rfl (fun R2 h2 => ?_)
          show Go 1311 200 0 0 0 [.ref (ad 10 0), .int (nI j1)] [] (mm M (mI M) (mJ M)) R2
          refine go_blk 5 [] (pc' := 7) (vs' := [.ref (ad 10 0), .int (nI j1)]) (st' := [.int (nI j1), .ref (ad 10 0)]) (M' := mm M (up2 (mI M) (ad 10 0) 0 0) (mJ M)) (ps := [ob (mm M (mI M) (mJ M)) (ad 10 0) 12]) rfl ⟨hM.1, trivial⟩ ?_
          refine go_callV rfl rfl rfl (by omega) rfl (by decide) (by decide) hM.1 ?_
          refine s_Mo_isBooking hM (((up2_n _ _ (fun z => absurd z.2 (by decide))).trans (rfl)).trans nb2) (Nat.le_trans nb3 (by decide)) (fun j9 hj9 hx9 => ⟨ne_i, ?_⟩) (fun c9 => ⟨ne_i, ?_⟩)
          · -- 1
            show Go 1311 200 0 0 10 [.ref (ad 10 0), .int (nI j1)] [.int 1] (mm M (up2 (mI M) (ad 10 0) 0 0) (mJ M)) R2
            refine go_if rfl (fun (z : (1 : Int32) = 0) => absurd z (show ¬ ((1 : Int32) = 0) from (by decide))) (fun _ => ?_)
            refine go_blk 5 [some (.ref (ad 9 7)), some (.int (nI bw1))] (pc' := 20) (vs' := [.ref (ad 10 0), .int (nI j1)]) (st' := [.int (nI bw1), .ref (ad 10 0)]) (M' := mm M (up2 (mI M) (ad 10 0) 0 0) (mJ M)) (ps := [ob (mm M (up2 (mI M) (ad 10 0) 0 0) (mJ M)) (ad 10 0) 12, mR (mm M (up2 (mI M) (ad 10 0) 0 0) (mJ M)) (ad 10 0) 7 = some (ad 9 7), va_rf (some (ad 9 7)) = .ref (ad 9 7), ob (mm M (up2 (mI M) (ad 10 0) 0 0) (mJ M)) (ad 9 7) 15, vp_in (nI j1) (mN (mm M (up2 (mI M) (ad 10 0) 0 0) (mJ M)) (ad 9 7)), (Value.int ((up2 (mI M) (ad 10 0) 0 0) (ad 9 7) ((nI j1).toNatClampNeg))) = .int (nI bw1)]) rfl ⟨hM.1, (hM.r 7 15 60), rfl, (hM.o 7 15 60), (vpi (hM.n 7 15 60) (by omega)), congrArg Value.int ((congrArg (fun z => (up2 (mI M) (ad 10 0) 0 0) (ad 9 7) z) (nI_clamp (by omega))).trans (((up2_n _ _ (fun z => absurd (hi _ _ _ _ z.1).1 (by decide))).trans (rfl)).trans by1)), trivial⟩ ?_
            refine go_callV rfl rfl rfl (by omega) rfl (by decide) (by decide) hM.1 ?_
            refine s_Mo_findMoves (V := (fun i k => mI M (ad 9 i) k)) (nc := nc) (nb := nb) (wk := wk) (lo := (wk + 1)) (by omega) hM hi nc3 nb3 wk3 ((up2_n _ _ (fun z => absurd z.2 (by decide))).trans nc2) ((up2_n _ _ (fun z => absurd z.2 (by decide))).trans nb2) ((up2_n _ _ (fun z => absurd z.2 (by decide))).trans wk2) (Or.inr ⟨((up2_n _ _ (fun z => absurd z.2 (by decide))).trans op2), rfl⟩) (fun i k _ _ _ => (up2_n _ _ (fun z => absurd (hi _ _ _ _ z.1).1 (by decide)))) (fun b hb => (iB.1 b hb).2.1.1) (fun w10 hl10 hj10 hx10 e10 q10 hr10 he10 h2610 h2710 hg10 => ⟨ne_i, ?_⟩) (fun hn10 e10 he10 => ⟨ne_i, ?_⟩)
            · -- ('i', '1')
              exact absurd ⟨w10, hl10, hj10, hx10⟩ c5
            · -- ('i', '0')
              show Go 1311 200 0 0 23 [.ref (ad 10 0), .int (nI j1)] [.int 0] (mm M e10 (mJ M)) R2
              refine go_if rfl (fun _ => ?_) (fun (z : ¬ ((0 : Int32) = 0)) => absurd (show (0 : Int32) = 0 from (by decide)) z)
              refine go_blk 1 [] (pc' := 36) (vs' := [.ref (ad 10 0), .int (nI j1)]) (st' := [.int (-1)]) (M' := mm M e10 (mJ M)) (ps := []) rfl trivial ?_
              refine go_iret rfl rfl ?_
              have hWe : WI (mm M e10 (mJ M)) ad nc nb nt wk nw nx nl ne nk kd true := hW.keep (fun t i k hq => ?_) (fun _ _ _ _ => rfl)
              · exact h2 _ ⟨hsc, ad, nc, nb, nt, wk, nw, nx, nl, ne, nk, kd, true, rfl, rfl, rfl, hWe⟩
              have hn : ¬ (t = 10 ∧ (k = 0 ∨ (25 ≤ k ∧ k ≤ 27))) ∧ ¬ (t = 9 ∧ (i = 22 ∨ i = 23 ∨ i = 24)) ∧ ¬ (t = 0 ∧ (i = 6 ∨ (11 ≤ i ∧ i ≤ 15))) := by
                simp only [irr, Bool.or_eq_false_iff, Bool.and_eq_false_iff, beq_eq_false_iff_ne, decide_eq_false_iff_not, ne_eq] at hq
                omega
              show e10 (ad t i) k = mI M (ad t i) k
              rw [he10 _ _ (fun z => hn.1 ⟨(hi _ _ _ _ z.1).1, z.2⟩) (fun z => hn.2.1 ⟨(hi _ _ _ _ z).1, by have := (hi _ _ _ _ z).2; omega⟩) (fun z => hn.2.1 ⟨(hi _ _ _ _ z).1, by have := (hi _ _ _ _ z).2; omega⟩) (fun z => hn.2.1 ⟨(hi _ _ _ _ z).1, by have := (hi _ _ _ _ z).2; omega⟩)]
              exact up2_n _ _ (fun z => hn.1 ⟨(hi _ _ _ _ z.1).1, Or.inl z.2⟩)
          · exact absurd ⟨j1, hj1, rfl⟩ c9
    · -- ('n',)
      show Go 1311 122 0 0 5 [.ref (ad 0 0), .int a1, .retAddr 0] [.null] (mm M (mI M) (mJ M)) R
      refine go_blk 2 [] (pc' := 7) (vs' := [.ref (ad 0 0), .int a1, .null]) (st' := [.null]) (M' := mm M (mI M) (mJ M)) (ps := []) rfl trivial ?_
      refine go_ifnull0 rfl ?_
      refine go_blk 1 [] (pc' := 29) (vs' := [.ref (ad 0 0), .int a1, .null]) (st' := [.int (-1)]) (M' := mm M (mI M) (mJ M)) (ps := []) rfl trivial ?_
      refine go_iret rfl rfl ?_
      refine K _ _ hM.1 rfl (fun R2 h2 => ?_)
      show Go 1311 200 0 0 0 [.ref (ad 10 0), .int a1] [] (mm M (mI M) (mJ M)) R2
      refine go_blk 5 [] (pc' := 7) (vs' := [.ref (ad 10 0), .int a1]) (st' := [.int a1, .ref (ad 10 0)]) (M' := mm M (up2 (mI M) (ad 10 0) 0 0) (mJ M)) (ps := [ob (mm M (mI M) (mJ M)) (ad 10 0) 12]) rfl ⟨hM.1, trivial⟩ ?_
      refine go_callV rfl rfl rfl (by omega) rfl (by decide) (by decide) hM.1 ?_
      refine s_Mo_isBooking hM (((up2_n _ _ (fun z => absurd z.2 (by decide))).trans (rfl)).trans nb2) (Nat.le_trans nb3 (by decide)) (fun j11 hj11 hx11 => ⟨ne_i, ?_⟩) (fun c11 => ⟨ne_i, ?_⟩)
      · exact absurd ⟨j11, hj11, hx11⟩ c1
      · -- 0
        show Go 1311 200 0 0 10 [.ref (ad 10 0), .int a1] [.int 0] (mm M (up2 (mI M) (ad 10 0) 0 0) (mJ M)) R2
        refine go_if rfl (fun _ => ?_) (fun (z : ¬ ((0 : Int32) = 0)) => absurd (show (0 : Int32) = 0 from (by decide)) z)
        refine go_blk 1 [] (pc' := 36) (vs' := [.ref (ad 10 0), .int a1]) (st' := [.int (-1)]) (M' := mm M (up2 (mI M) (ad 10 0) 0 0) (mJ M)) (ps := []) rfl trivial ?_
        refine go_iret rfl rfl ?_
        exact h2 _ ⟨hsc, ad, nc, nb, nt, wk, nw, nx, nl, ne, nk, kd, true, rfl, rfl, rfl, hW.thr⟩

