/-! call: moves -/
set_option maxHeartbeats 20000000 in
set_option maxRecDepth 100000 in
theorem op5 {x o u : Nat} {sc : Nat × Nat × (Nat → Int32)} : Op5 (II x o u sc) x o := by
  intro M a1 a2 hI R K
  obtain ⟨hsc, ad, nc, nb, nt, wk, nw, nx, nl, ne, nk, kd, op, rfl, rfl, rfl, hW⟩ := hI
  obtain ⟨hi, ⟨hF, hM, hC, hB, hT, hX⟩, ⟨iS, iC, iB, iR, iL, iT⟩, ⟨jO, jR, jB, jX, jL⟩, kO, kC, kD, kP, kX⟩ := id hW
  obtain ⟨⟨nc1, nc2, nc3⟩, ⟨nb1, nb2, nb3⟩, ⟨nt1, nt2, nt3⟩, ⟨wk1, wk2, wk3⟩, ⟨nw1, nw2, nw3⟩, ⟨op1, op2, op3⟩, ncm, ncm1, ncm2, ncm3⟩ := id iS
  simp only [vw] at nc1 nc2 nb1 nb2 nt1 nt2 wk1 wk2 nw1 nw2 op1 op2 ncm2 ncm3
  obtain ⟨nn, nn3, nn1, nn2, nnb⟩ := jX.2.1
  simp only [vw] at nn1 nn2
  have nl3 := jL.1.2.2.1
  have nx3 := jX.1.2.2
  have nk3 := jB.1.2.2.2.2.1
  have ne3 := jB.1.2.2.2.2.2
  rcases op with _ | _
  · replace op1 : mI M (ad 0 0) 8 = 0 := op1
    replace op2 : mI M (ad 10 0) 21 = 0 := op2
    show Go 1311 121 0 0 0 [.ref (ad 0 0), .int a1, .int a2] [] (mm M (mI M) (mJ M)) R
    refine go_blk 2 [] (pc' := 2) (vs' := [.ref (ad 0 0), .int a1, .int a2]) (st' := [.int a1, .ref (ad 0 0)]) (M' := mm M (mI M) (mJ M)) (ps := []) rfl trivial ?_
    refine go_callV rfl rfl rfl (by omega) rfl (by decide) (by decide) (hF.o 0) ?_
    refine s_CY_isToComeK (wk := wk) (lo := wk) (by omega) hF wk1 wk3 (Or.inl ⟨op1, rfl⟩) (fun j1 hl1 hj1 hx1 => ⟨ne_i, ?_⟩) (fun c1 => ⟨ne_i, ?_⟩)
    · -- 1
      subst hx1
      show Go 1311 121 0 0 5 [.ref (ad 0 0), .int (nI j1), .int a2] [.int 1] (mm M (mI M) (mJ M)) R
      refine go_if rfl (fun (z : (1 : Int32) = 0) => absurd z (show ¬ ((1 : Int32) = 0) from (by decide))) (fun _ => ?_)
      refine go_blk 3 [] (pc' := 11) (vs' := [.ref (ad 0 0), .int (nI j1), .int a2]) (st' := [.int 1, .int 0, .int a2]) (M' := mm M (mI M) (mJ M)) (ps := []) rfl trivial ?_
      refine go_callS rfl (by decide) rfl rfl (by omega) rfl (by decide) (by decide) ?_
      refine s_CY_withinK 0 1 (by decide) (by decide) (fun j2 hl2 hj2 hx2 => ⟨ne_i, ?_⟩) (fun c2 => ⟨ne_i, ?_⟩)
      · -- 1
        subst hx2
        rcases (show j2 = 0 ∨ j2 = 1 by omega) with rfl | rfl
        · -- 0
          show Go 1311 121 0 0 14 [.ref (ad 0 0), .int (nI j1), .int 0] [.int 1] (mm M (mI M) (mJ M)) R
          refine go_if rfl (fun _ => ?_) (fun (z : ¬ (¬ (1 : Int32) = 0)) => absurd (show ¬ (1 : Int32) = 0 from (by decide)) z)
          refine go_blk 2 [] (pc' := 21) (vs' := [.ref (ad 0 0), .int (nI j1), .int 0]) (st' := [.int (nI j1), .ref (ad 0 0)]) (M' := mm M (mI M) (mJ M)) (ps := []) rfl trivial ?_
          refine go_callV rfl rfl rfl (by omega) rfl (by decide) (by decide) (hF.o 0) ?_
          refine s_CY_findMoves (by omega) hW (by omega) (fun r3 F3 f3 hr3 hF3 hG3 hC3 => ⟨ne_v, ?_⟩)
          · -- ('v',)
            obtain ⟨rb, hrb⟩ := mvS_some (ok := okQ (fun i k => mI M (ad 9 i) k)) (ds := dsP (fun i k => mI M (ad 9 i) k)) (nc := nc) (gsL (gsP (fun i k => mI M (ad 9 i) k) j1) nb) (frP (fun i k => mI M (ad 9 i) k) nb j1) 0 0 (fun _ => -1) none
            rw [hrb] at hC3
            have hra : ∀ t i k, ¬ irR t i k → r3 (ad t i) k = mR M (ad t i) k := fun t i k z => hr3 _ _ (fun y => z (Or.inl ⟨(hi _ _ _ _ y).1, Or.inl (hi _ _ _ _ y).2⟩)) (fun y => z (Or.inl ⟨(hi _ _ _ _ y).1, Or.inr (hi _ _ _ _ y).2⟩))
            have hW2 := hW.mr hra
            have hF := hW2.2.1.1
            have hM := hW2.2.1.2.1
            have hfm : ∀ x k, ¬ x = ad 0 6 → ¬ x = ad 0 12 → ¬ x = ad 0 14 → ¬ x = ad 0 15 → f3 x k = mI M x k := fun x k z1 z2 z3 z4 => (hC3.1 x k (fun z => z1 z.1) z2 z3 z4).trans (hF3 x k z1 z2)
            have hfo : ∀ t i k, ¬ t = 0 → f3 (ad t i) k = mI M (ad t i) k := fun t i k z => hfm _ _ (fun y => z (hi _ _ _ _ y).1) (fun y => z (hi _ _ _ _ y).1) (fun y => z (hi _ _ _ _ y).1) (fun y => z (hi _ _ _ _ y).1)
            show Go 1311 121 0 0 24 [.ref (ad 0 0), .int (nI j1), .int 0] [] (mm (mr M r3) f3 (mJ M)) R
            refine go_blk 1 [] (pc' := 25) (vs' := [.ref (ad 0 0), .int (nI j1), .int 0]) (st' := [.int 0]) (M' := mm (mr M r3) f3 (mJ M)) (ps := []) rfl trivial ?_
            refine go_if rfl (fun (z : ¬ (0 : Int32) = 0) => absurd z (show ¬ (¬ (0 : Int32) = 0) from (by decide))) (fun _ => ?_)
            refine go_blk 4 [some (.ref (ad 0 6)), some (.int (nI rb.1))] (pc' := 45) (vs' := [.ref (ad 0 0), .int (nI j1), .int 0]) (st' := [.int (nI rb.1)]) (M' := mm (mr M r3) f3 (mJ M)) (ps := [ob (mm (mr M r3) f3 (mJ M)) (ad 0 0) 11, mR (mm (mr M r3) f3 (mJ M)) (ad 0 0) 13 = some (ad 0 6), va_rf (some (ad 0 6)) = .ref (ad 0 6), ob (mm (mr M r3) f3 (mJ M)) (ad 0 6) 5, (Value.int (f3 (ad 0 6) 7)) = .int (nI rb.1)]) rfl ⟨(hF.o 0), (hF.r 0 13 6), rfl, (hF.o 6), congrArg Value.int hC3.2.2.2.1, trivial⟩ ?_
            refine go_iret rfl rfl ?_
            refine K _ _ hM.1 rfl (fun R2 h2 => ?_)
            show Go 1311 199 0 0 0 [.ref (ad 10 0), .int (nI j1), .int 0] [] (mm (mr M r3) f3 (mJ M)) R2
            refine go_blk 2 [] (pc' := 2) (vs' := [.ref (ad 10 0), .int (nI j1), .int 0]) (st' := [.int (nI j1), .ref (ad 10 0)]) (M' := mm (mr M r3) f3 (mJ M)) (ps := []) rfl trivial ?_
            refine go_callV rfl rfl rfl (by omega) rfl (by decide) (by decide) hM.1 ?_
            refine s_Mo_findMoves (V := (fun i k => mI M (ad 9 i) k)) (nc := nc) (nb := nb) (wk := wk) (lo := wk) (by omega) hM hi nc3 nb3 wk3 ((hfo 10 0 17 (by decide)).trans nc2) ((hfo 10 0 18 (by decide)).trans nb2) ((hfo 10 0 19 (by decide)).trans wk2) (Or.inl ⟨((hfo 10 0 21 (by decide)).trans op2), rfl⟩) (fun i k _ _ _ => hfo 9 i k (by decide)) (fun b hb => (iB.1 b hb).2.1.1) (fun w4 hl4 hj4 hx4 e4 q4 hr4 he4 h264 h274 hg4 => ⟨ne_i, ?_⟩) (fun hn4 e4 he4 => ⟨ne_i, ?_⟩)
            · -- ('i', '1')
              obtain rfl : j1 = w4 := (nI_eqs (by omega) (by omega)).mp hx4
              obtain rfl : rb = q4 := by rw [hrb] at hr4; exact Option.some.inj hr4
              show Go 1311 199 0 0 5 [.ref (ad 10 0), .int (nI j1), .int 0] [.int 1] (mm (mr M r3) e4 (mJ M)) R2
              refine go_if rfl (fun (z : (1 : Int32) = 0) => absurd z (show ¬ ((1 : Int32) = 0) from (by decide))) (fun _ => ?_)
              refine go_blk 3 [] (pc' := 11) (vs' := [.ref (ad 10 0), .int (nI j1), .int 0]) (st' := [.int 1, .int 0, .int 0]) (M' := mm (mr M r3) e4 (mJ M)) (ps := []) rfl trivial ?_
              refine go_callS rfl (by decide) rfl rfl (by omega) rfl (by decide) (by decide) ?_
              refine s_Mo_isInK 0 1 (by decide) (by decide) (fun j5 hl5 hj5 hx5 => ⟨ne_i, ?_⟩) (fun c5 => ⟨ne_i, ?_⟩)
              · -- 1
                show Go 1311 199 0 0 14 [.ref (ad 10 0), .int (nI j1), .int 0] [.int 1] (mm (mr M r3) e4 (mJ M)) R2
                refine go_if rfl (fun (z : (1 : Int32) = 0) => absurd z (show ¬ ((1 : Int32) = 0) from (by decide))) (fun _ => ?_)
                refine go_blk 1 [] (pc' := 18) (vs' := [.ref (ad 10 0), .int (nI j1), .int 0]) (st' := [.int 0]) (M' := mm (mr M r3) e4 (mJ M)) (ps := []) rfl trivial ?_
                refine go_if rfl (fun (z : ¬ (0 : Int32) = 0) => absurd z (show ¬ (¬ (0 : Int32) = 0) from (by decide))) (fun _ => ?_)
                refine go_blk 3 [some (.int (nI rb.1))] (pc' := 36) (vs' := [.ref (ad 10 0), .int (nI j1), .int 0]) (st' := [.int (nI rb.1)]) (M' := mm (mr M r3) e4 (mJ M)) (ps := [ob (mm (mr M r3) e4 (mJ M)) (ad 10 0) 12, (Value.int (e4 (ad 10 0) 26)) = .int (nI rb.1)]) rfl ⟨hM.1, congrArg Value.int h264, trivial⟩ ?_
                refine go_iret rfl rfl ?_
                have hWe : WI (mm (mr M r3) e4 (mJ M)) ad nc nb nt wk nw nx nl ne nk kd false := hW2.keep (fun t i k hq => ?_) (fun _ _ _ _ => rfl)
                · exact h2 _ ⟨hsc, ad, nc, nb, nt, wk, nw, nx, nl, ne, nk, kd, false, rfl, rfl, rfl, hWe⟩
                have hn : ¬ (t = 10 ∧ (k = 0 ∨ (25 ≤ k ∧ k ≤ 27))) ∧ ¬ (t = 9 ∧ (i = 22 ∨ i = 23 ∨ i = 24)) ∧ ¬ (t = 0 ∧ (i = 6 ∨ (11 ≤ i ∧ i ≤ 15))) := by
                  simp only [irr, Bool.or_eq_false_iff, Bool.and_eq_false_iff, beq_eq_false_iff_ne, decide_eq_false_iff_not, ne_eq] at hq
                  omega
                show e4 (ad t i) k = mI M (ad t i) k
                rw [he4 _ _ (fun z => hn.1 ⟨(hi _ _ _ _ z.1).1, z.2⟩) (fun z => hn.2.1 ⟨(hi _ _ _ _ z).1, by have := (hi _ _ _ _ z).2; omega⟩) (fun z => hn.2.1 ⟨(hi _ _ _ _ z).1, by have := (hi _ _ _ _ z).2; omega⟩) (fun z => hn.2.1 ⟨(hi _ _ _ _ z).1, by have := (hi _ _ _ _ z).2; omega⟩)]
                exact hfm _ _ (fun z => hn.2.2 (by have := hi _ _ _ _ z; omega)) (fun z => hn.2.2 (by have := hi _ _ _ _ z; omega)) (fun z => hn.2.2 (by have := hi _ _ _ _ z; omega)) (fun z => hn.2.2 (by have := hi _ _ _ _ z; omega))
              · exact absurd ⟨0, by decide, by decide, rfl⟩ c5
            · -- ('i', '0')
              exact absurd ⟨j1, hl1, hj1, rfl⟩ hn4
        · -- 1
          show Go 1311 121 0 0 14 [.ref (ad 0 0), .int (nI j1), .int 1] [.int 1] (mm M (mI M) (mJ M)) R
          refine go_if rfl (fun _ => ?_) (fun (z : ¬ (¬ (1 : Int32) = 0)) => absurd (show ¬ (1 : Int32) = 0 from (by decide)) z)
          refine go_blk 2 [] (pc' := 21) (vs' := [.ref (ad 0 0), .int (nI j1), .int 1]) (st' := [.int (nI j1), .ref (ad 0 0)]) (M' := mm M (mI M) (mJ M)) (ps := []) rfl trivial ?_
          refine go_callV rfl rfl rfl (by omega) rfl (by decide) (by decide) (hF.o 0) ?_
          refine s_CY_findMoves (by omega) hW (by omega) (fun r6 F6 f6 hr6 hF6 hG6 hC6 => ⟨ne_v, ?_⟩)
          · -- ('v',)
            obtain ⟨rb, hrb⟩ := mvS_some (ok := okQ (fun i k => mI M (ad 9 i) k)) (ds := dsP (fun i k => mI M (ad 9 i) k)) (nc := nc) (gsL (gsP (fun i k => mI M (ad 9 i) k) j1) nb) (frP (fun i k => mI M (ad 9 i) k) nb j1) 0 0 (fun _ => -1) none
            rw [hrb] at hC6
            have hra : ∀ t i k, ¬ irR t i k → r6 (ad t i) k = mR M (ad t i) k := fun t i k z => hr6 _ _ (fun y => z (Or.inl ⟨(hi _ _ _ _ y).1, Or.inl (hi _ _ _ _ y).2⟩)) (fun y => z (Or.inl ⟨(hi _ _ _ _ y).1, Or.inr (hi _ _ _ _ y).2⟩))
            have hW2 := hW.mr hra
            have hF := hW2.2.1.1
            have hM := hW2.2.1.2.1
            have hfm : ∀ x k, ¬ x = ad 0 6 → ¬ x = ad 0 12 → ¬ x = ad 0 14 → ¬ x = ad 0 15 → f6 x k = mI M x k := fun x k z1 z2 z3 z4 => (hC6.1 x k (fun z => z1 z.1) z2 z3 z4).trans (hF6 x k z1 z2)
            have hfo : ∀ t i k, ¬ t = 0 → f6 (ad t i) k = mI M (ad t i) k := fun t i k z => hfm _ _ (fun y => z (hi _ _ _ _ y).1) (fun y => z (hi _ _ _ _ y).1) (fun y => z (hi _ _ _ _ y).1) (fun y => z (hi _ _ _ _ y).1)
            show Go 1311 121 0 0 24 [.ref (ad 0 0), .int (nI j1), .int 1] [] (mm (mr M r6) f6 (mJ M)) R
            refine go_blk 1 [] (pc' := 25) (vs' := [.ref (ad 0 0), .int (nI j1), .int 1]) (st' := [.int 1]) (M' := mm (mr M r6) f6 (mJ M)) (ps := []) rfl trivial ?_
            refine go_if rfl (fun _ => ?_) (fun (z : ¬ (¬ (1 : Int32) = 0)) => absurd (show ¬ (1 : Int32) = 0 from (by decide)) z)
            refine go_blk 3 [some (.ref (ad 0 6)), some (.int rb.2.1)] (pc' := 45) (vs' := [.ref (ad 0 0), .int (nI j1), .int 1]) (st' := [.int rb.2.1]) (M' := mm (mr M r6) f6 (mJ M)) (ps := [ob (mm (mr M r6) f6 (mJ M)) (ad 0 0) 11, mR (mm (mr M r6) f6 (mJ M)) (ad 0 0) 13 = some (ad 0 6), va_rf (some (ad 0 6)) = .ref (ad 0 6), ob (mm (mr M r6) f6 (mJ M)) (ad 0 6) 5, (Value.int (f6 (ad 0 6) 8)) = .int rb.2.1]) rfl ⟨(hF.o 0), (hF.r 0 13 6), rfl, (hF.o 6), congrArg Value.int hC6.2.2.2.2.1, trivial⟩ ?_
            refine go_iret rfl rfl ?_
            refine K _ _ hM.1 rfl (fun R2 h2 => ?_)
            show Go 1311 199 0 0 0 [.ref (ad 10 0), .int (nI j1), .int 1] [] (mm (mr M r6) f6 (mJ M)) R2
            refine go_blk 2 [] (pc' := 2) (vs' := [.ref (ad 10 0), .int (nI j1), .int 1]) (st' := [.int (nI j1), .ref (ad 10 0)]) (M' := mm (mr M r6) f6 (mJ M)) (ps := []) rfl trivial ?_
            refine go_callV rfl rfl rfl (by omega) rfl (by decide) (by decide) hM.1 ?_
            refine s_Mo_findMoves (V := (fun i k => mI M (ad 9 i) k)) (nc := nc) (nb := nb) (wk := wk) (lo := wk) (by omega) hM hi nc3 nb3 wk3 ((hfo 10 0 17 (by decide)).trans nc2) ((hfo 10 0 18 (by decide)).trans nb2) ((hfo 10 0 19 (by decide)).trans wk2) (Or.inl ⟨((hfo 10 0 21 (by decide)).trans op2), rfl⟩) (fun i k _ _ _ => hfo 9 i k (by decide)) (fun b hb => (iB.1 b hb).2.1.1) (fun w7 hl7 hj7 hx7 e7 q7 hr7 he7 h267 h277 hg7 => ⟨ne_i, ?_⟩) (fun hn7 e7 he7 => ⟨ne_i, ?_⟩)
            · -- ('i', '1')
              obtain rfl : j1 = w7 := (nI_eqs (by omega) (by omega)).mp hx7
              obtain rfl : rb = q7 := by rw [hrb] at hr7; exact Option.some.inj hr7
              show Go 1311 199 0 0 5 [.ref (ad 10 0), .int (nI j1), .int 1] [.int 1] (mm (mr M r6) e7 (mJ M)) R2
              refine go_if rfl (fun (z : (1 : Int32) = 0) => absurd z (show ¬ ((1 : Int32) = 0) from (by decide))) (fun _ => ?_)
              refine go_blk 3 [] (pc' := 11) (vs' := [.ref (ad 10 0), .int (nI j1), .int 1]) (st' := [.int 1, .int 0, .int 1]) (M' := mm (mr M r6) e7 (mJ M)) (ps := []) rfl trivial ?_
              refine go_callS rfl (by decide) rfl rfl (by omega) rfl (by decide) (by decide) ?_
              refine s_Mo_isInK 0 1 (by decide) (by decide) (fun j8 hl8 hj8 hx8 => ⟨ne_i, ?_⟩) (fun c8 => ⟨ne_i, ?_⟩)
              · -- 1
                show Go 1311 199 0 0 14 [.ref (ad 10 0), .int (nI j1), .int 1] [.int 1] (mm (mr M r6) e7 (mJ M)) R2
                refine go_if rfl (fun (z : (1 : Int32) = 0) => absurd z (show ¬ ((1 : Int32) = 0) from (by decide))) (fun _ => ?_)
                refine go_blk 1 [] (pc' := 18) (vs' := [.ref (ad 10 0), .int (nI j1), .int 1]) (st' := [.int 1]) (M' := mm (mr M r6) e7 (mJ M)) (ps := []) rfl trivial ?_
                refine go_if rfl (fun _ => ?_) (fun (z : ¬ (¬ (1 : Int32) = 0)) => absurd (show ¬ (1 : Int32) = 0 from (by decide)) z)
                refine go_blk 3 [some (.int rb.2.1)] (pc' := 36) (vs' := [.ref (ad 10 0), .int (nI j1), .int 1]) (st' := [.int rb.2.1]) (M' := mm (mr M r6) e7 (mJ M)) (ps := [ob (mm (mr M r6) e7 (mJ M)) (ad 10 0) 12, (Value.int (e7 (ad 10 0) 27)) = .int rb.2.1]) rfl ⟨hM.1, congrArg Value.int h277, trivial⟩ ?_
                refine go_iret rfl rfl ?_
                have hWe : WI (mm (mr M r6) e7 (mJ M)) ad nc nb nt wk nw nx nl ne nk kd false := hW2.keep (fun t i k hq => ?_) (fun _ _ _ _ => rfl)
                · exact h2 _ ⟨hsc, ad, nc, nb, nt, wk, nw, nx, nl, ne, nk, kd, false, rfl, rfl, rfl, hWe⟩
                have hn : ¬ (t = 10 ∧ (k = 0 ∨ (25 ≤ k ∧ k ≤ 27))) ∧ ¬ (t = 9 ∧ (i = 22 ∨ i = 23 ∨ i = 24)) ∧ ¬ (t = 0 ∧ (i = 6 ∨ (11 ≤ i ∧ i ≤ 15))) := by
                  simp only [irr, Bool.or_eq_false_iff, Bool.and_eq_false_iff, beq_eq_false_iff_ne, decide_eq_false_iff_not, ne_eq] at hq
                  omega
                show e7 (ad t i) k = mI M (ad t i) k
                rw [he7 _ _ (fun z => hn.1 ⟨(hi _ _ _ _ z.1).1, z.2⟩) (fun z => hn.2.1 ⟨(hi _ _ _ _ z).1, by have := (hi _ _ _ _ z).2; omega⟩) (fun z => hn.2.1 ⟨(hi _ _ _ _ z).1, by have := (hi _ _ _ _ z).2; omega⟩) (fun z => hn.2.1 ⟨(hi _ _ _ _ z).1, by have := (hi _ _ _ _ z).2; omega⟩)]
                exact hfm _ _ (fun z => hn.2.2 (by have := hi _ _ _ _ z; omega)) (fun z => hn.2.2 (by have := hi _ _ _ _ z; omega)) (fun z => hn.2.2 (by have := hi _ _ _ _ z; omega)) (fun z => hn.2.2 (by have := hi _ _ _ _ z; omega))
              · exact absurd ⟨1, by decide, by decide, rfl⟩ c8
            · -- ('i', '0')
              exact absurd ⟨j1, hl1, hj1, rfl⟩ hn7
      · -- 0
        show Go 1311 121 0 0 14 [.ref (ad 0 0), .int (nI j1), .int a2] [.int 0] (mm M (mI M) (mJ M)) R
        refine go_if rfl (fun (z : ¬ (0 : Int32) = 0) => absurd z (show ¬ (¬ (0 : Int32) = 0) from (by decide))) (fun _ => ?_)
        refine go_blk 1 [] (pc' := 18) (vs' := [.ref (ad 0 0), .int (nI j1), .int a2]) (st' := [.int (-1)]) (M' := mm M (mI M) (mJ M)) (ps := []) rfl trivial ?_
        refine go_iret rfl rfl ?_
        refine K _ _ hM.1 rfl (fun R2 h2 => ?_)
        show Go 1311 199 0 0 0 [.ref (ad 10 0), .int (nI j1), .int a2] [] (mm M (mI M) (mJ M)) R2
        refine go_blk 2 [] (pc' := 2) (vs' := [.ref (ad 10 0), .int (nI j1), .int a2]) (st' := [.int (nI j1), .ref (ad 10 0)]) (M' := mm M (mI M) (mJ M)) (ps := []) rfl trivial ?_
        refine go_callV rfl rfl rfl (by omega) rfl (by decide) (by decide) hM.1 ?_
        refine s_Mo_findMoves (V := (fun i k => mI M (ad 9 i) k)) (nc := nc) (nb := nb) (wk := wk) (lo := wk) (by omega) hM hi nc3 nb3 wk3 nc2 nb2 wk2 (Or.inl ⟨op2, rfl⟩) (fun i k _ _ _ => rfl) (fun b hb => (iB.1 b hb).2.1.1) (fun w9 hl9 hj9 hx9 e9 q9 hr9 he9 h269 h279 hg9 => ⟨ne_i, ?_⟩) (fun hn9 e9 he9 => ⟨ne_i, ?_⟩)
        · -- ('i', '1')
          obtain rfl : j1 = w9 := (nI_eqs (by omega) (by omega)).mp hx9
          show Go 1311 199 0 0 5 [.ref (ad 10 0), .int (nI j1), .int a2] [.int 1] (mm M e9 (mJ M)) R2
          refine go_if rfl (fun (z : (1 : Int32) = 0) => absurd z (show ¬ ((1 : Int32) = 0) from (by decide))) (fun _ => ?_)
          refine go_blk 3 [] (pc' := 11) (vs' := [.ref (ad 10 0), .int (nI j1), .int a2]) (st' := [.int 1, .int 0, .int a2]) (M' := mm M e9 (mJ M)) (ps := []) rfl trivial ?_
          refine go_callS rfl (by decide) rfl rfl (by omega) rfl (by decide) (by decide) ?_
          refine s_Mo_isInK 0 1 (by decide) (by decide) (fun j10 hl10 hj10 hx10 => ⟨ne_i, ?_⟩) (fun c10 => ⟨ne_i, ?_⟩)
          · exact absurd ⟨j10, hl10, hj10, hx10⟩ c2
          · -- 0
            show Go 1311 199 0 0 14 [.ref (ad 10 0), .int (nI j1), .int a2] [.int 0] (mm M e9 (mJ M)) R2
            refine go_if rfl (fun _ => ?_) (fun (z : ¬ ((0 : Int32) = 0)) => absurd (show (0 : Int32) = 0 from (by decide)) z)
            refine go_blk 1 [] (pc' := 36) (vs' := [.ref (ad 10 0), .int (nI j1), .int a2]) (st' := [.int (-1)]) (M' := mm M e9 (mJ M)) (ps := []) rfl trivial ?_
            refine go_iret rfl rfl ?_
            have hWe : WI (mm M e9 (mJ M)) ad nc nb nt wk nw nx nl ne nk kd false := hW.keep (fun t i k hq => ?_) (fun _ _ _ _ => rfl)
            · exact h2 _ ⟨hsc, ad, nc, nb, nt, wk, nw, nx, nl, ne, nk, kd, false, rfl, rfl, rfl, hWe⟩
            have hn : ¬ (t = 10 ∧ (k = 0 ∨ (25 ≤ k ∧ k ≤ 27))) ∧ ¬ (t = 9 ∧ (i = 22 ∨ i = 23 ∨ i = 24)) ∧ ¬ (t = 0 ∧ (i = 6 ∨ (11 ≤ i ∧ i ≤ 15))) := by
              simp only [irr, Bool.or_eq_false_iff, Bool.and_eq_false_iff, beq_eq_false_iff_ne, decide_eq_false_iff_not, ne_eq] at hq
              omega
            show e9 (ad t i) k = mI M (ad t i) k
            rw [he9 _ _ (fun z => hn.1 ⟨(hi _ _ _ _ z.1).1, z.2⟩) (fun z => hn.2.1 ⟨(hi _ _ _ _ z).1, by have := (hi _ _ _ _ z).2; omega⟩) (fun z => hn.2.1 ⟨(hi _ _ _ _ z).1, by have := (hi _ _ _ _ z).2; omega⟩) (fun z => hn.2.1 ⟨(hi _ _ _ _ z).1, by have := (hi _ _ _ _ z).2; omega⟩)]
        · -- ('i', '0')
          exact absurd ⟨j1, hl1, hj1, rfl⟩ hn9
    · -- 0
      show Go 1311 121 0 0 5 [.ref (ad 0 0), .int a1, .int a2] [.int 0] (mm M (mI M) (mJ M)) R
      refine go_if rfl (fun _ => ?_) (fun (z : ¬ ((0 : Int32) = 0)) => absurd (show (0 : Int32) = 0 from (by decide)) z)
      refine go_blk 1 [] (pc' := 18) (vs' := [.ref (ad 0 0), .int a1, .int a2]) (st' := [.int (-1)]) (M' := mm M (mI M) (mJ M)) (ps := []) rfl trivial ?_
      refine go_iret rfl rfl ?_
      refine K _ _ hM.1 rfl (fun R2 h2 => ?_)
      show Go 1311 199 0 0 0 [.ref (ad 10 0), .int a1, .int a2] [] (mm M (mI M) (mJ M)) R2
      refine go_blk 2 [] (pc' := 2) (vs' := [.ref (ad 10 0), .int a1, .int a2]) (st' := [.int a1, .ref (ad 10 0)]) (M' := mm M (mI M) (mJ M)) (ps := []) rfl trivial ?_
      refine go_callV rfl rfl rfl (by omega) rfl (by decide) (by decide) hM.1 ?_
      refine s_Mo_findMoves (V := (fun i k => mI M (ad 9 i) k)) (nc := nc) (nb := nb) (wk := wk) (lo := wk) (by omega) hM hi nc3 nb3 wk3 nc2 nb2 wk2 (Or.inl ⟨op2, rfl⟩) (fun i k _ _ _ => rfl) (fun b hb => (iB.1 b hb).2.1.1) (fun w11 hl11 hj11 hx11 e11 q11 hr11 he11 h2611 h2711 hg11 => ⟨ne_i, ?_⟩) (fun hn11 e11 he11 => ⟨ne_i, ?_⟩)
      · -- ('i', '1')
        exact absurd ⟨w11, hl11, hj11, hx11⟩ c1
      · -- ('i', '0')
        show Go 1311 199 0 0 5 [.ref (ad 10 0), .int a1, .int a2] [.int 0] (mm M e11 (mJ M)) R2
        refine go_if rfl (fun _ => ?_) (fun (z : ¬ ((0 : Int32) = 0)) => absurd (show (0 : Int32) = 0 from (by decide)) z)
        refine go_blk 1 [] (pc' := 36) (vs' := [.ref (ad 10 0), .int a1, .int a2]) (st' := [.int (-1)]) (M' := mm M e11 (mJ M)) (ps := []) rfl trivial ?_
        refine go_iret rfl rfl ?_
        have hWe : WI (mm M e11 (mJ M)) ad nc nb nt wk nw nx nl ne nk kd false := hW.keep (fun t i k hq => ?_) (fun _ _ _ _ => rfl)
        · exact h2 _ ⟨hsc, ad, nc, nb, nt, wk, nw, nx, nl, ne, nk, kd, false, rfl, rfl, rfl, hWe⟩
        have hn : ¬ (t = 10 ∧ (k = 0 ∨ (25 ≤ k ∧ k ≤ 27))) ∧ ¬ (t = 9 ∧ (i = 22 ∨ i = 23 ∨ i = 24)) ∧ ¬ (t = 0 ∧ (i = 6 ∨ (11 ≤ i ∧ i ≤ 15))) := by
          simp only [irr, Bool.or_eq_false_iff, Bool.and_eq_false_iff, beq_eq_false_iff_ne, decide_eq_false_iff_not, ne_eq] at hq
          omega
        show e11 (ad t i) k = mI M (ad t i) k
        rw [he11 _ _ (fun z => hn.1 ⟨(hi _ _ _ _ z.1).1, z.2⟩) (fun z => hn.2.1 ⟨(hi _ _ _ _ z).1, by have := (hi _ _ _ _ z).2; omega⟩) (fun z => hn.2.1 ⟨(hi _ _ _ _ z).1, by have := (hi _ _ _ _ z).2; omega⟩) (fun z => hn.2.1 ⟨(hi _ _ _ _ z).1, by have := (hi _ _ _ _ z).2; omega⟩)]
  · replace op1 : mI M (ad 0 0) 8 = 1 := op1
    replace op2 : mI M (ad 10 0) 21 = 1 := op2
    replace op3 : wk < 52 := op3 rfl
    show Go 1311 121 0 0 0 [.ref (ad 0 0), .int a1, .int a2] [] (mm M (mI M) (mJ M)) R
    refine go_blk 2 [] (pc' := 2) (vs' := [.ref (ad 0 0), .int a1, .int a2]) (st' := [.int a1, .ref (ad 0 0)]) (M' := mm M (mI M) (mJ M)) (ps := []) rfl trivial ?_
    refine go_callV rfl rfl rfl (by omega) rfl (by decide) (by decide) (hF.o 0) ?_
    refine s_CY_isToComeK (wk := wk) (lo := (wk + 1)) (by omega) hF wk1 wk3 (Or.inr ⟨op1, rfl⟩) (fun j1 hl1 hj1 hx1 => ⟨ne_i, ?_⟩) (fun c1 => ⟨ne_i, ?_⟩)
    · -- 1
      subst hx1
      show Go 1311 121 0 0 5 [.ref (ad 0 0), .int (nI j1), .int a2] [.int 1] (mm M (mI M) (mJ M)) R
      refine go_if rfl (fun (z : (1 : Int32) = 0) => absurd z (show ¬ ((1 : Int32) = 0) from (by decide))) (fun _ => ?_)
      refine go_blk 3 [] (pc' := 11) (vs' := [.ref (ad 0 0), .int (nI j1), .int a2]) (st' := [.int 1, .int 0, .int a2]) (M' := mm M (mI M) (mJ M)) (ps := []) rfl trivial ?_
      refine go_callS rfl (by decide) rfl rfl (by omega) rfl (by decide) (by decide) ?_
      refine s_CY_withinK 0 1 (by decide) (by decide) (fun j2 hl2 hj2 hx2 => ⟨ne_i, ?_⟩) (fun c2 => ⟨ne_i, ?_⟩)
      · -- 1
        subst hx2
        rcases (show j2 = 0 ∨ j2 = 1 by omega) with rfl | rfl
        · -- 0
          show Go 1311 121 0 0 14 [.ref (ad 0 0), .int (nI j1), .int 0] [.int 1] (mm M (mI M) (mJ M)) R
          refine go_if rfl (fun _ => ?_) (fun (z : ¬ (¬ (1 : Int32) = 0)) => absurd (show ¬ (1 : Int32) = 0 from (by decide)) z)
          refine go_blk 2 [] (pc' := 21) (vs' := [.ref (ad 0 0), .int (nI j1), .int 0]) (st' := [.int (nI j1), .ref (ad 0 0)]) (M' := mm M (mI M) (mJ M)) (ps := []) rfl trivial ?_
          refine go_callV rfl rfl rfl (by omega) rfl (by decide) (by decide) (hF.o 0) ?_
          refine s_CY_findMoves (by omega) hW (by omega) (fun r3 F3 f3 hr3 hF3 hG3 hC3 => ⟨ne_v, ?_⟩)
          · -- ('v',)
            obtain ⟨rb, hrb⟩ := mvS_some (ok := okQ (fun i k => mI M (ad 9 i) k)) (ds := dsP (fun i k => mI M (ad 9 i) k)) (nc := nc) (gsL (gsP (fun i k => mI M (ad 9 i) k) j1) nb) (frP (fun i k => mI M (ad 9 i) k) nb j1) 0 0 (fun _ => -1) none
            rw [hrb] at hC3
            have hra : ∀ t i k, ¬ irR t i k → r3 (ad t i) k = mR M (ad t i) k := fun t i k z => hr3 _ _ (fun y => z (Or.inl ⟨(hi _ _ _ _ y).1, Or.inl (hi _ _ _ _ y).2⟩)) (fun y => z (Or.inl ⟨(hi _ _ _ _ y).1, Or.inr (hi _ _ _ _ y).2⟩))
            have hW2 := hW.mr hra
            have hF := hW2.2.1.1
            have hM := hW2.2.1.2.1
            have hfm : ∀ x k, ¬ x = ad 0 6 → ¬ x = ad 0 12 → ¬ x = ad 0 14 → ¬ x = ad 0 15 → f3 x k = mI M x k := fun x k z1 z2 z3 z4 => (hC3.1 x k (fun z => z1 z.1) z2 z3 z4).trans (hF3 x k z1 z2)
            have hfo : ∀ t i k, ¬ t = 0 → f3 (ad t i) k = mI M (ad t i) k := fun t i k z => hfm _ _ (fun y => z (hi _ _ _ _ y).1) (fun y => z (hi _ _ _ _ y).1) (fun y => z (hi _ _ _ _ y).1) (fun y => z (hi _ _ _ _ y).1)
            show Go 1311 121 0 0 24 [.ref (ad 0 0), .int (nI j1), .int 0] [] (mm (mr M r3) f3 (mJ M)) R
            refine go_blk 1 [] (pc' := 25) (vs' := [.ref (ad 0 0), .int (nI j1), .int 0]) (st' := [.int 0]) (M' := mm (mr M r3) f3 (mJ M)) (ps := []) rfl trivial ?_
            refine go_if rfl (fun (z : ¬ (0 : Int32) = 0) => absurd z (show ¬ (¬ (0 : Int32) = 0) from (by decide))) (fun _ => ?_)
            refine go_blk 4 [some (.ref (ad 0 6)), some (.int (nI rb.1))] (pc' := 45) (vs' := [.ref (ad 0 0), .int (nI j1), .int 0]) (st' := [.int (nI rb.1)]) (M' := mm (mr M r3) f3 (mJ M)) (ps := [ob (mm (mr M r3) f3 (mJ M)) (ad 0 0) 11, mR (mm (mr M r3) f3 (mJ M)) (ad 0 0) 13 = some (ad 0 6), va_rf (some (ad 0 6)) = .ref (ad 0 6), ob (mm (mr M r3) f3 (mJ M)) (ad 0 6) 5, (Value.int (f3 (ad 0 6) 7)) = .int (nI rb.1)]) rfl ⟨(hF.o 0), (hF.r 0 13 6), rfl, (hF.o 6), congrArg Value.int hC3.2.2.2.1, trivial⟩ ?_
            refine go_iret rfl rfl ?_
            refine K _ _ hM.1 rfl (fun R2 h2 => ?_)
            show Go 1311 199 0 0 0 [.ref (ad 10 0), .int (nI j1), .int 0] [] (mm (mr M r3) f3 (mJ M)) R2
            refine go_blk 2 [] (pc' := 2) (vs' := [.ref (ad 10 0), .int (nI j1), .int 0]) (st' := [.int (nI j1), .ref (ad 10 0)]) (M' := mm (mr M r3) f3 (mJ M)) (ps := []) rfl trivial ?_
            refine go_callV rfl rfl rfl (by omega) rfl (by decide) (by decide) hM.1 ?_
            refine s_Mo_findMoves (V := (fun i k => mI M (ad 9 i) k)) (nc := nc) (nb := nb) (wk := wk) (lo := (wk + 1)) (by omega) hM hi nc3 nb3 wk3 ((hfo 10 0 17 (by decide)).trans nc2) ((hfo 10 0 18 (by decide)).trans nb2) ((hfo 10 0 19 (by decide)).trans wk2) (Or.inr ⟨((hfo 10 0 21 (by decide)).trans op2), rfl⟩) (fun i k _ _ _ => hfo 9 i k (by decide)) (fun b hb => (iB.1 b hb).2.1.1) (fun w4 hl4 hj4 hx4 e4 q4 hr4 he4 h264 h274 hg4 => ⟨ne_i, ?_⟩) (fun hn4 e4 he4 => ⟨ne_i, ?_⟩)
            · -- ('i', '1')
              obtain rfl : j1 = w4 := (nI_eqs (by omega) (by omega)).mp hx4
              obtain rfl : rb = q4 := by rw [hrb] at hr4; exact Option.some.inj hr4
              show Go 1311 199 0 0 5 [.ref (ad 10 0), .int (nI j1), .int 0] [.int 1] (mm (mr M r3) e4 (mJ M)) R2
              refine go_if rfl (fun (z : (1 : Int32) = 0) => absurd z (show ¬ ((1 : Int32) = 0) from (by decide))) (fun _ => ?_)
              refine go_blk 3 [] (pc' := 11) (vs' := [.ref (ad 10 0), .int (nI j1), .int 0]) (st' := [.int 1, .int 0, .int 0]) (M' := mm (mr M r3) e4 (mJ M)) (ps := []) rfl trivial ?_
              refine go_callS rfl (by decide) rfl rfl (by omega) rfl (by decide) (by decide) ?_
              refine s_Mo_isInK 0 1 (by decide) (by decide) (fun j5 hl5 hj5 hx5 => ⟨ne_i, ?_⟩) (fun c5 => ⟨ne_i, ?_⟩)
              · -- 1
                show Go 1311 199 0 0 14 [.ref (ad 10 0), .int (nI j1), .int 0] [.int 1] (mm (mr M r3) e4 (mJ M)) R2
                refine go_if rfl (fun (z : (1 : Int32) = 0) => absurd z (show ¬ ((1 : Int32) = 0) from (by decide))) (fun _ => ?_)
                refine go_blk 1 [] (pc' := 18) (vs' := [.ref (ad 10 0), .int (nI j1), .int 0]) (st' := [.int 0]) (M' := mm (mr M r3) e4 (mJ M)) (ps := []) rfl trivial ?_
                refine go_if rfl (fun (z : ¬ (0 : Int32) = 0) => absurd z (show ¬ (¬ (0 : Int32) = 0) from (by decide))) (fun _ => ?_)
                refine go_blk 3 [some (.int (nI rb.1))] (pc' := 36) (vs' := [.ref (ad 10 0), .int (nI j1), .int 0]) (st' := [.int (nI rb.1)]) (M' := mm (mr M r3) e4 (mJ M)) (ps := [ob (mm (mr M r3) e4 (mJ M)) (ad 10 0) 12, (Value.int (e4 (ad 10 0) 26)) = .int (nI rb.1)]) rfl ⟨hM.1, congrArg Value.int h264, trivial⟩ ?_
                refine go_iret rfl rfl ?_
                have hWe : WI (mm (mr M r3) e4 (mJ M)) ad nc nb nt wk nw nx nl ne nk kd true := hW2.keep (fun t i k hq => ?_) (fun _ _ _ _ => rfl)
                · exact h2 _ ⟨hsc, ad, nc, nb, nt, wk, nw, nx, nl, ne, nk, kd, true, rfl, rfl, rfl, hWe⟩
                have hn : ¬ (t = 10 ∧ (k = 0 ∨ (25 ≤ k ∧ k ≤ 27))) ∧ ¬ (t = 9 ∧ (i = 22 ∨ i = 23 ∨ i = 24)) ∧ ¬ (t = 0 ∧ (i = 6 ∨ (11 ≤ i ∧ i ≤ 15))) := by
                  simp only [irr, Bool.or_eq_false_iff, Bool.and_eq_false_iff, beq_eq_false_iff_ne, decide_eq_false_iff_not, ne_eq] at hq
                  omega
                show e4 (ad t i) k = mI M (ad t i) k
                rw [he4 _ _ (fun z => hn.1 ⟨(hi _ _ _ _ z.1).1, z.2⟩) (fun z => hn.2.1 ⟨(hi _ _ _ _ z).1, by have := (hi _ _ _ _ z).2; omega⟩) (fun z => hn.2.1 ⟨(hi _ _ _ _ z).1, by have := (hi _ _ _ _ z).2; omega⟩) (fun z => hn.2.1 ⟨(hi _ _ _ _ z).1, by have := (hi _ _ _ _ z).2; omega⟩)]
                exact hfm _ _ (fun z => hn.2.2 (by have := hi _ _ _ _ z; omega)) (fun z => hn.2.2 (by have := hi _ _ _ _ z; omega)) (fun z => hn.2.2 (by have := hi _ _ _ _ z; omega)) (fun z => hn.2.2 (by have := hi _ _ _ _ z; omega))
              · exact absurd ⟨0, by decide, by decide, rfl⟩ c5
            · -- ('i', '0')
              exact absurd ⟨j1, hl1, hj1, rfl⟩ hn4
        · -- 1
          show Go 1311 121 0 0 14 [.ref (ad 0 0), .int (nI j1), .int 1] [.int 1] (mm M (mI M) (mJ M)) R
          refine go_if rfl (fun _ => ?_) (fun (z : ¬ (¬ (1 : Int32) = 0)) => absurd (show ¬ (1 : Int32) = 0 from (by decide)) z)
          refine go_blk 2 [] (pc' := 21) (vs' := [.ref (ad 0 0), .int (nI j1), .int 1]) (st' := [.int (nI j1), .ref (ad 0 0)]) (M' := mm M (mI M) (mJ M)) (ps := []) rfl trivial ?_
          refine go_callV rfl rfl rfl (by omega) rfl (by decide) (by decide) (hF.o 0) ?_
          refine s_CY_findMoves (by omega) hW (by omega) (fun r6 F6 f6 hr6 hF6 hG6 hC6 => ⟨ne_v, ?_⟩)
          · -- ('v',)
            obtain ⟨rb, hrb⟩ := mvS_some (ok := okQ (fun i k => mI M (ad 9 i) k)) (ds := dsP (fun i k => mI M (ad 9 i) k)) (nc := nc) (gsL (gsP (fun i k => mI M (ad 9 i) k) j1) nb) (frP (fun i k => mI M (ad 9 i) k) nb j1) 0 0 (fun _ => -1) none
            rw [hrb] at hC6
            have hra : ∀ t i k, ¬ irR t i k → r6 (ad t i) k = mR M (ad t i) k := fun t i k z => hr6 _ _ (fun y => z (Or.inl ⟨(hi _ _ _ _ y).1, Or.inl (hi _ _ _ _ y).2⟩)) (fun y => z (Or.inl ⟨(hi _ _ _ _ y).1, Or.inr (hi _ _ _ _ y).2⟩))
            have hW2 := hW.mr hra
            have hF := hW2.2.1.1
            have hM := hW2.2.1.2.1
            have hfm : ∀ x k, ¬ x = ad 0 6 → ¬ x = ad 0 12 → ¬ x = ad 0 14 → ¬ x = ad 0 15 → f6 x k = mI M x k := fun x k z1 z2 z3 z4 => (hC6.1 x k (fun z => z1 z.1) z2 z3 z4).trans (hF6 x k z1 z2)
            have hfo : ∀ t i k, ¬ t = 0 → f6 (ad t i) k = mI M (ad t i) k := fun t i k z => hfm _ _ (fun y => z (hi _ _ _ _ y).1) (fun y => z (hi _ _ _ _ y).1) (fun y => z (hi _ _ _ _ y).1) (fun y => z (hi _ _ _ _ y).1)
            show Go 1311 121 0 0 24 [.ref (ad 0 0), .int (nI j1), .int 1] [] (mm (mr M r6) f6 (mJ M)) R
            refine go_blk 1 [] (pc' := 25) (vs' := [.ref (ad 0 0), .int (nI j1), .int 1]) (st' := [.int 1]) (M' := mm (mr M r6) f6 (mJ M)) (ps := []) rfl trivial ?_
            refine go_if rfl (fun _ => ?_) (fun (z : ¬ (¬ (1 : Int32) = 0)) => absurd (show ¬ (1 : Int32) = 0 from (by decide)) z)
            refine go_blk 3 [some (.ref (ad 0 6)), some (.int rb.2.1)] (pc' := 45) (vs' := [.ref (ad 0 0), .int (nI j1), .int 1]) (st' := [.int rb.2.1]) (M' := mm (mr M r6) f6 (mJ M)) (ps := [ob (mm (mr M r6) f6 (mJ M)) (ad 0 0) 11, mR (mm (mr M r6) f6 (mJ M)) (ad 0 0) 13 = some (ad 0 6), va_rf (some (ad 0 6)) = .ref (ad 0 6), ob (mm (mr M r6) f6 (mJ M)) (ad 0 6) 5, (Value.int (f6 (ad 0 6) 8)) = .int rb.2.1]) rfl ⟨(hF.o 0), (hF.r 0 13 6), rfl, (hF.o 6), congrArg Value.int hC6.2.2.2.2.1, trivial⟩ ?_
            refine go_iret rfl rfl ?_
            refine K _ _ hM.1 rfl (fun R2 h2 => ?_)
            show Go 1311 199 0 0 0 [.ref (ad 10 0), .int (nI j1), .int 1] [] (mm (mr M r6) f6 (mJ M)) R2
            refine go_blk 2 [] (pc' := 2) (vs' := [.ref (ad 10 0), .int (nI j1), .int 1]) (st' := [.int (nI j1), .ref (ad 10 0)]) (M' := mm (mr M r6) f6 (mJ M)) (ps := []) rfl trivial ?_
            refine go_callV rfl rfl rfl (by omega) rfl (by decide) (by decide) hM.1 ?_
            refine s_Mo_findMoves (V := (fun i k => mI M (ad 9 i) k)) (nc := nc) (nb := nb) (wk := wk) (lo := (wk + 1)) (by omega) hM hi nc3 nb3 wk3 ((hfo 10 0 17 (by decide)).trans nc2) ((hfo 10 0 18 (by decide)).trans nb2) ((hfo 10 0 19 (by decide)).trans wk2) (Or.inr ⟨((hfo 10 0 21 (by decide)).trans op2), rfl⟩) (fun i k _ _ _ => hfo 9 i k (by decide)) (fun b hb => (iB.1 b hb).2.1.1) (fun w7 hl7 hj7 hx7 e7 q7 hr7 he7 h267 h277 hg7 => ⟨ne_i, ?_⟩) (fun hn7 e7 he7 => ⟨ne_i, ?_⟩)
            · -- ('i', '1')
              obtain rfl : j1 = w7 := (nI_eqs (by omega) (by omega)).mp hx7
              obtain rfl : rb = q7 := by rw [hrb] at hr7; exact Option.some.inj hr7
              show Go 1311 199 0 0 5 [.ref (ad 10 0), .int (nI j1), .int 1] [.int 1] (mm (mr M r6) e7 (mJ M)) R2
              refine go_if rfl (fun (z : (1 : Int32) = 0) => absurd z (show ¬ ((1 : Int32) = 0) from (by decide))) (fun _ => ?_)
              refine go_blk 3 [] (pc' := 11) (vs' := [.ref (ad 10 0), .int (nI j1), .int 1]) (st' := [.int 1, .int 0, .int 1]) (M' := mm (mr M r6) e7 (mJ M)) (ps := []) rfl trivial ?_
              refine go_callS rfl (by decide) rfl rfl (by omega) rfl (by decide) (by decide) ?_
              refine s_Mo_isInK 0 1 (by decide) (by decide) (fun j8 hl8 hj8 hx8 => ⟨ne_i, ?_⟩) (fun c8 => ⟨ne_i, ?_⟩)
              · -- 1
                show Go 1311 199 0 0 14 [.ref (ad 10 0), .int (nI j1), .int 1] [.int 1] (mm (mr M r6) e7 (mJ M)) R2
                refine go_if rfl (fun (z : (1 : Int32) = 0) => absurd z (show ¬ ((1 : Int32) = 0) from (by decide))) (fun _ => ?_)
                refine go_blk 1 [] (pc' := 18) (vs' := [.ref (ad 10 0), .int (nI j1), .int 1]) (st' := [.int 1]) (M' := mm (mr M r6) e7 (mJ M)) (ps := []) rfl trivial ?_
                refine go_if rfl (fun _ => ?_) (fun (z : ¬ (¬ (1 : Int32) = 0)) => absurd (show ¬ (1 : Int32) = 0 from (by decide)) z)
                refine go_blk 3 [some (.int rb.2.1)] (pc' := 36) (vs' := [.ref (ad 10 0), .int (nI j1), .int 1]) (st' := [.int rb.2.1]) (M' := mm (mr M r6) e7 (mJ M)) (ps := [ob (mm (mr M r6) e7 (mJ M)) (ad 10 0) 12, (Value.int (e7 (ad 10 0) 27)) = .int rb.2.1]) rfl ⟨hM.1, congrArg Value.int h277, trivial⟩ ?_
                refine go_iret rfl rfl ?_
                have hWe : WI (mm (mr M r6) e7 (mJ M)) ad nc nb nt wk nw nx nl ne nk kd true := hW2.keep (fun t i k hq => ?_) (fun _ _ _ _ => rfl)
                · exact h2 _ ⟨hsc, ad, nc, nb, nt, wk, nw, nx, nl, ne, nk, kd, true, rfl, rfl, rfl, hWe⟩
                have hn : ¬ (t = 10 ∧ (k = 0 ∨ (25 ≤ k ∧ k ≤ 27))) ∧ ¬ (t = 9 ∧ (i = 22 ∨ i = 23 ∨ i = 24)) ∧ ¬ (t = 0 ∧ (i = 6 ∨ (11 ≤ i ∧ i ≤ 15))) := by
                  simp only [irr, Bool.or_eq_false_iff, Bool.and_eq_false_iff, beq_eq_false_iff_ne, decide_eq_false_iff_not, ne_eq] at hq
                  omega
                show e7 (ad t i) k = mI M (ad t i) k
                rw [he7 _ _ (fun z => hn.1 ⟨(hi _ _ _ _ z.1).1, z.2⟩) (fun z => hn.2.1 ⟨(hi _ _ _ _ z).1, by have := (hi _ _ _ _ z).2; omega⟩) (fun z => hn.2.1 ⟨(hi _ _ _ _ z).1, by have := (hi _ _ _ _ z).2; omega⟩) (fun z => hn.2.1 ⟨(hi _ _ _ _ z).1, by have := (hi _ _ _ _ z).2; omega⟩)]
                exact hfm _ _ (fun z => hn.2.2 (by have := hi _ _ _ _ z; omega)) (fun z => hn.2.2 (by have := hi _ _ _ _ z; omega)) (fun z => hn.2.2 (by have := hi _ _ _ _ z; omega)) (fun z => hn.2.2 (by have := hi _ _ _ _ z; omega))
              · exact absurd ⟨1, by decide, by decide, rfl⟩ c8
            · -- ('i', '0')
              exact absurd ⟨j1, hl1, hj1, rfl⟩ hn7
      · -- 0
        show Go 1311 121 0 0 14 [.ref (ad 0 0), .int (nI j1), .int a2] [.int 0] (mm M (mI M) (mJ M)) R
        refine go_if rfl (fun (z : ¬ (0 : Int32) = 0) => absurd z (show ¬ (¬ (0 : Int32) = 0) from (by decide))) (fun _ => ?_)
        refine go_blk 1 [] (pc' := 18) (vs' := [.ref (ad 0 0), .int (nI j1), .int a2]) (st' := [.int (-1)]) (M' := mm M (mI M) (mJ M)) (ps := []) rfl trivial ?_
        refine go_iret rfl rfl ?_
        refine K _ _ hM.1 rfl (fun R2 h2 => ?_)
        show Go 1311 199 0 0 0 [.ref (ad 10 0), .int (nI j1), .int a2] [] (mm M (mI M) (mJ M)) R2
        refine go_blk 2 [] (pc' := 2) (vs' := [.ref (ad 10 0), .int (nI j1), .int a2]) (st' := [.int (nI j1), .ref (ad 10 0)]) (M' := mm M (mI M) (mJ M)) (ps := []) rfl trivial ?_
        refine go_callV rfl rfl rfl (by omega) rfl (by decide) (by decide) hM.1 ?_
        refine s_Mo_findMoves (V := (fun i k => mI M (ad 9 i) k)) (nc := nc) (nb := nb) (wk := wk) (lo := (wk + 1)) (by omega) hM hi nc3 nb3 wk3 nc2 nb2 wk2 (Or.inr ⟨op2, rfl⟩) (fun i k _ _ _ => rfl) (fun b hb => (iB.1 b hb).2.1.1) (fun w9 hl9 hj9 hx9 e9 q9 hr9 he9 h269 h279 hg9 => ⟨ne_i, ?_⟩) (fun hn9 e9 he9 => ⟨ne_i, ?_⟩)
        · -- ('i', '1')
          obtain rfl : j1 = w9 := (nI_eqs (by omega) (by omega)).mp hx9
          show Go 1311 199 0 0 5 [.ref (ad 10 0), .int (nI j1), .int a2] [.int 1] (mm M e9 (mJ M)) R2
          refine go_if rfl (fun (z : (1 : Int32) = 0) => absurd z (show ¬ ((1 : Int32) = 0) from (by decide))) (fun _ => ?_)
          refine go_blk 3 [] (pc' := 11) (vs' := [.ref (ad 10 0), .int (nI j1), .int a2]) (st' := [.int 1, .int 0, .int a2]) (M' := mm M e9 (mJ M)) (ps := []) rfl trivial ?_
          refine go_callS rfl (by decide) rfl rfl (by omega) rfl (by decide) (by decide) ?_
          refine s_Mo_isInK 0 1 (by decide) (by decide) (fun j10 hl10 hj10 hx10 => ⟨ne_i, ?_⟩) (fun c10 => ⟨ne_i, ?_⟩)
          · exact absurd ⟨j10, hl10, hj10, hx10⟩ c2
          · -- 0
            show Go 1311 199 0 0 14 [.ref (ad 10 0), .int (nI j1), .int a2] [.int 0] (mm M e9 (mJ M)) R2
            refine go_if rfl (fun _ => ?_) (fun (z : ¬ ((0 : Int32) = 0)) => absurd (show (0 : Int32) = 0 from (by decide)) z)
            refine go_blk 1 [] (pc' := 36) (vs' := [.ref (ad 10 0), .int (nI j1), .int a2]) (st' := [.int (-1)]) (M' := mm M e9 (mJ M)) (ps := []) rfl trivial ?_
            refine go_iret rfl rfl ?_
            have hWe : WI (mm M e9 (mJ M)) ad nc nb nt wk nw nx nl ne nk kd true := hW.keep (fun t i k hq => ?_) (fun _ _ _ _ => rfl)
            · exact h2 _ ⟨hsc, ad, nc, nb, nt, wk, nw, nx, nl, ne, nk, kd, true, rfl, rfl, rfl, hWe⟩
            have hn : ¬ (t = 10 ∧ (k = 0 ∨ (25 ≤ k ∧ k ≤ 27))) ∧ ¬ (t = 9 ∧ (i = 22 ∨ i = 23 ∨ i = 24)) ∧ ¬ (t = 0 ∧ (i = 6 ∨ (11 ≤ i ∧ i ≤ 15))) := by
              simp only [irr, Bool.or_eq_false_iff, Bool.and_eq_false_iff, beq_eq_false_iff_ne, decide_eq_false_iff_not, ne_eq] at hq
              omega
            show e9 (ad t i) k = mI M (ad t i) k
            rw [he9 _ _ (fun z => hn.1 ⟨(hi _ _ _ _ z.1).1, z.2⟩) (fun z => hn.2.1 ⟨(hi _ _ _ _ z).1, by have := (hi _ _ _ _ z).2; omega⟩) (fun z => hn.2.1 ⟨(hi _ _ _ _ z).1, by have := (hi _ _ _ _ z).2; omega⟩) (fun z => hn.2.1 ⟨(hi _ _ _ _ z).1, by have := (hi _ _ _ _ z).2; omega⟩)]
        · -- ('i', '0')
          exact absurd ⟨j1, hl1, hj1, rfl⟩ hn9
    · -- 0
      show Go 1311 121 0 0 5 [.ref (ad 0 0), .int a1, .int a2] [.int 0] (mm M (mI M) (mJ M)) R
      refine go_if rfl (fun _ => ?_) (fun (z : ¬ ((0 : Int32) = 0)) => absurd (show (0 : Int32) = 0 from (by decide)) z)
      refine go_blk 1 [] (pc' := 18) (vs' := [.ref (ad 0 0), .int a1, .int a2]) (st' := [.int (-1)]) (M' := mm M (mI M) (mJ M)) (ps := []) rfl trivial ?_
      refine go_iret rfl rfl ?_
      refine K _ _ hM.1 rfl (fun R2 h2 => ?_)
      show Go 1311 199 0 0 0 [.ref (ad 10 0), .int a1, .int a2] [] (mm M (mI M) (mJ M)) R2
      refine go_blk 2 [] (pc' := 2) (vs' := [.ref (ad 10 0), .int a1, .int a2]) (st' := [.int a1, .ref (ad 10 0)]) (M' := mm M (mI M) (mJ M)) (ps := []) rfl trivial ?_
      refine go_callV rfl rfl rfl (by omega) rfl (by decide) (by decide) hM.1 ?_
      refine s_Mo_findMoves (V := (fun i k => mI M (ad 9 i) k)) (nc := nc) (nb := nb) (wk := wk) (lo := (wk + 1)) (by omega) hM hi nc3 nb3 wk3 nc2 nb2 wk2 (Or.inr ⟨op2, rfl⟩) (fun i k _ _ _ => rfl) (fun b hb => (iB.1 b hb).2.1.1) (fun w11 hl11 hj11 hx11 e11 q11 hr11 he11 h2611 h2711 hg11 => ⟨ne_i, ?_⟩) (fun hn11 e11 he11 => ⟨ne_i, ?_⟩)
      · -- ('i', '1')
        exact absurd ⟨w11, hl11, hj11, hx11⟩ c1
      · -- ('i', '0')
        show Go 1311 199 0 0 5 [.ref (ad 10 0), .int a1, .int a2] [.int 0] (mm M e11 (mJ M)) R2
        refine go_if rfl (fun _ => ?_) (fun (z : ¬ ((0 : Int32) = 0)) => absurd (show (0 : Int32) = 0 from (by decide)) z)
        refine go_blk 1 [] (pc' := 36) (vs' := [.ref (ad 10 0), .int a1, .int a2]) (st' := [.int (-1)]) (M' := mm M e11 (mJ M)) (ps := []) rfl trivial ?_
        refine go_iret rfl rfl ?_
        have hWe : WI (mm M e11 (mJ M)) ad nc nb nt wk nw nx nl ne nk kd true := hW.keep (fun t i k hq => ?_) (fun _ _ _ _ => rfl)
        · exact h2 _ ⟨hsc, ad, nc, nb, nt, wk, nw, nx, nl, ne, nk, kd, true, rfl, rfl, rfl, hWe⟩
        have hn : ¬ (t = 10 ∧ (k = 0 ∨ (25 ≤ k ∧ k ≤ 27))) ∧ ¬ (t = 9 ∧ (i = 22 ∨ i = 23 ∨ i = 24)) ∧ ¬ (t = 0 ∧ (i = 6 ∨ (11 ≤ i ∧ i ≤ 15))) := by
          simp only [irr, Bool.or_eq_false_iff, Bool.and_eq_false_iff, beq_eq_false_iff_ne, decide_eq_false_iff_not, ne_eq] at hq
          omega
        show e11 (ad t i) k = mI M (ad t i) k
        rw [he11 _ _ (fun z => hn.1 ⟨(hi _ _ _ _ z.1).1, z.2⟩) (fun z => hn.2.1 ⟨(hi _ _ _ _ z).1, by have := (hi _ _ _ _ z).2; omega⟩) (fun z => hn.2.1 ⟨(hi _ _ _ _ z).1, by have := (hi _ _ _ _ z).2; omega⟩) (fun z => hn.2.1 ⟨(hi _ _ _ _ z).1, by have := (hi _ _ _ _ z).2; omega⟩)]

