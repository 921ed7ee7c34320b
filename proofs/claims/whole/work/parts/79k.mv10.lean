/-! call: move, both sides -/
set_option maxHeartbeats 20000000 in
set_option maxRecDepth 100000 in
theorem op7 {x o u : Nat} {sc : Nat × Nat × (Nat → Int32)} : Op7 (II x o u sc) x o := by
  intro M a1 hI R K
  obtain ⟨hsc, ad, nc, nb, nt, wk, nw, nx, nl, ne, nk, kd, op, rfl, rfl, rfl, hW⟩ := hI
  obtain ⟨hi, ⟨hF, hM, hC, hB, hT, hX⟩, ⟨iS, iC, iB, iR, iL, iT⟩, ⟨jO, jR, jB, jX, jL⟩, kO, kC, kD, kP, kX⟩ := id hW
  obtain ⟨⟨nc1, nc2, nc3⟩, ⟨nb1, nb2, nb3⟩, ⟨nt1, nt2, nt3⟩, ⟨wk1, wk2, wk3⟩, ⟨nw1, nw2, nw3⟩, ⟨op1, op2, op3⟩, ncm, ncm1, ncm2, ncm3⟩ := id iS
  simp only [vw] at nc1 nc2 nb1 nb2 nt1 nt2 wk1 wk2 nw1 nw2 op1 op2 ncm2 ncm3
  obtain ⟨nn, nn3, nn1, nn2, nnb⟩ := jX.2.1
  simp only [vw] at nn1 nn2
  have nl3 := jL.1.2.2.1
  have nx3 := jX.1.2.2
  have nk3 := jB.1.2.2.2.2.1
  have ne3 := jB.1.2.2.2.2.2
  rcases op with _ | _
  · replace op1 : mI M (ad 0 0) 8 = 0 := op1
    replace op2 : mI M (ad 10 0) 21 = 0 := op2
    show Go 1311 123 0 0 0 [.ref (ad 0 0), .int a1] [] (mm M (mI M) (mJ M)) R
    refine go_blk 2 [] (pc' := 2) (vs' := [.ref (ad 0 0), .int a1]) (st' := [.int a1, .ref (ad 0 0)]) (M' := mm M (mI M) (mJ M)) (ps := []) rfl trivial ?_
    refine go_callV rfl rfl rfl (by omega) rfl (by decide) (by decide) (hF.o 0) ?_
    refine s_CY_isToComeK (wk := wk) (lo := wk) (by omega) hF wk1 wk3 (Or.inl ⟨op1, rfl⟩) (fun j1 hl1 hj1 hx1 => ⟨ne_i, ?_⟩) (fun c1 => ⟨ne_i, ?_⟩)
    · -- 1
      subst hx1
      show Go 1311 123 0 0 5 [.ref (ad 0 0), .int (nI j1)] [.int 1] (mm M (mI M) (mJ M)) R
      refine go_if rfl (fun _ => ?_) (fun (z : ¬ (¬ (1 : Int32) = 0)) => absurd (show ¬ (1 : Int32) = 0 from (by decide)) z)
      refine go_blk 2 [] (pc' := 12) (vs' := [.ref (ad 0 0), .int (nI j1)]) (st' := [.int (nI j1), .ref (ad 0 0)]) (M' := mm M (mI M) (mJ M)) (ps := []) rfl trivial ?_
      refine go_callV rfl rfl rfl (by omega) rfl (by decide) (by decide) (hF.o 0) ?_
      refine s_CY_findMoves (by omega) hW (by omega) (fun r2 F2 f2 hr2 hF2 hG2 hC2 => ⟨ne_v, ?_⟩)
      · -- ('v',)
        obtain ⟨rb, hrb⟩ := mvS_some (ok := okQ (fun i k => mI M (ad 9 i) k)) (ds := dsP (fun i k => mI M (ad 9 i) k)) (nc := nc) (gsL (gsP (fun i k => mI M (ad 9 i) k) j1) nb) (frP (fun i k => mI M (ad 9 i) k) nb j1) 0 0 (fun _ => -1) none
        rw [hrb] at hC2
        have hra : ∀ t i k, ¬ irR t i k → r2 (ad t i) k = mR M (ad t i) k := fun t i k z => hr2 _ _ (fun y => z (Or.inl ⟨(hi _ _ _ _ y).1, Or.inl (hi _ _ _ _ y).2⟩)) (fun y => z (Or.inl ⟨(hi _ _ _ _ y).1, Or.inr (hi _ _ _ _ y).2⟩))
        have hW2 := hW.mr hra
        have hF := hW2.2.1.1
        have hM := hW2.2.1.2.1
        have hfm : ∀ x k, ¬ x = ad 0 6 → ¬ x = ad 0 12 → ¬ x = ad 0 14 → ¬ x = ad 0 15 → f2 x k = mI M x k := fun x k z1 z2 z3 z4 => (hC2.1 x k (fun z => z1 z.1) z2 z3 z4).trans (hF2 x k z1 z2)
        have hfo : ∀ t i k, ¬ t = 0 → f2 (ad t i) k = mI M (ad t i) k := fun t i k z => hfm _ _ (fun y => z (hi _ _ _ _ y).1) (fun y => z (hi _ _ _ _ y).1) (fun y => z (hi _ _ _ _ y).1) (fun y => z (hi _ _ _ _ y).1)
        show Go 1311 123 0 0 15 [.ref (ad 0 0), .int (nI j1)] [] (mm (mr M r2) f2 (mJ M)) R
        refine go_blk 2 [some (.ref (ad 0 6))] (pc' := 19) (vs' := [.ref (ad 0 0), .int (nI j1)]) (st' := [.ref (ad 0 6)]) (M' := mm (mr M r2) f2 (mJ M)) (ps := [ob (mm (mr M r2) f2 (mJ M)) (ad 0 0) 11, mR (mm (mr M r2) f2 (mJ M)) (ad 0 0) 13 = some (ad 0 6), va_rf (some (ad 0 6)) = .ref (ad 0 6)]) rfl ⟨(hF.o 0), (hF.r 0 13 6), rfl, trivial⟩ ?_
        refine go_callV rfl rfl rfl (by omega) rfl (by decide) (by decide) (hF.o 6) ?_
        refine s_Mv_carryOut hG2 hC2 (fun fc hc1 hc2 => ⟨ne_v, ?_⟩)
        · -- ('v',)
          have hfo1 := hfo
          have hfo2 : ∀ t i k, ¬ t = 0 → ¬ t = 2 → fc (ad t i) k = mI M (ad t i) k := fun t i k z1 z2 => (hc1 _ _ (fun b hb y => z2 (hi _ _ _ _ y.1).1)).trans (hfo t i k z1)
          show Go 1311 123 0 0 22 [.ref (ad 0 0), .int (nI j1)] [] (mm (mr M r2) fc (mJ M)) R
          refine go_blk 3 [some (.ref (ad 0 6)), some (.int (nI rb.1))] (pc' := 29) (vs' := [.ref (ad 0 0), .int (nI j1)]) (st' := [.int (nI rb.1)]) (M' := mm (mr M r2) fc (mJ M)) (ps := [ob (mm (mr M r2) fc (mJ M)) (ad 0 0) 11, mR (mm (mr M r2) fc (mJ M)) (ad 0 0) 13 = some (ad 0 6), va_rf (some (ad 0 6)) = .ref (ad 0 6), ob (mm (mr M r2) fc (mJ M)) (ad 0 6) 5, (Value.int (fc (ad 0 6) 7)) = .int (nI rb.1)]) rfl ⟨(hF.o 0), (hF.r 0 13 6), rfl, (hF.o 6), congrArg Value.int ((hc1 _ _ (fun b hb y => absurd (hi _ _ _ _ y.1).1 (by decide))).trans hC2.2.2.2.1), trivial⟩ ?_
          refine go_iret rfl rfl ?_
          refine K _ _ hM.1 rfl (fun R2 h2 => ?_)
          show Go 1311 201 0 0 0 [.ref (ad 10 0), .int (nI j1), .retAddr 0] [] (mm (mr M r2) fc (mJ M)) R2
          refine go_blk 2 [] (pc' := 2) (vs' := [.ref (ad 10 0), .int (nI j1), .retAddr 0]) (st' := [.int (nI j1), .ref (ad 10 0)]) (M' := mm (mr M r2) fc (mJ M)) (ps := []) rfl trivial ?_
          have hfo := fun t i k (z1 : ¬ t = 0) (z2 : ¬ t = 2) => hfo2 t i k z1 z2
          refine go_callV rfl rfl rfl (by omega) rfl (by decide) (by decide) hM.1 ?_
          refine s_Mo_findMoves (V := (fun i k => mI M (ad 9 i) k)) (nc := nc) (nb := nb) (wk := wk) (lo := wk) (by omega) hM hi nc3 nb3 wk3 ((hfo 10 0 17 (by decide) (by decide)).trans nc2) ((hfo 10 0 18 (by decide) (by decide)).trans nb2) ((hfo 10 0 19 (by decide) (by decide)).trans wk2) (Or.inl ⟨((hfo 10 0 21 (by decide) (by decide)).trans op2), rfl⟩) (fun i k _ _ _ => hfo 9 i k (by decide) (by decide)) (fun b hb => (iB.1 b hb).2.1.1) (fun w4 hl4 hj4 hx4 e4 q4 hr4 he4 h264 h274 hg4 => ⟨ne_i, ?_⟩) (fun hn4 e4 he4 => ⟨ne_i, ?_⟩)
          · -- ('i', '1')
            obtain rfl : j1 = w4 := (nI_eqs (by omega) (by omega)).mp hx4
            obtain rfl : rb = q4 := by rw [hrb] at hr4; exact Option.some.inj hr4
            show Go 1311 201 0 0 5 [.ref (ad 10 0), .int (nI j1), .retAddr 0] [.int 1] (mm (mr M r2) e4 (mJ M)) R2
            refine go_if rfl (fun _ => ?_) (fun (z : ¬ (¬ (1 : Int32) = 0)) => absurd (show ¬ (1 : Int32) = 0 from (by decide)) z)
            refine go_blk 2 [] (pc' := 12) (vs' := [.ref (ad 10 0), .int (nI j1), .int 0]) (st' := []) (M' := mm (mr M r2) e4 (mJ M)) (ps := []) rfl trivial ?_
            refine lp_Mo_move (f := e4) (G := rb.2.2) hM hi nb3 ((he4 _ _ (fun z => by omega) (fun z => absurd (hi _ _ _ _ z).1 (by decide)) (fun z => absurd (hi _ _ _ _ z).1 (by decide)) (fun z => absurd (hi _ _ _ _ z).1 (by decide))).trans ((hfo2 10 0 18 (by decide) (by decide)).trans nb2)) hg4 (fun fm hm1 hm2 => ?_) 0 (Nat.zero_le _) e4 (fun _ _ _ => rfl) (fun b hb => by rw [if_pos (Or.inr (Nat.zero_le _)), if_pos (Or.inr (Nat.zero_le _))]; exact ⟨rfl, rfl⟩)
            show Go 1311 201 0 0 61 [.ref (ad 10 0), .int (nI j1), .int (nI nb)] [] (mm (mr M r2) fm (mJ M)) R2
            refine go_blk 2 [some (.int (nI rb.1))] (pc' := 65) (vs' := [.ref (ad 10 0), .int (nI j1), .int (nI nb)]) (st' := [.int (nI rb.1)]) (M' := mm (mr M r2) fm (mJ M)) (ps := [ob (mm (mr M r2) fm (mJ M)) (ad 10 0) 12, (Value.int (fm (ad 10 0) 26)) = .int (nI rb.1)]) rfl ⟨hM.1, congrArg Value.int ((hm1 _ _ (fun z => by rcases z.1 with y | y <;> exact absurd (hi _ _ _ _ y).1 (by decide))).trans h264), trivial⟩ ?_
            refine go_iret rfl rfl ?_
            have gd := mv_gd0 nc3 hrb
            have n9 : ∀ i j, ¬ i = j → ¬ ad 9 i = ad 9 j := fun i j z y => z (hi _ _ _ _ y).2
            have ecl : ∀ t i k, ¬ (t = 10 ∧ (k = 0 ∨ (25 ≤ k ∧ k ≤ 27))) → ¬ (t = 9 ∧ (i = 22 ∨ i = 23 ∨ i = 24)) → e4 (ad t i) k = fc (ad t i) k := fun t i k y1 y2 => he4 _ _ (fun z => y1 ⟨(hi _ _ _ _ z.1).1, z.2⟩) (fun z => y2 ⟨(hi _ _ _ _ z).1, by have := (hi _ _ _ _ z).2; omega⟩) (fun z => y2 ⟨(hi _ _ _ _ z).1, by have := (hi _ _ _ _ z).2; omega⟩) (fun z => y2 ⟨(hi _ _ _ _ z).1, by have := (hi _ _ _ _ z).2; omega⟩)
            have hmt : ∀ t i k, ¬ (t = 9 ∧ (i = 6 ∨ i = 11) ∧ k < nb) → fm (ad t i) k = e4 (ad t i) k := fun t i k y => hm1 _ _ (fun z => y (by rcases z.1 with z1 | z1; exact ⟨(hi _ _ _ _ z1).1, Or.inl (hi _ _ _ _ z1).2, z.2⟩; exact ⟨(hi _ _ _ _ z1).1, Or.inr (hi _ _ _ _ z1).2, z.2⟩))
            have hge : ∀ b, b < nb → rb.2.2 b = -1 ∨ b ∈ gsL (gsP (fun i k => mI M (ad 9 i) k) j1) nb := fun b hb => by
              by_cases z : b ∈ gsL (gsP (fun i k => mI M (ad 9 i) k) j1) nb
              · exact Or.inr z
              · exact Or.inl (gd.1 b z)
            have hWe : WI (mm (mr M r2) fm (mJ M)) ad nc nb nt wk nw nx nl ne nk kd false := by
              refine WI.moved (w := j1) (G := rb.2.2) hW2 ⟨fun z => absurd z (by decide), hl1, hj1⟩ (fun t i k hq hm => ?_) (fun b hb => ?_) (fun b hb => ?_) (fun a b c ha hb hc z1 z2 => ?_)
              · have hn : ¬ (t = 10 ∧ (k = 0 ∨ (25 ≤ k ∧ k ≤ 27))) ∧ ¬ (t = 9 ∧ (i = 22 ∨ i = 23 ∨ i = 24)) ∧ ¬ (t = 0 ∧ (i = 6 ∨ (11 ≤ i ∧ i ≤ 15))) := by
                  simp only [irr, Bool.or_eq_false_iff, Bool.and_eq_false_iff, beq_eq_false_iff_ne, decide_eq_false_iff_not, ne_eq] at hq
                  omega
                show fm (ad t i) k = mI M (ad t i) k
                rw [hmt t i k (fun z => hm (Or.inr z)), ecl t i k hn.1 hn.2.1, hc1 _ _ (fun b hb z => hm (Or.inl ⟨(hi _ _ _ _ z.1).1, by rw [(hi _ _ _ _ z.1).2]; exact (mem_gs.mp hb).1, z.2⟩))]
                exact hfm _ _ (fun z => hn.2.2 (by have := hi _ _ _ _ z; omega)) (fun z => hn.2.2 (by have := hi _ _ _ _ z; omega)) (fun z => hn.2.2 (by have := hi _ _ _ _ z; omega)) (fun z => hn.2.2 (by have := hi _ _ _ _ z; omega))
              · have q0 : mI M (ad 2 b) 0 = mI M (ad 9 6) b := (iB.1 b hb).1.1
                have q9 : mI M (ad 2 b) 9 = mI M (ad 9 11) b := (iB.1 b hb).1.2.2.2.2.2.2.2.2.2
                obtain ⟨m1, m2⟩ := hm2 b hb
                have c6 : e4 (ad 9 6) b = mI M (ad 9 6) b := (ecl 9 6 b (by omega) (by omega)).trans (hfo2 9 6 b (by decide) (by decide))
                have c11 : e4 (ad 9 11) b = mI M (ad 9 11) b := (ecl 9 11 b (by omega) (by omega)).trans (hfo2 9 11 b (by decide) (by decide))
                rw [c6] at m1
                rw [c11] at m2
                have d0 : fm (ad 2 b) 0 = fc (ad 2 b) 0 := (hmt 2 b 0 (by omega)).trans (ecl 2 b 0 (by omega) (by omega))
                have d9 : fm (ad 2 b) 9 = fc (ad 2 b) 9 := (hmt 2 b 9 (by omega)).trans (ecl 2 b 9 (by omega) (by omega))
                have f0 : f2 (ad 2 b) 0 = mI M (ad 9 6) b := (hfo1 2 b 0 (by decide)).trans q0
                have f9 : f2 (ad 2 b) 9 = mI M (ad 9 11) b := (hfo1 2 b 9 (by decide)).trans q9
                show fm (ad 2 b) 0 = fm (ad 9 6) b ∧ fm (ad 9 6) b = (if rb.2.2 b = -1 then mI M (ad 9 6) b else rb.2.2 b) ∧ fm (ad 2 b) 9 = fm (ad 9 11) b
                rw [d0, d9, m1, m2]
                by_cases z : b ∈ gsL (gsP (fun i k => mI M (ad 9 i) k) j1) nb
                · obtain ⟨y1, y2⟩ := hc2 b z
                  rw [y1, y2, f0, f9]; exact ⟨rfl, rfl, rfl⟩
                · rw [hc1 _ _ (fun a ha y => z (by rw [(hi _ _ _ _ y.1).2]; exact ha)), hc1 _ _ (fun a ha y => z (by rw [(hi _ _ _ _ y.1).2]; exact ha)), f0, f9, if_pos (gd.1 b z), if_pos (gd.1 b z)]; exact ⟨rfl, rfl, rfl⟩
              · rcases hge b hb with z | z
                · exact Or.inl z
                · obtain ⟨-, y1, y2, -⟩ := mem_gs.mp z
                  rcases gd.2.1 b z with x | ⟨c, x1, x2, x3⟩
                  · exact Or.inl x
                  · exact Or.inr ⟨y1, y2, c, x1, x3, (frP_of.mp x2).2⟩
              · rcases hge a ha with y | y
                · rw [y] at z1; exact absurd z1.symm (nI_m1 (by omega))
                · rcases hge b hb with y' | y'
                  · rw [y'] at z2; exact absurd z2.symm (nI_m1 (by omega))
                  · exact gd.2.2 a b c y y' hc z1 z2
            exact h2 _ ⟨hsc, ad, nc, nb, nt, wk, nw, nx, nl, ne, nk, kd, false, rfl, rfl, rfl, hWe⟩
          · -- ('i', '0')
            exact absurd ⟨j1, hl1, hj1, rfl⟩ hn4
    · -- 0
      show Go 1311 123 0 0 5 [.ref (ad 0 0), .int a1] [.int 0] (mm M (mI M) (mJ M)) R
      refine go_if rfl (fun (z : ¬ (0 : Int32) = 0) => absurd z (show ¬ (¬ (0 : Int32) = 0) from (by decide))) (fun _ => ?_)
      refine go_blk 1 [] (pc' := 9) (vs' := [.ref (ad 0 0), .int a1]) (st' := [.int (-1)]) (M' := mm M (mI M) (mJ M)) (ps := []) rfl trivial ?_
      refine go_iret rfl rfl ?_
      refine K _ _ hM.1 rfl (fun R2 h2 => ?_)
      show Go 1311 201 0 0 0 [.ref (ad 10 0), .int a1, .retAddr 0] [] (mm M (mI M) (mJ M)) R2
      refine go_blk 2 [] (pc' := 2) (vs' := [.ref (ad 10 0), .int a1, .retAddr 0]) (st' := [.int a1, .ref (ad 10 0)]) (M' := mm M (mI M) (mJ M)) (ps := []) rfl trivial ?_
      refine go_callV rfl rfl rfl (by omega) rfl (by decide) (by decide) hM.1 ?_
      refine s_Mo_findMoves (V := (fun i k => mI M (ad 9 i) k)) (nc := nc) (nb := nb) (wk := wk) (lo := wk) (by omega) hM hi nc3 nb3 wk3 nc2 nb2 wk2 (Or.inl ⟨op2, rfl⟩) (fun i k _ _ _ => rfl) (fun b hb => (iB.1 b hb).2.1.1) (fun w5 hl5 hj5 hx5 e5 q5 hr5 he5 h265 h275 hg5 => ⟨ne_i, ?_⟩) (fun hn5 e5 he5 => ⟨ne_i, ?_⟩)
      · -- ('i', '1')
        exact absurd ⟨w5, hl5, hj5, hx5⟩ c1
      · -- ('i', '0')
        show Go 1311 201 0 0 5 [.ref (ad 10 0), .int a1, .retAddr 0] [.int 0] (mm M e5 (mJ M)) R2
        refine go_if rfl (fun (z : ¬ (0 : Int32) = 0) => absurd z (show ¬ (¬ (0 : Int32) = 0) from (by decide))) (fun _ => ?_)
        refine go_blk 1 [] (pc' := 9) (vs' := [.ref (ad 10 0), .int a1, .retAddr 0]) (st' := [.int (-1)]) (M' := mm M e5 (mJ M)) (ps := []) rfl trivial ?_
        refine go_iret rfl rfl ?_
        have hWe : WI (mm M e5 (mJ M)) ad nc nb nt wk nw nx nl ne nk kd false := hW.keep (fun t i k hq => ?_) (fun _ _ _ _ => rfl)
        · exact h2 _ ⟨hsc, ad, nc, nb, nt, wk, nw, nx, nl, ne, nk, kd, false, rfl, rfl, rfl, hWe⟩
        have hn : ¬ (t = 10 ∧ (k = 0 ∨ (25 ≤ k ∧ k ≤ 27))) ∧ ¬ (t = 9 ∧ (i = 22 ∨ i = 23 ∨ i = 24)) ∧ ¬ (t = 0 ∧ (i = 6 ∨ (11 ≤ i ∧ i ≤ 15))) := by
          simp only [irr, Bool.or_eq_false_iff, Bool.and_eq_false_iff, beq_eq_false_iff_ne, decide_eq_false_iff_not, ne_eq] at hq
          omega
        show e5 (ad t i) k = mI M (ad t i) k
        rw [he5 _ _ (fun z => hn.1 ⟨(hi _ _ _ _ z.1).1, z.2⟩) (fun z => hn.2.1 ⟨(hi _ _ _ _ z).1, by have := (hi _ _ _ _ z).2; omega⟩) (fun z => hn.2.1 ⟨(hi _ _ _ _ z).1, by have := (hi _ _ _ _ z).2; omega⟩) (fun z => hn.2.1 ⟨(hi _ _ _ _ z).1, by have := (hi _ _ _ _ z).2; omega⟩)]
  · replace op1 : mI M (ad 0 0) 8 = 1 := op1
    replace op2 : mI M (ad 10 0) 21 = 1 := op2
    replace op3 : wk < 52 := op3 rfl
    show Go 1311 123 0 0 0 [.ref (ad 0 0), .int a1] [] (mm M (mI M) (mJ M)) R
    refine go_blk 2 [] (pc' := 2) (vs' := [.ref (ad 0 0), .int a1]) (st' := [.int a1, .ref (ad 0 0)]) (M' := mm M (mI M) (mJ M)) (ps := []) rfl trivial ?_
    refine go_callV rfl rfl rfl (by omega) rfl (by decide) (by decide) (hF.o 0) ?_
    refine s_CY_isToComeK (wk := wk) (lo := (wk + 1)) (by omega) hF wk1 wk3 (Or.inr ⟨op1, rfl⟩) (fun j1 hl1 hj1 hx1 => ⟨ne_i, ?_⟩) (fun c1 => ⟨ne_i, ?_⟩)
    · -- 1
      subst hx1
      show Go 1311 123 0 0 5 [.ref (ad 0 0), .int (nI j1)] [.int 1] (mm M (mI M) (mJ M)) R
      refine go_if rfl (fun _ => ?_) (fun (z : ¬ (¬ (1 : Int32) = 0)) => absurd (show ¬ (1 : Int32) = 0 from (by decide)) z)
      refine go_blk 2 [] (pc' := 12) (vs' := [.ref (ad 0 0), .int (nI j1)]) (st' := [.int (nI j1), .ref (ad 0 0)]) (M' := mm M (mI M) (mJ M)) (ps := []) rfl trivial ?_
      refine go_callV rfl rfl rfl (by omega) rfl (by decide) (by decide) (hF.o 0) ?_
      refine s_CY_findMoves (by omega) hW (by omega) (fun r2 F2 f2 hr2 hF2 hG2 hC2 => ⟨ne_v, ?_⟩)
      · -- ('v',)
        obtain ⟨rb, hrb⟩ := mvS_some (ok := okQ (fun i k => mI M (ad 9 i) k)) (ds := dsP (fun i k => mI M (ad 9 i) k)) (nc := nc) (gsL (gsP (fun i k => mI M (ad 9 i) k) j1) nb) (frP (fun i k => mI M (ad 9 i) k) nb j1) 0 0 (fun _ => -1) none
        rw [hrb] at hC2
        have hra : ∀ t i k, ¬ irR t i k → r2 (ad t i) k = mR M (ad t i) k := fun t i k z => hr2 _ _ (fun y => z (Or.inl ⟨(hi _ _ _ _ y).1, Or.inl (hi _ _ _ _ y).2⟩)) (fun y => z (Or.inl ⟨(hi _ _ _ _ y).1, Or.inr (hi _ _ _ _ y).2⟩))
        have hW2 := hW.mr hra
        have hF := hW2.2.1.1
        have hM := hW2.2.1.2.1
        have hfm : ∀ x k, ¬ x = ad 0 6 → ¬ x = ad 0 12 → ¬ x = ad 0 14 → ¬ x = ad 0 15 → f2 x k = mI M x k := fun x k z1 z2 z3 z4 => (hC2.1 x k (fun z => z1 z.1) z2 z3 z4).trans (hF2 x k z1 z2)
        have hfo : ∀ t i k, ¬ t = 0 → f2 (ad t i) k = mI M (ad t i) k := fun t i k z => hfm _ _ (fun y => z (hi _ _ _ _ y).1) (fun y => z (hi _ _ _ _ y).1) (fun y => z (hi _ _ _ _ y).1) (fun y => z (hi _ _ _ _ y).1)
        show Go 1311 123 0 0 15 [.ref (ad 0 0), .int (nI j1)] [] (mm (mr M r2) f2 (mJ M)) R
        refine go_blk 2 [some (.ref (ad 0 6))] (pc' := 19) (vs' := [.ref (ad 0 0), .int (nI j1)]) (st' := [.ref (ad 0 6)]) (M' := mm (mr M r2) f2 (mJ M)) (ps := [ob (mm (mr M r2) f2 (mJ M)) (ad 0 0) 11, mR (mm (mr M r2) f2 (mJ M)) (ad 0 0) 13 = some (ad 0 6), va_rf (some (ad 0 6)) = .ref (ad 0 6)]) rfl ⟨(hF.o 0), (hF.r 0 13 6), rfl, trivial⟩ ?_
        refine go_callV rfl rfl rfl (by omega) rfl (by decide) (by decide) (hF.o 6) ?_
        refine s_Mv_carryOut hG2 hC2 (fun fc hc1 hc2 => ⟨ne_v, ?_⟩)
        · -- ('v',)
          have hfo1 := hfo
          have hfo2 : ∀ t i k, ¬ t = 0 → ¬ t = 2 → fc (ad t i) k = mI M (ad t i) k := fun t i k z1 z2 => (hc1 _ _ (fun b hb y => z2 (hi _ _ _ _ y.1).1)).trans (hfo t i k z1)
          show Go 1311 123 0 0 22 [.ref (ad 0 0), .int (nI j1)] [] (mm (mr M r2) fc (mJ M)) R
          refine go_blk 3 [some (.ref (ad 0 6)), some (.int (nI rb.1))] (pc' := 29) (vs' := [.ref (ad 0 0), .int (nI j1)]) (st' := [.int (nI rb.1)]) (M' := mm (mr M r2) fc (mJ M)) (ps := [ob (mm (mr M r2) fc (mJ M)) (ad 0 0) 11, mR (mm (mr M r2) fc (mJ M)) (ad 0 0) 13 = some (ad 0 6), va_rf (some (ad 0 6)) = .ref (ad 0 6), ob (mm (mr M r2) fc (mJ M)) (ad 0 6) 5, (Value.int (fc (ad 0 6) 7)) = .int (nI rb.1)]) rfl ⟨(hF.o 0), (hF.r 0 13 6), rfl, (hF.o 6), congrArg Value.int ((hc1 _ _ (fun b hb y => absurd (hi _ _ _ _ y.1).1 (by decide))).trans hC2.2.2.2.1), trivial⟩ ?_
          refine go_iret rfl rfl ?_
          refine K _ _ hM.1 rfl (fun R2 h2 => ?_)
          show Go 1311 201 0 0 0 [.ref (ad 10 0), .int (nI j1), .retAddr 0] [] (mm (mr M r2) fc (mJ M)) R2
          refine go_blk 2 [] (pc' := 2) (vs' := [.ref (ad 10 0), .int (nI j1), .retAddr 0]) (st' := [.int (nI j1), .ref (ad 10 0)]) (M' := mm (mr M r2) fc (mJ M)) (ps := []) rfl trivial ?_
          have hfo := fun t i k (z1 : ¬ t = 0) (z2 : ¬ t = 2) => hfo2 t i k z1 z2
          refine go_callV rfl rfl rfl (by omega) rfl (by decide) (by decide) hM.1 ?_
          refine s_Mo_findMoves (V := (fun i k => mI M (ad 9 i) k)) (nc := nc) (nb := nb) (wk := wk) (lo := (wk + 1)) (by omega) hM hi nc3 nb3 wk3 ((hfo 10 0 17 (by decide) (by decide)).trans nc2) ((hfo 10 0 18 (by decide) (by decide)).trans nb2) ((hfo 10 0 19 (by decide) (by decide)).trans wk2) (Or.inr ⟨((hfo 10 0 21 (by decide) (by decide)).trans op2), rfl⟩) (fun i k _ _ _ => hfo 9 i k (by decide) (by decide)) (fun b hb => (iB.1 b hb).2.1.1) (fun w4 hl4 hj4 hx4 e4 q4 hr4 he4 h264 h274 hg4 => ⟨ne_i, ?_⟩) (fun hn4 e4 he4 => ⟨ne_i, ?_⟩)
          · -- ('i', '1')
            obtain rfl : j1 = w4 := (nI_eqs (by omega) (by omega)).mp hx4
            obtain rfl : rb = q4 := by rw [hrb] at hr4; exact Option.some.inj hr4
            show Go 1311 201 0 0 5 [.ref (ad 10 0), .int (nI j1), .retAddr 0] [.int 1] (mm (mr M r2) e4 (mJ M)) R2
            refine go_if rfl (fun _ => ?_) (fun (z : ¬ (¬ (1 : Int32) = 0)) => absurd (show ¬ (1 : Int32) = 0 from (by decide)) z)
            refine go_blk 2 [] (pc' := 12) (vs' := [.ref (ad 10 0), .int (nI j1), .int 0]) (st' := []) (M' := mm (mr M r2) e4 (mJ M)) (ps := []) rfl trivial ?_
            refine lp_Mo_move (f := e4) (G := rb.2.2) hM hi nb3 ((he4 _ _ (fun z => by omega) (fun z => absurd (hi _ _ _ _ z).1 (by decide)) (fun z => absurd (hi _ _ _ _ z).1 (by decide)) (fun z => absurd (hi _ _ _ _ z).1 (by decide))).trans ((hfo2 10 0 18 (by decide) (by decide)).trans nb2)) hg4 (fun fm hm1 hm2 => ?_) 0 (Nat.zero_le _) e4 (fun _ _ _ => rfl) (fun b hb => by rw [if_pos (Or.inr (Nat.zero_le _)), if_pos (Or.inr (Nat.zero_le _))]; exact ⟨rfl, rfl⟩)
            show Go 1311 201 0 0 61 [.ref (ad 10 0), .int (nI j1), .int (nI nb)] [] (mm (mr M r2) fm (mJ M)) R2
            refine go_blk 2 [some (.int (nI rb.1))] (pc' := 65) (vs' := [.ref (ad 10 0), .int (nI j1), .int (nI nb)]) (st' := [.int (nI rb.1)]) (M' := mm (mr M r2) fm (mJ M)) (ps := [ob (mm (mr M r2) fm (mJ M)) (ad 10 0) 12, (Value.int (fm (ad 10 0) 26)) = .int (nI rb.1)]) rfl ⟨hM.1, congrArg Value.int ((hm1 _ _ (fun z => by rcases z.1 with y | y <;> exact absurd (hi _ _ _ _ y).1 (by decide))).trans h264), trivial⟩ ?_
            refine go_iret rfl rfl ?_
            have gd := mv_gd0 nc3 hrb
            have n9 : ∀ i j, ¬ i = j → ¬ ad 9 i = ad 9 j := fun i j z y => z (hi _ _ _ _ y).2
            have ecl : ∀ t i k, ¬ (t = 10 ∧ (k = 0 ∨ (25 ≤ k ∧ k ≤ 27))) → ¬ (t = 9 ∧ (i = 22 ∨ i = 23 ∨ i = 24)) → e4 (ad t i) k = fc (ad t i) k := fun t i k y1 y2 => he4 _ _ (fun z => y1 ⟨(hi _ _ _ _ z.1).1, z.2⟩) (fun z => y2 ⟨(hi _ _ _ _ z).1, by have := (hi _ _ _ _ z).2; omega⟩) (fun z => y2 ⟨(hi _ _ _ _ z).1, by have := (hi _ _ _ _ z).2; omega⟩) (fun z => y2 ⟨(hi _ _ _ _ z).1, by have := (hi _ _ _ _ z).2; omega⟩)
            have hmt : ∀ t i k, ¬ (t = 9 ∧ (i = 6 ∨ i = 11) ∧ k < nb) → fm (ad t i) k = e4 (ad t i) k := fun t i k y => hm1 _ _ (fun z => y (by rcases z.1 with z1 | z1; exact ⟨(hi _ _ _ _ z1).1, Or.inl (hi _ _ _ _ z1).2, z.2⟩; exact ⟨(hi _ _ _ _ z1).1, Or.inr (hi _ _ _ _ z1).2, z.2⟩))
            have hge : ∀ b, b < nb → rb.2.2 b = -1 ∨ b ∈ gsL (gsP (fun i k => mI M (ad 9 i) k) j1) nb := fun b hb => by
              by_cases z : b ∈ gsL (gsP (fun i k => mI M (ad 9 i) k) j1) nb
              · exact Or.inr z
              · exact Or.inl (gd.1 b z)
            have hWe : WI (mm (mr M r2) fm (mJ M)) ad nc nb nt wk nw nx nl ne nk kd true := by
              refine WI.moved (w := j1) (G := rb.2.2) hW2 ⟨fun _ => hl1, Nat.le_of_succ_le hl1, hj1⟩ (fun t i k hq hm => ?_) (fun b hb => ?_) (fun b hb => ?_) (fun a b c ha hb hc z1 z2 => ?_)
              · have hn : ¬ (t = 10 ∧ (k = 0 ∨ (25 ≤ k ∧ k ≤ 27))) ∧ ¬ (t = 9 ∧ (i = 22 ∨ i = 23 ∨ i = 24)) ∧ ¬ (t = 0 ∧ (i = 6 ∨ (11 ≤ i ∧ i ≤ 15))) := by
                  simp only [irr, Bool.or_eq_false_iff, Bool.and_eq_false_iff, beq_eq_false_iff_ne, decide_eq_false_iff_not, ne_eq] at hq
                  omega
                show fm (ad t i) k = mI M (ad t i) k
                rw [hmt t i k (fun z => hm (Or.inr z)), ecl t i k hn.1 hn.2.1, hc1 _ _ (fun b hb z => hm (Or.inl ⟨(hi _ _ _ _ z.1).1, by rw [(hi _ _ _ _ z.1).2]; exact (mem_gs.mp hb).1, z.2⟩))]
                exact hfm _ _ (fun z => hn.2.2 (by have := hi _ _ _ _ z; omega)) (fun z => hn.2.2 (by have := hi _ _ _ _ z; omega)) (fun z => hn.2.2 (by have := hi _ _ _ _ z; omega)) (fun z => hn.2.2 (by have := hi _ _ _ _ z; omega))
              · have q0 : mI M (ad 2 b) 0 = mI M (ad 9 6) b := (iB.1 b hb).1.1
                have q9 : mI M (ad 2 b) 9 = mI M (ad 9 11) b := (iB.1 b hb).1.2.2.2.2.2.2.2.2.2
                obtain ⟨m1, m2⟩ := hm2 b hb
                have c6 : e4 (ad 9 6) b = mI M (ad 9 6) b := (ecl 9 6 b (by omega) (by omega)).trans (hfo2 9 6 b (by decide) (by decide))
                have c11 : e4 (ad 9 11) b = mI M (ad 9 11) b := (ecl 9 11 b (by omega) (by omega)).trans (hfo2 9 11 b (by decide) (by decide))
                rw [c6] at m1
                rw [c11] at m2
                have d0 : fm (ad 2 b) 0 = fc (ad 2 b) 0 := (hmt 2 b 0 (by omega)).trans (ecl 2 b 0 (by omega) (by omega))
                have d9 : fm (ad 2 b) 9 = fc (ad 2 b) 9 := (hmt 2 b 9 (by omega)).trans (ecl 2 b 9 (by omega) (by omega))
                have f0 : f2 (ad 2 b) 0 = mI M (ad 9 6) b := (hfo1 2 b 0 (by decide)).trans q0
                have f9 : f2 (ad 2 b) 9 = mI M (ad 9 11) b := (hfo1 2 b 9 (by decide)).trans q9
                show fm (ad 2 b) 0 = fm (ad 9 6) b ∧ fm (ad 9 6) b = (if rb.2.2 b = -1 then mI M (ad 9 6) b else rb.2.2 b) ∧ fm (ad 2 b) 9 = fm (ad 9 11) b
                rw [d0, d9, m1, m2]
                by_cases z : b ∈ gsL (gsP (fun i k => mI M (ad 9 i) k) j1) nb
                · obtain ⟨y1, y2⟩ := hc2 b z
                  rw [y1, y2, f0, f9]; exact ⟨rfl, rfl, rfl⟩
                · rw [hc1 _ _ (fun a ha y => z (by rw [(hi _ _ _ _ y.1).2]; exact ha)), hc1 _ _ (fun a ha y => z (by rw [(hi _ _ _ _ y.1).2]; exact ha)), f0, f9, if_pos (gd.1 b z), if_pos (gd.1 b z)]; exact ⟨rfl, rfl, rfl⟩
              · rcases hge b hb with z | z
                · exact Or.inl z
                · obtain ⟨-, y1, y2, -⟩ := mem_gs.mp z
                  rcases gd.2.1 b z with x | ⟨c, x1, x2, x3⟩
                  · exact Or.inl x
                  · exact Or.inr ⟨y1, y2, c, x1, x3, (frP_of.mp x2).2⟩
              · rcases hge a ha with y | y
                · rw [y] at z1; exact absurd z1.symm (nI_m1 (by omega))
                · rcases hge b hb with y' | y'
                  · rw [y'] at z2; exact absurd z2.symm (nI_m1 (by omega))
                  · exact gd.2.2 a b c y y' hc z1 z2
            exact h2 _ ⟨hsc, ad, nc, nb, nt, wk, nw, nx, nl, ne, nk, kd, true, rfl, rfl, rfl, hWe⟩
          · -- ('i', '0')
            exact absurd ⟨j1, hl1, hj1, rfl⟩ hn4
    · -- 0
      show Go 1311 123 0 0 5 [.ref (ad 0 0), .int a1] [.int 0] (mm M (mI M) (mJ M)) R
      refine go_if rfl (fun (z : ¬ (0 : Int32) = 0) => absurd z (show ¬ (¬ (0 : Int32) = 0) from (by decide))) (fun _ => ?_)
      refine go_blk 1 [] (pc' := 9) (vs' := [.ref (ad 0 0), .int a1]) (st' := [.int (-1)]) (M' := mm M (mI M) (mJ M)) (ps := []) rfl trivial ?_
      refine go_iret rfl rfl ?_
      refine K _ _ hM.1 rfl (fun R2 h2 => ?_)
      show Go 1311 201 0 0 0 [.ref (ad 10 0), .int a1, .retAddr 0] [] (mm M (mI M) (mJ M)) R2
      refine go_blk 2 [] (pc' := 2) (vs' := [.ref (ad 10 0), .int a1, .retAddr 0]) (st' := [.int a1, .ref (ad 10 0)]) (M' := mm M (mI M) (mJ M)) (ps := []) rfl trivial ?_
      refine go_callV rfl rfl rfl (by omega) rfl (by decide) (by decide) hM.1 ?_
      refine s_Mo_findMoves (V := (fun i k => mI M (ad 9 i) k)) (nc := nc) (nb := nb) (wk := wk) (lo := (wk + 1)) (by omega) hM hi nc3 nb3 wk3 nc2 nb2 wk2 (Or.inr ⟨op2, rfl⟩) (fun i k _ _ _ => rfl) (fun b hb => (iB.1 b hb).2.1.1) (fun w5 hl5 hj5 hx5 e5 q5 hr5 he5 h265 h275 hg5 => ⟨ne_i, ?_⟩) (fun hn5 e5 he5 => ⟨ne_i, ?_⟩)
      · -- ('i', '1')
        exact absurd ⟨w5, hl5, hj5, hx5⟩ c1
      · -- ('i', '0')
        show Go 1311 201 0 0 5 [.ref (ad 10 0), .int a1, .retAddr 0] [.int 0] (mm M e5 (mJ M)) R2
        refine go_if rfl (fun (z : ¬ (0 : Int32) = 0) => absurd z (show ¬ (¬ (0 : Int32) = 0) from (by decide))) (fun _ => ?_)
        refine go_blk 1 [] (pc' := 9) (vs' := [.ref (ad 10 0), .int a1, .retAddr 0]) (st' := [.int (-1)]) (M' := mm M e5 (mJ M)) (ps := []) rfl trivial ?_
        refine go_iret rfl rfl ?_
        have hWe : WI (mm M e5 (mJ M)) ad nc nb nt wk nw nx nl ne nk kd true := hW.keep (fun t i k hq => ?_) (fun _ _ _ _ => rfl)
        · exact h2 _ ⟨hsc, ad, nc, nb, nt, wk, nw, nx, nl, ne, nk, kd, true, rfl, rfl, rfl, hWe⟩
        have hn : ¬ (t = 10 ∧ (k = 0 ∨ (25 ≤ k ∧ k ≤ 27))) ∧ ¬ (t = 9 ∧ (i = 22 ∨ i = 23 ∨ i = 24)) ∧ ¬ (t = 0 ∧ (i = 6 ∨ (11 ≤ i ∧ i ≤ 15))) := by
          simp only [irr, Bool.or_eq_false_iff, Bool.and_eq_false_iff, beq_eq_false_iff_ne, decide_eq_false_iff_not, ne_eq] at hq
          omega
        show e5 (ad t i) k = mI M (ad t i) k
        rw [he5 _ _ (fun z => hn.1 ⟨(hi _ _ _ _ z.1).1, z.2⟩) (fun z => hn.2.1 ⟨(hi _ _ _ _ z).1, by have := (hi _ _ _ _ z).2; omega⟩) (fun z => hn.2.1 ⟨(hi _ _ _ _ z).1, by have := (hi _ _ _ _ z).2; omega⟩) (fun z => hn.2.1 ⟨(hi _ _ _ _ z).1, by have := (hi _ _ _ _ z).2; omega⟩)]

