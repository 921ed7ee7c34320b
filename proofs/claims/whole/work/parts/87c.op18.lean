/-! call: plan, all of it -/
theorem FPm.bk {M : Mem} {ad : Nat → Nat → Nat} {nc nb nt wk nw nx nl ne nk kd : Nat} {r : Nat → Nat → Option Nat} {f : Nat → Nat → Int32} {g : Nat → Nat → Int64} (hW : WI M ad nc nb nt wk nw nx nl ne nk kd true) (k : FPm M ad nb nt nc wk nw r f g) : ∃ bk : Nat → Nat, ∀ j, j < (tdL (ppv (vw ad (mI M))) nc wk).length → mR (mr M r) (ad 0 17) j = some (ad 6 (bk j)) ∧ ob (mr M r) (ad 6 (bk j)) 3 ∧ f (ad 6 (bk j)) 1 = nI ((tdL (ppv (vw ad (mI M))) nc wk).getD j 0) := by
  obtain ⟨hi, -, ⟨iS, -⟩, ⟨jO, jR, -⟩, -⟩ := hW
  have key : ∀ j, ∃ b, j < (tdL (ppv (vw ad (mI M))) nc wk).length → mR (mr M r) (ad 0 17) j = some (ad 6 b) ∧ ob (mr M r) (ad 6 b) 3 ∧ f (ad 6 b) 1 = nI ((tdL (ppv (vw ad (mI M))) nc wk).getD j 0) := fun j => by
    by_cases hj : j < (tdL (ppv (vw ad (mI M))) nc wk).length
    · obtain ⟨b, b1, b2, b3, b4⟩ := k.2.2.2.2.1 j _ (List.getElem?_eq_getElem hj)
      refine ⟨b, fun _ => ⟨b4, ((jR.1 b b1).1 b2).2.1, ?_⟩⟩
      have hl := List.getElem_mem hj
      have lc := td_lt hl
      have nc7 := iS.1.2.2
      rw [k.2.1 6 b 1 (by omega) (by omega), List.getD_eq_getElem?_getD, List.getElem?_eq_getElem hj]
      show mI M (ad 6 b) 1 = nI (tdL (ppv (vw ad (mI M))) nc wk)[j]
      obtain ⟨⟨p1, -⟩, -⟩ := jO.1 b b1 b2 _ b3
      obtain ⟨c', w', u1, u2, u3, u4, u5⟩ := id b3
      obtain ⟨-, w2, v1, v2, v3⟩ := id b2
      have ew : w' = w2 := (nI_eqs (by omega) (by omega)).mp (u4.symm.trans v1)
      have ec : c' = (tdL (ppv (vw ad (mI M))) nc wk)[j] := by
        rcases v3 with z | z <;> omega
      rw [← ec]
      exact p1.trans u3
    · exact ⟨0, fun z => absurd z hj⟩
  exact ⟨fun j => Classical.choose (key j), fun j => Classical.choose_spec (key j)⟩

set_option maxHeartbeats 20000000 in
set_option maxRecDepth 100000 in
theorem op18 {x o u : Nat} {sc : Nat × Nat × (Nat → Int32)} : Op18 (II x o u sc) x o := by
  intro M hI R K
  obtain ⟨hsc, ad, nc, nb, nt, wk, nw, nx, nl, ne, nk, kd, op, rfl, rfl, rfl, hW⟩ := hI
  obtain ⟨hi, ⟨hF, hM, hC, hB, hT, hX⟩, ⟨iS, iC, iB, iR, iL, iT⟩, ⟨jO, jR, jB, jX, jL⟩, kO, kC, kD, kP, kX⟩ := id hW
  obtain ⟨⟨nc1, nc2, nc3⟩, ⟨nb1, nb2, nb3⟩, ⟨nt1, nt2, nt3⟩, ⟨wk1, wk2, wk3⟩, ⟨nw1, nw2, nw3⟩, ⟨op1, op2, op3⟩, ncm, ncm1, ncm2, ncm3⟩ := id iS
  simp only [vw] at nc1 nc2 nb1 nb2 nt1 nt2 wk1 wk2 nw1 nw2 op1 op2 ncm2 ncm3
  obtain ⟨nn, nn3, nn1, nn2, nnb⟩ := jX.2.1
  simp only [vw] at nn1 nn2
  have nl3 := jL.1.2.2.1
  have nx3 := jX.1.2.2
  have nk3 := jB.1.2.2.2.2.1
  have ne3 := jB.1.2.2.2.2.2
  rcases op with _ | _
  · replace op1 : mI M (ad 0 0) 8 = 0 := op1
    replace op2 : mI M (ad 10 0) 21 = 0 := op2
    show Go 1311 134 0 0 0 [.ref (ad 0 0), .retAddr 0] [] (mm M (mI M) (mJ M)) R
    refine go_blk 1 [] (pc' := 1) (vs' := [.ref (ad 0 0), .retAddr 0]) (st' := [.ref (ad 0 0)]) (M' := mm M (mI M) (mJ M)) (ps := []) rfl trivial ?_
    refine go_callV rfl rfl rfl (by omega) rfl (by decide) (by decide) (hF.o 0) ?_
    show Go (1311 - 1) 176 0 0 0 [.ref (ad 0 0)] [] (mm M (mI M) (mJ M)) _
    refine go_blk 2 [some (.int 0)] (pc' := 4) (vs' := [.ref (ad 0 0)]) (st' := [.int 0]) (M' := mm M (mI M) (mJ M)) (ps := [ob (mm M (mI M) (mJ M)) (ad 0 0) 11, (Value.int ((mI M) (ad 0 0) 8)) = .int 0]) rfl ⟨(hF.o 0), congrArg Value.int op1, trivial⟩ ?_
    refine go_if rfl (fun (z : ¬ (0 : Int32) = 0) => absurd z (show ¬ (¬ (0 : Int32) = 0) from (by decide))) (fun _ => ?_)
    refine go_blk 1 [] (pc' := 8) (vs' := [.ref (ad 0 0)]) (st' := [.int 0]) (M' := mm M (mI M) (mJ M)) (ps := []) rfl trivial ?_
    refine go_zret rfl rfl (Or.inl rfl) ?_
    refine ⟨ne_i, ?_⟩
    show Go 1311 134 0 0 4 [.ref (ad 0 0), .retAddr 0] [.int 0] (mm M (mI M) (mJ M)) R
    refine go_if rfl (fun (z : ¬ (0 : Int32) = 0) => absurd z (show ¬ (¬ (0 : Int32) = 0) from (by decide))) (fun _ => ?_)
    refine go_blk 1 [] (pc' := 8) (vs' := [.ref (ad 0 0), .retAddr 0]) (st' := [.int 0]) (M' := mm M (mI M) (mJ M)) (ps := []) rfl trivial ?_
    refine go_zret rfl rfl (Or.inl rfl) ?_
    refine K _ _ hM.1 rfl (fun R2 h2 => ?_)
    show Go 1311 222 0 0 0 [.ref (ad 10 0), .retAddr 0] [] (mm M (mI M) (mJ M)) R2
    refine go_blk 1 [] (pc' := 1) (vs' := [.ref (ad 10 0), .retAddr 0]) (st' := [.ref (ad 10 0)]) (M' := mm M (mI M) (mJ M)) (ps := []) rfl trivial ?_
    refine go_callV rfl rfl rfl (by omega) rfl (by decide) (by decide) hM.1 ?_
    show Go (1311 - 1) 220 0 0 0 [.ref (ad 10 0), .retAddr 0] [] (mm M (mI M) (mJ M)) _
    refine go_blk 5 [some (.int 0)] (pc' := 9) (vs' := [.ref (ad 10 0), .retAddr 0]) (st' := [.int 0]) (M' := mm M (up2 (mI M) (ad 10 0) 0 0) (mJ M)) (ps := [ob (mm M (mI M) (mJ M)) (ad 10 0) 12, ob (mm M (up2 (mI M) (ad 10 0) 0 0) (mJ M)) (ad 10 0) 12, (Value.int ((up2 (mI M) (ad 10 0) 0 0) (ad 10 0) 21)) = .int 0]) rfl ⟨hM.1, hM.1, congrArg Value.int (((up2_n _ _ (fun z => absurd z.2 (by decide))).trans (rfl)).trans op2), trivial⟩ ?_
    refine go_if rfl (fun (z : ¬ (0 : Int32) = 0) => absurd z (show ¬ (¬ (0 : Int32) = 0) from (by decide))) (fun _ => ?_)
    refine go_blk 1 [] (pc' := 13) (vs' := [.ref (ad 10 0), .retAddr 0]) (st' := [.int 0]) (M' := mm M (up2 (mI M) (ad 10 0) 0 0) (mJ M)) (ps := []) rfl trivial ?_
    refine go_zret rfl rfl (Or.inl rfl) ?_
    refine ⟨ne_i, ?_⟩
    show Go 1311 222 0 0 4 [.ref (ad 10 0), .retAddr 0] [.int 0] (mm M (up2 (mI M) (ad 10 0) 0 0) (mJ M)) R2
    refine go_if rfl (fun (z : ¬ (0 : Int32) = 0) => absurd z (show ¬ (¬ (0 : Int32) = 0) from (by decide))) (fun _ => ?_)
    refine go_blk 1 [] (pc' := 8) (vs' := [.ref (ad 10 0), .retAddr 0]) (st' := [.int 0]) (M' := mm M (up2 (mI M) (ad 10 0) 0 0) (mJ M)) (ps := []) rfl trivial ?_
    refine go_zret rfl rfl (Or.inl rfl) ?_
    exact h2 _ ⟨hsc, ad, nc, nb, nt, wk, nw, nx, nl, ne, nk, kd, false, rfl, rfl, rfl, hW.thr⟩
  · replace op1 : mI M (ad 0 0) 8 = 1 := op1
    replace op2 : mI M (ad 10 0) 21 = 1 := op2
    replace op3 : wk < 52 := op3 rfl
    show Go 1311 134 0 0 0 [.ref (ad 0 0), .retAddr 0] [] (mm M (mI M) (mJ M)) R
    refine go_blk 1 [] (pc' := 1) (vs' := [.ref (ad 0 0), .retAddr 0]) (st' := [.ref (ad 0 0)]) (M' := mm M (mI M) (mJ M)) (ps := []) rfl trivial ?_
    refine go_callV rfl rfl rfl (by omega) rfl (by decide) (by decide) (hF.o 0) ?_
    refine s_CY_findPlan (M := M) (by omega) hW (fun r f1 g1 fp hps => ⟨ne_i, ?_⟩) (fun r f1 g1 fp hps => ⟨ne_i, ?_⟩)
    · -- ('i', '1')
      have hW1 := WI_plan hW fp
      have hM0 := hM
      have hF : Fx (mr M r) ad := hW1.2.1.1
      have hM : Mx (mr M r) ad := hW1.2.1.2.1
      have pw := pl_world hW
      obtain ⟨ρ1, q1, q2, q3, q4⟩ := fp.best pw.2.1 hps
      obtain ⟨v3, hv3⟩ : ∃ v3, pl3 (ppv (vw ad (mI M))) nt wk nw ρ1 nt = v3 := ⟨_, rfl⟩
      have bd3 := plan_bd pw.2.1 q1.1
      rw [hv3] at q2 q3 bd3
      show Go 1311 134 0 0 4 [.ref (ad 0 0), .retAddr 0] [.int 1] (mm (mr M r) f1 g1) R
      refine go_if rfl (fun _ => ?_) (fun (z : ¬ (¬ (1 : Int32) = 0)) => absurd (show ¬ (1 : Int32) = 0 from (by decide)) z)
      refine go_blk 2 [] (pc' := 11) (vs' := [.ref (ad 0 0), .int 0]) (st' := []) (M' := mm (mr M r) f1 g1) (ps := []) rfl trivial ?_
      obtain ⟨bk, hbk⟩ := FPm.bk hW fp
      have td7 := td_le (p := (ppv (vw ad (mI M)))) (nc := nc) (wk := wk)
      have rl : ∀ t, t < nt → (ρ1 t).length ≤ 7 ∧ ∀ c ∈ ρ1 t, c ∈ tdL (ppv (vw ad (mI M))) nc wk := fun t ht => ⟨by have := lnR_ge ρ1 ht; have := plan_len q1.1; omega, fun c hc => plan_mem q1.1 ht hc⟩
      refine lp_CY_plan (td := tdL (ppv (vw ad (mI M))) nc wk) (bk := bk) (ρ := ρ1) (by omega) hi hF hW1.2.1.2.2.2.2.1 nt3 (by omega) (fun c hc => by have := td_lt hc; omega) rl fp.2.2.2.1.2.1 ((fp.2.1 0 0 5 (by omega) (by omega)).trans nt1) (fun t ht => (fp.2.1 3 t 0 (by omega) (by omega)).trans (iT.1 t ht).1.1) (fun t ht => q4 t (by omega)) hbk (fun f3 h3 => ?_) 0 (Nat.zero_le _) f1 ⟨fun _ _ _ _ _ => rfl, fun t' ht' => absurd ht' (by omega)⟩
      show Go 1311 134 0 0 38 [.ref (ad 0 0), .int (nI nt)] [] (mm (mr M r) f3 g1) R
      refine go_blk 2 [some (.ref (ad 0 7))] (pc' := 42) (vs' := [.ref (ad 0 0), .int (nI nt)]) (st' := [.ref (ad 0 7)]) (M' := mm (mr M r) f3 g1) (ps := [ob (mm (mr M r) f3 g1) (ad 0 0) 11, mR (mm (mr M r) f3 g1) (ad 0 0) 14 = some (ad 0 7), va_rf (some (ad 0 7)) = .ref (ad 0 7)]) rfl ⟨(hF.o 0), (hF.r 0 14 7), rfl, trivial⟩ ?_
      refine go_callV rfl rfl rfl (by omega) rfl (by decide) (by decide) (hF.o 7) ?_
      show Go (1311 - 1) 46 0 0 0 [.ref (ad 0 7)] [] (mm (mr M r) f3 g1) _
      refine go_blk 3 [] (pc' := 5) (vs' := [.ref (ad 0 7)]) (st' := []) (M' := mm (mr M r) (up2 f3 (ad 0 7) 19 0) g1) (ps := [ob (mm (mr M r) f3 g1) (ad 0 7) 6, 0 = 0 ∨ 0 = 1]) rfl ⟨(hF.o 7), (Or.inl rfl), trivial⟩ ?_
      refine go_vret rfl rfl ?_
      refine ⟨ne_v, ?_⟩
      show Go 1311 134 0 0 45 [.ref (ad 0 0), .int (nI nt)] [] (mm (mr M r) (up2 f3 (ad 0 7) 19 0) g1) R
      refine go_blk 1 [] (pc' := 46) (vs' := [.ref (ad 0 0), .int (nI nt)]) (st' := [.int 1]) (M' := mm (mr M r) (up2 f3 (ad 0 7) 19 0) g1) (ps := []) rfl trivial ?_
      refine go_zret rfl rfl (Or.inr rfl) ?_
      refine K _ _ hM.1 rfl (fun R2 h2 => ?_)
      show Go 1311 222 0 0 0 [.ref (ad 10 0), .retAddr 0] [] (mm (mr M r) (up2 f3 (ad 0 7) 19 0) g1) R2
      refine go_blk 1 [] (pc' := 1) (vs' := [.ref (ad 10 0), .retAddr 0]) (st' := [.ref (ad 10 0)]) (M' := mm (mr M r) (up2 f3 (ad 0 7) 19 0) g1) (ps := []) rfl trivial ?_
      have c3 : ∀ a i k, ¬ (a = 3 ∧ k = 4) → ¬ a = 5 → ¬ (a = 0 ∧ i = 7 ∧ k = 19) → up2 f3 (ad 0 7) 19 0 (ad a i) k = f1 (ad a i) k := fun a i k z1 z2 z3 => (up2_n _ _ (fun y => z3 ⟨(hi _ _ _ _ y.1).1, (hi _ _ _ _ y.1).2, y.2⟩)).trans (h3.1 a i k z1 z2)
      have mb1 := fp.MB pw.1
      have mb3 : MB (ppv (vw ad (mI M))) nt nc wk nw ad (up2 f3 (ad 0 7) 19 0) := ⟨fun i j hp => (c3 9 i j (by omega) (by omega) (by omega)).trans (mb1.1 i j hp), (c3 10 0 31 (by omega) (by omega) (by omega)).trans mb1.2.1, (c3 10 0 17 (by omega) (by omega) (by omega)).trans mb1.2.2.1, (c3 10 0 19 (by omega) (by omega) (by omega)).trans mb1.2.2.2.1, (c3 10 0 20 (by omega) (by omega) (by omega)).trans mb1.2.2.2.2.1, (c3 10 0 30 (by omega) (by omega) (by omega)).trans mb1.2.2.2.2.2⟩
      refine go_callV rfl rfl rfl (by omega) rfl (by decide) (by decide) hM.1 ?_
      refine s_Mo_findPlan (p := (ppv (vw ad (mI M)))) (by omega) hi hM pw.2.1 nt3 op3 nw3 pw.2.2.1 pw.2.2.2.2.1 mb3 ((c3 10 0 21 (by omega) (by omega) (by omega)).trans ((fp.2.1 10 0 21 (by omega) (by omega)).trans op2)) pw.2.2.2.2.2.1 (fun f2 m1 m2 => ⟨ne_i, ?_⟩) (fun f2 ρ2 m1 m2 m3 m4 m5 => ⟨ne_i, ?_⟩)
      · -- ('i', '0')
        show Go 1311 222 0 0 4 [.ref (ad 10 0), .retAddr 0] [.int 0] (mm (mr M r) f2 g1) R2
        refine go_if rfl (fun (z : ¬ (0 : Int32) = 0) => absurd z (show ¬ (¬ (0 : Int32) = 0) from (by decide))) (fun _ => ?_)
        refine go_blk 1 [] (pc' := 8) (vs' := [.ref (ad 10 0), .retAddr 0]) (st' := [.int 0]) (M' := mm (mr M r) f2 g1) (ps := []) rfl trivial ?_
        refine go_zret rfl rfl (Or.inl rfl) ?_
        exact absurd hps m2
      · -- ('i', '1')
        show Go 1311 222 0 0 4 [.ref (ad 10 0), .retAddr 0] [.int 1] (mm (mr M r) f2 g1) R2
        refine go_if rfl (fun _ => ?_) (fun (z : ¬ (¬ (1 : Int32) = 0)) => absurd (show ¬ (1 : Int32) = 0 from (by decide)) z)
        refine go_blk 2 [] (pc' := 11) (vs' := [.ref (ad 10 0), .int 0]) (st' := []) (M' := mm (mr M r) f2 g1) (ps := []) rfl trivial ?_
        refine lp_Mo_plan (by omega) hi hM ?_
        have eu := best_uniq pw.2.1 m3 q1
        subst eu
        have pp1 : ppv (vw ad f1) = ppv (vw ad (mI M)) := ppv_congr (fun i j _ => fp.2.1 9 i j (by omega) (by omega)) (fp.2.1 10 0 31 (by omega) (by omega))
        refine h2 _ ⟨hsc, ad, nc, nb, nt, wk, nw, nx, nl, ne, nk, kd, true, rfl, rfl, rfl, ?_⟩
        refine WI_set (M := mm (mr M r) f1 g1) (ρ := ρ2) hW1 (show isPlan (ppv (vw ad f1)) nt nc wk ρ2 from by rw [pp1]; exact q1.1) q1.2.1 (fun t i k z1 z2 z3 z4 z5 => ?_) (fun t ht => ⟨?_, fun i hlt => ?_⟩) (fun t ht => ⟨(m5 t ht).1, ?_, fun i hlt => ?_⟩) ?_
        · show cpF ad 51 56 3 (cpF ad 50 55 21 f2) (ad t i) k = f1 (ad t i) k
          rw [cpF_n hi (by omega), cpF_n hi (by omega), m1 t i k (by omega) (by omega) (by omega)]
          exact c3 t i k z1 z2 z4
        · rw [cpF_n hi (by omega), cpF_n hi (by omega), m1 3 t 4 (by omega) (by omega) (by omega), up2_n _ _ (fun y => absurd (hi _ _ _ _ y.1).1 (by decide))]
          exact (h3.2 t ht).1
        · rw [cpF_n hi (by omega), cpF_n hi (by omega), m1 5 t i (by omega) (by omega) (by omega), up2_n _ _ (fun y => absurd (hi _ _ _ _ y.1).1 (by decide))]
          exact (h3.2 t ht).2 i hlt
        · rw [cpF_at ht, cpF_n hi (by omega)]
          exact (m5 t ht).2.1
        · have l7 := (m5 t ht).1
          rw [cpF_n hi (by omega), cpF_at (by omega)]
          exact (m5 t ht).2.2 i hlt
        · rw [cpF_n hi (by omega), cpF_n hi (by omega), m1 0 7 19 (by omega) (by omega) (by omega), up2_s]
    · -- ('i', '0')
      have hW1 := WI_plan hW fp
      have hM0 := hM
      have hF : Fx (mr M r) ad := hW1.2.1.1
      have hM : Mx (mr M r) ad := hW1.2.1.2.1
      have pw := pl_world hW
      show Go 1311 134 0 0 4 [.ref (ad 0 0), .retAddr 0] [.int 0] (mm (mr M r) f1 g1) R
      refine go_if rfl (fun (z : ¬ (0 : Int32) = 0) => absurd z (show ¬ (¬ (0 : Int32) = 0) from (by decide))) (fun _ => ?_)
      refine go_blk 1 [] (pc' := 8) (vs' := [.ref (ad 0 0), .retAddr 0]) (st' := [.int 0]) (M' := mm (mr M r) f1 g1) (ps := []) rfl trivial ?_
      refine go_zret rfl rfl (Or.inl rfl) ?_
      refine K _ _ hM.1 rfl (fun R2 h2 => ?_)
      show Go 1311 222 0 0 0 [.ref (ad 10 0), .retAddr 0] [] (mm (mr M r) f1 g1) R2
      refine go_blk 1 [] (pc' := 1) (vs' := [.ref (ad 10 0), .retAddr 0]) (st' := [.ref (ad 10 0)]) (M' := mm (mr M r) f1 g1) (ps := []) rfl trivial ?_
      refine go_callV rfl rfl rfl (by omega) rfl (by decide) (by decide) hM.1 ?_
      refine s_Mo_findPlan (p := ppv (vw ad (mI M))) (by omega) hi hM pw.2.1 nt3 op3 nw3 pw.2.2.1 pw.2.2.2.2.1 (fp.MB pw.1) ((fp.2.1 10 0 21 (by omega) (by omega)).trans op2) pw.2.2.2.2.2.1 (fun f2 m1 m2 => ⟨ne_i, ?_⟩) (fun f2 ρ2 m1 m2 m3 m4 m5 => ⟨ne_i, ?_⟩)
      · -- ('i', '0')
        show Go 1311 222 0 0 4 [.ref (ad 10 0), .retAddr 0] [.int 0] (mm (mr M r) f2 g1) R2
        refine go_if rfl (fun (z : ¬ (0 : Int32) = 0) => absurd z (show ¬ (¬ (0 : Int32) = 0) from (by decide))) (fun _ => ?_)
        refine go_blk 1 [] (pc' := 8) (vs' := [.ref (ad 10 0), .retAddr 0]) (st' := [.int 0]) (M' := mm (mr M r) f2 g1) (ps := []) rfl trivial ?_
        refine go_zret rfl rfl (Or.inl rfl) ?_
        exact h2 _ ⟨hsc, ad, nc, nb, nt, wk, nw, nx, nl, ne, nk, kd, true, rfl, rfl, rfl, hW1.keep m1.irr (fun _ _ _ _ => rfl)⟩
      · -- ('i', '1')
        show Go 1311 222 0 0 4 [.ref (ad 10 0), .retAddr 0] [.int 1] (mm (mr M r) f2 g1) R2
        refine go_if rfl (fun _ => ?_) (fun (z : ¬ (¬ (1 : Int32) = 0)) => absurd (show ¬ (1 : Int32) = 0 from (by decide)) z)
        refine go_blk 2 [] (pc' := 11) (vs' := [.ref (ad 10 0), .int 0]) (st' := []) (M' := mm (mr M r) f2 g1) (ps := []) rfl trivial ?_
        exact absurd m2 hps

