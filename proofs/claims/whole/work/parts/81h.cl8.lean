/-! call: closeDay -/
theorem gs364 {p : Nat → Bool} : (gsL p 364).length ≤ 364 := Nat.le_trans (List.length_filter_le _ _) (by rw [List.length_range]; exact Nat.le_refl _)

set_option maxHeartbeats 20000000 in
set_option maxRecDepth 100000 in
theorem op14 {x o u : Nat} {sc : Nat × Nat × (Nat → Int32)} : Op14 (II x o u sc) x o := by
  intro M hI R K
  obtain ⟨hsc, ad, nc, nb, nt, wk, nw, nx, nl, ne, nk, kd, op, rfl, rfl, rfl, hW⟩ := hI
  obtain ⟨hi, ⟨hF, hM, hC, hB, hT, hX⟩, ⟨iS, iC, iB, iR, iL, iT⟩, ⟨jO, jR, jB, jX, jL⟩, kO, kC, kD, kP, kX⟩ := id hW
  obtain ⟨⟨nc1, nc2, nc3⟩, ⟨nb1, nb2, nb3⟩, ⟨nt1, nt2, nt3⟩, ⟨wk1, wk2, wk3⟩, ⟨nw1, nw2, nw3⟩, ⟨op1, op2, op3⟩, ncm, ncm1, ncm2, ncm3⟩ := id iS
  simp only [vw] at nc1 nc2 nb1 nb2 nt1 nt2 wk1 wk2 nw1 nw2 op1 op2 ncm2 ncm3
  obtain ⟨nn, nn3, nn1, nn2, nnb⟩ := jX.2.1
  simp only [vw] at nn1 nn2
  have nl3 := jL.1.2.2.1
  have nx3 := jX.1.2.2
  have nk3 := jB.1.2.2.2.2.1
  have ne3 := jB.1.2.2.2.2.2
  rcases op with _ | _
  · replace op1 : mI M (ad 0 0) 8 = 0 := op1
    replace op2 : mI M (ad 10 0) 21 = 0 := op2
    show Go 1311 130 0 0 0 [.ref (ad 0 0), .retAddr 0] [] (mm M (mI M) (mJ M)) R
    refine go_blk 2 [some (.int 0)] (pc' := 4) (vs' := [.ref (ad 0 0), .retAddr 0]) (st' := [.int 0]) (M' := mm M (mI M) (mJ M)) (ps := [ob (mm M (mI M) (mJ M)) (ad 0 0) 11, (Value.int ((mI M) (ad 0 0) 8)) = .int 0]) rfl ⟨(hF.o 0), congrArg Value.int op1, trivial⟩ ?_
    refine go_if rfl (fun _ => ?_) (fun (z : ¬ ((0 : Int32) = 0)) => absurd (show (0 : Int32) = 0 from (by decide)) z)
    refine go_blk 1 [] (pc' := 15) (vs' := [.ref (ad 0 0), .retAddr 0]) (st' := [.int (-1)]) (M' := mm M (mI M) (mJ M)) (ps := []) rfl trivial ?_
    refine go_iret rfl rfl ?_
    refine K _ _ hM.1 rfl (fun R2 h2 => ?_)
    show Go 1311 235 0 0 0 [.ref (ad 10 0), .retAddr 0, .retAddr 0, .retAddr 0, .retAddr 0] [] (mm M (mI M) (mJ M)) R2
    refine go_blk 5 [some (.int 0)] (pc' := 9) (vs' := [.ref (ad 10 0), .retAddr 0, .retAddr 0, .retAddr 0, .retAddr 0]) (st' := [.int 0]) (M' := mm M (up2 (mI M) (ad 10 0) 0 0) (mJ M)) (ps := [ob (mm M (mI M) (mJ M)) (ad 10 0) 12, ob (mm M (up2 (mI M) (ad 10 0) 0 0) (mJ M)) (ad 10 0) 12, (Value.int ((up2 (mI M) (ad 10 0) 0 0) (ad 10 0) 21)) = .int 0]) rfl ⟨hM.1, hM.1, congrArg Value.int (((up2_n _ _ (fun z => absurd z.2 (by decide))).trans (rfl)).trans op2), trivial⟩ ?_
    refine go_if rfl (fun (z : ¬ (0 : Int32) = 0) => absurd z (show ¬ (¬ (0 : Int32) = 0) from (by decide))) (fun _ => ?_)
    refine go_blk 1 [] (pc' := 13) (vs' := [.ref (ad 10 0), .retAddr 0, .retAddr 0, .retAddr 0, .retAddr 0]) (st' := [.int (-1)]) (M' := mm M (up2 (mI M) (ad 10 0) 0 0) (mJ M)) (ps := []) rfl trivial ?_
    refine go_iret rfl rfl ?_
    exact h2 _ ⟨hsc, ad, nc, nb, nt, wk, nw, nx, nl, ne, nk, kd, false, rfl, rfl, rfl, hW.thr⟩
  · replace op1 : mI M (ad 0 0) 8 = 1 := op1
    replace op2 : mI M (ad 10 0) 21 = 1 := op2
    replace op3 : wk < 52 := op3 rfl
    show Go 1311 130 0 0 0 [.ref (ad 0 0), .retAddr 0] [] (mm M (mI M) (mJ M)) R
    refine go_blk 2 [some (.int 1)] (pc' := 4) (vs' := [.ref (ad 0 0), .retAddr 0]) (st' := [.int 1]) (M' := mm M (mI M) (mJ M)) (ps := [ob (mm M (mI M) (mJ M)) (ad 0 0) 11, (Value.int ((mI M) (ad 0 0) 8)) = .int 1]) rfl ⟨(hF.o 0), congrArg Value.int op1, trivial⟩ ?_
    refine go_if rfl (fun (z : (1 : Int32) = 0) => absurd z (show ¬ ((1 : Int32) = 0) from (by decide))) (fun _ => ?_)
    refine go_blk 1 [] (pc' := 8) (vs' := [.ref (ad 0 0), .retAddr 0]) (st' := [.ref (ad 0 0)]) (M' := mm M (mI M) (mJ M)) (ps := []) rfl trivial ?_
    obtain ⟨bj, hbj⟩ := bj_of jO
    refine go_callV rfl rfl rfl (by omega) rfl (by decide) (by decide) (hF.o 0) ?_
    refine s_CY_draftLines (by omega) hW hbj (fun hgt rd fd dl hdr => ⟨ne_i, ?_⟩) (fun rd fd hdr => ⟨ne_i, ?_⟩)
    · -- ('i', '0')
      have hF0 := hF
      have hM0 := hM
      obtain ⟨hF, hC, hB, hX⟩ := hdr.env hF hC hB hX
      have hM : Mx (mr M rd) ad := ⟨hM0.1, fun q hq => ⟨(hdr.1 10 0 q.1 (by omega)).trans (hM0.2 q hq).1, (hM0.2 q hq).2⟩⟩
      show Go 1311 130 0 0 11 [.ref (ad 0 0), .retAddr 0] [.int 0] (mm (mr M rd) fd (mJ M)) R
      refine go_if rfl (fun (z : ¬ (0 : Int32) = 0) => absurd z (show ¬ (¬ (0 : Int32) = 0) from (by decide))) (fun _ => ?_)
      refine go_blk 1 [] (pc' := 15) (vs' := [.ref (ad 0 0), .retAddr 0]) (st' := [.int (-1)]) (M' := mm (mr M rd) fd (mJ M)) (ps := []) rfl trivial ?_
      refine go_iret rfl rfl ?_
      refine K _ _ hM.1 rfl (fun R2 h2 => ?_)
      show Go 1311 235 0 0 0 [.ref (ad 10 0), .retAddr 0, .retAddr 0, .retAddr 0, .retAddr 0] [] (mm (mr M rd) fd (mJ M)) R2
      refine go_blk 5 [some (.int 1)] (pc' := 9) (vs' := [.ref (ad 10 0), .retAddr 0, .retAddr 0, .retAddr 0, .retAddr 0]) (st' := [.int 1]) (M' := mm (mr M rd) (up2 fd (ad 10 0) 0 0) (mJ M)) (ps := [ob (mm (mr M rd) fd (mJ M)) (ad 10 0) 12, ob (mm (mr M rd) (up2 fd (ad 10 0) 0 0) (mJ M)) (ad 10 0) 12, (Value.int ((up2 fd (ad 10 0) 0 0) (ad 10 0) 21)) = .int 1]) rfl ⟨hM.1, hM.1, congrArg Value.int (((up2_n _ _ (fun z => absurd z.2 (by decide))).trans (rfl)).trans ((hdr.2.1 10 0 21 (by omega)).trans op2)), trivial⟩ ?_
      refine go_if rfl (fun _ => ?_) (fun (z : ¬ (¬ (1 : Int32) = 0)) => absurd (show ¬ (1 : Int32) = 0 from (by decide)) z)
      refine go_blk 4 [] (pc' := 18) (vs' := [.ref (ad 10 0), .int 0, .int 0, .retAddr 0, .retAddr 0]) (st' := []) (M' := mm (mr M rd) (up2 fd (ad 10 0) 0 0) (mJ M)) (ps := []) rfl trivial ?_
      refine lp_closeA (r0 := rd) (f0 := up2 fd (ad 10 0) 0 0) (g0 := mJ M) (by omega) hW hbj hM (fun i k => (up2_n _ _ (fun z => absurd (hi _ _ _ _ z.1).1 (by decide))).trans (hdr.2.1 9 i k (by omega))) (fun k z => (up2_n _ _ (fun y => z y.2)).trans (hdr.2.1 10 0 k (by omega))) (fun r3 f3 g3 u3 u4 hma => ?_) 0 (Nat.zero_le _) _ _ _ _ _ ⟨fun _ _ _ => rfl, fun _ _ _ => rfl, fun _ _ _ => rfl⟩
      have hM := mx_mr2 hM hma.1
      show Go 1311 235 0 0 72 [.ref (ad 10 0), .int (nI (gsL (lnP M ad wk nx bj) 364).length), .int (nI 364), u3, u4] [] (mm (mr M r3) f3 g3) R2
      refine go_blk 5 [some (.int (nI nl))] (pc' := 81) (vs' := [.ref (ad 10 0), .int (nI (gsL (lnP M ad wk nx bj) 364).length), .int (nI 364), u3, u4]) (st' := [.int 3000, .int ((nI nl) + (nI (gsL (lnP M ad wk nx bj) 364).length))]) (M' := mm (mr M r3) f3 g3) (ps := [ob (mm (mr M r3) f3 g3) (ad 10 0) 12, (Value.int (f3 (ad 10 0) 73)) = .int (nI nl)]) rfl ⟨hM.1, congrArg Value.int ((hma.2.1 _ _ (fun z => by omega)).trans ((up2_n _ _ (fun z => absurd z.2 (by decide))).trans ((hdr.2.1 10 0 73 (by omega)).trans jL.1.2.1))), trivial⟩ ?_
      refine go_icmp rfl (fun (z : ((nI nl) + (nI (gsL (lnP M ad wk nx bj) 364).length)) ≤ 3000) => absurd z (show ¬ (((nI nl) + (nI (gsL (lnP M ad wk nx bj) 364).length)) ≤ 3000) from (by rw [nI_add]; exact Int32.not_le.mpr ((nI_lts (a := 3000) (b := nl + (gsL (lnP M ad wk nx bj) 364).length) (by decide) (by have := gs364 (p := (lnP M ad wk nx bj)); omega)).mpr hgt)))) (fun _ => ?_)
      refine go_blk 1 [] (pc' := 85) (vs' := [.ref (ad 10 0), .int (nI (gsL (lnP M ad wk nx bj) 364).length), .int (nI 364), u3, u4]) (st' := [.int (-1)]) (M' := mm (mr M r3) f3 g3) (ps := []) rfl trivial ?_
      refine go_iret rfl rfl ?_
      have hWe : WI (mm (mr M r3) f3 g3) ad nc nb nt wk nw nx nl ne nk kd true := keep4W hW (fun t i k z1 z2 => (hma.1 _ _ (fun y => z1 (Or.inr ⟨(hi _ _ _ _ y.1).1, (hi _ _ _ _ y.1).2, y.2⟩))).trans (hdr.1 t i k z2)) (fun t i k hq hn => ?_) (fun t i k hq => hma.2.2 _ _ (fun y => by have := hi _ _ _ _ y.1; omega))
      · exact h2 _ ⟨hsc, ad, nc, nb, nt, wk, nw, nx, nl, ne, nk, kd, true, rfl, rfl, rfl, hWe⟩
      have hn2 : ¬ (t = 10 ∧ (k = 0 ∨ (83 ≤ k ∧ k ≤ 89))) ∧ ¬ (t = 7 ∧ 4 ≤ k) ∧ ¬ (t = 0 ∧ i = 10 ∧ k = 8) := by
        clear hn
        simp only [irr, Bool.or_eq_false_iff, Bool.and_eq_false_iff, beq_eq_false_iff_ne, decide_eq_false_iff_not, ne_eq] at hq
        omega
      show f3 (ad t i) k = mI M (ad t i) k
      rw [hma.2.1 _ _ (fun z => hn2.1 ⟨(hi _ _ _ _ z.1).1, Or.inr z.2⟩), up2_n _ _ (fun z => hn2.1 ⟨(hi _ _ _ _ z.1).1, Or.inl z.2⟩)]
      exact hdr.2.1 t i k (fun z => by rcases z with z | z | z; exact hn2.2.2 z; exact hn z; exact hn2.2.1 z)
    · -- ('i', '1')
      have hF0 := hF
      have hM0 := hM
      obtain ⟨hF, hC, hB, hX⟩ := hdr.env hF hC hB hX
      have hM : Mx (mr M rd) ad := ⟨hM0.1, fun q hq => ⟨(hdr.1 10 0 q.1 (by omega)).trans (hM0.2 q hq).1, (hM0.2 q hq).2⟩⟩
      show Go 1311 130 0 0 11 [.ref (ad 0 0), .retAddr 0] [.int 1] (mm (mr M rd) fd (mJ M)) R
      refine go_if rfl (fun _ => ?_) (fun (z : ¬ (¬ (1 : Int32) = 0)) => absurd (show ¬ (1 : Int32) = 0 from (by decide)) z)
      refine go_blk 2 [some (.ref (ad 0 8))] (pc' := 20) (vs' := [.ref (ad 0 0), .retAddr 0]) (st' := [.ref (ad 0 8)]) (M' := mm (mr M rd) fd (mJ M)) (ps := [ob (mm (mr M rd) fd (mJ M)) (ad 0 0) 11, mR (mm (mr M rd) fd (mJ M)) (ad 0 0) 15 = some (ad 0 8), va_rf (some (ad 0 8)) = .ref (ad 0 8)]) rfl ⟨(hF.o 0), (hF.r 0 15 8), rfl, trivial⟩ ?_
      refine go_callV rfl rfl rfl (by omega) rfl (by decide) (by decide) (hF.o 8) ?_
      show Go (1311 - 1) 32 0 0 0 [.ref (ad 0 8)] [] (mm (mr M rd) fd (mJ M)) _
      refine go_blk 21 [none, none, some (.int (fd (ad 0 8) 3)), some (.int (fd (ad 0 8) 5))] (pc' := 39) (vs' := [.ref (ad 0 8)]) (st' := []) (M' := mm (mr M rd) (up2 (up2 (up2 (up2 (up2 fd (ad 0 8) 2 ((fd (ad 0 8) 2) + (fd (ad 0 8) 4))) (ad 0 8) 4 (fd (ad 0 8) 3)) (ad 0 8) 3 0) (ad 0 8) 6 (fd (ad 0 8) 5)) (ad 0 8) 5 0) (mJ M)) (ps := [(.ref (ad 0 8) : Value).category = 1, ob (mm (mr M rd) fd (mJ M)) (ad 0 8) 4, ob (mm (mr M rd) fd (mJ M)) (ad 0 8) 4, ob (mm (mr M rd) fd (mJ M)) (ad 0 8) 4, ob (mm (mr M rd) (up2 fd (ad 0 8) 2 ((fd (ad 0 8) 2) + (fd (ad 0 8) 4))) (mJ M)) (ad 0 8) 4, (Value.int ((up2 fd (ad 0 8) 2 ((fd (ad 0 8) 2) + (fd (ad 0 8) 4))) (ad 0 8) 3)) = .int (fd (ad 0 8) 3), ob (mm (mr M rd) (up2 fd (ad 0 8) 2 ((fd (ad 0 8) 2) + (fd (ad 0 8) 4))) (mJ M)) (ad 0 8) 4, ob (mm (mr M rd) (up2 (up2 fd (ad 0 8) 2 ((fd (ad 0 8) 2) + (fd (ad 0 8) 4))) (ad 0 8) 4 (fd (ad 0 8) 3)) (mJ M)) (ad 0 8) 4, ob (mm (mr M rd) (up2 (up2 (up2 fd (ad 0 8) 2 ((fd (ad 0 8) 2) + (fd (ad 0 8) 4))) (ad 0 8) 4 (fd (ad 0 8) 3)) (ad 0 8) 3 0) (mJ M)) (ad 0 8) 4, (Value.int ((up2 (up2 (up2 fd (ad 0 8) 2 ((fd (ad 0 8) 2) + (fd (ad 0 8) 4))) (ad 0 8) 4 (fd (ad 0 8) 3)) (ad 0 8) 3 0) (ad 0 8) 5)) = .int (fd (ad 0 8) 5), ob (mm (mr M rd) (up2 (up2 (up2 fd (ad 0 8) 2 ((fd (ad 0 8) 2) + (fd (ad 0 8) 4))) (ad 0 8) 4 (fd (ad 0 8) 3)) (ad 0 8) 3 0) (mJ M)) (ad 0 8) 4, ob (mm (mr M rd) (up2 (up2 (up2 (up2 fd (ad 0 8) 2 ((fd (ad 0 8) 2) + (fd (ad 0 8) 4))) (ad 0 8) 4 (fd (ad 0 8) 3)) (ad 0 8) 3 0) (ad 0 8) 6 (fd (ad 0 8) 5)) (mJ M)) (ad 0 8) 4]) rfl ⟨rfl, (hF.o 8), (hF.o 8), (hF.o 8), (hF.o 8), congrArg Value.int ((up2_n _ _ (fun z => absurd z.2 (by decide))).trans (rfl)), (hF.o 8), (hF.o 8), (hF.o 8), congrArg Value.int ((up2_n _ _ (fun z => absurd z.2 (by decide))).trans ((up2_n _ _ (fun z => absurd z.2 (by decide))).trans ((up2_n _ _ (fun z => absurd z.2 (by decide))).trans (rfl)))), (hF.o 8), (hF.o 8), trivial⟩ ?_
      refine go_vret rfl rfl ?_
      refine ⟨ne_v, ?_⟩
      show Go 1311 130 0 0 23 [.ref (ad 0 0), .retAddr 0] [] (mm (mr M rd) (up2 (up2 (up2 (up2 (up2 fd (ad 0 8) 2 ((fd (ad 0 8) 2) + (fd (ad 0 8) 4))) (ad 0 8) 4 (fd (ad 0 8) 3)) (ad 0 8) 3 0) (ad 0 8) 6 (fd (ad 0 8) 5)) (ad 0 8) 5 0) (mJ M)) R
      obtain ⟨f2, hf2⟩ : ∃ f2, up2 (up2 (up2 (up2 (up2 fd (ad 0 8) 2 ((fd (ad 0 8) 2) + (fd (ad 0 8) 4))) (ad 0 8) 4 (fd (ad 0 8) 3)) (ad 0 8) 3 0) (ad 0 8) 6 (fd (ad 0 8) 5)) (ad 0 8) 5 0 = f2 := ⟨_, rfl⟩
      rw [hf2]
      have k8 : ∀ t i k, ¬ (t = 0 ∧ i = 8 ∧ 2 ≤ k ∧ k ≤ 6) → f2 (ad t i) k = fd (ad t i) k := fun t i k z => by
        rw [← hf2]
        rw [up2_n _ _ (fun y => z ⟨(hi _ _ _ _ y.1).1, (hi _ _ _ _ y.1).2, by omega, by omega⟩), up2_n _ _ (fun y => z ⟨(hi _ _ _ _ y.1).1, (hi _ _ _ _ y.1).2, by omega, by omega⟩), up2_n _ _ (fun y => z ⟨(hi _ _ _ _ y.1).1, (hi _ _ _ _ y.1).2, by omega, by omega⟩), up2_n _ _ (fun y => z ⟨(hi _ _ _ _ y.1).1, (hi _ _ _ _ y.1).2, by omega, by omega⟩), up2_n _ _ (fun y => z ⟨(hi _ _ _ _ y.1).1, (hi _ _ _ _ y.1).2, by omega, by omega⟩)]
      have kd8 : ∀ k, fd (ad 0 8) k = mI M (ad 0 8) k := fun k => hdr.2.1 0 8 k (by omega)
      have la2 : f2 (ad 0 8) 2 = mI M (ad 0 8) 2 + mI M (ad 0 8) 4 ∧ f2 (ad 0 8) 3 = 0 ∧ f2 (ad 0 8) 4 = mI M (ad 0 8) 3 ∧ f2 (ad 0 8) 5 = 0 ∧ f2 (ad 0 8) 6 = mI M (ad 0 8) 5 := by
        rw [← hf2, ← kd8 2, ← kd8 3, ← kd8 4, ← kd8 5]
        simp [up2]
      have mdl : ∀ j, j ∈ gsL (lnP M ad wk nx bj) 364 → j < 364 ∧ mI M (ad 9 32) j = 1 := fun j hj => ⟨List.mem_range.mp (List.mem_filter.mp hj).1, (lnP_of.mp (List.mem_filter.mp hj).2).1⟩
      show Go 1311 130 0 0 23 [.ref (ad 0 0), .retAddr 0] [] (mm (mr M rd) f2 (mJ M)) R
      show Go 1311 130 0 0 23 [.ref (ad 0 0), .retAddr 0] [] (mm (mr M rd) f2 (mJ M)) R
      refine go_blk 2 [some (.ref (ad 0 10))] (pc' := 27) (vs' := [.ref (ad 0 0), .retAddr 0]) (st' := [.ref (ad 0 10)]) (M' := mm (mr M rd) f2 (mJ M)) (ps := [ob (mm (mr M rd) f2 (mJ M)) (ad 0 0) 11, mR (mm (mr M rd) f2 (mJ M)) (ad 0 0) 17 = some (ad 0 10), va_rf (some (ad 0 10)) = .ref (ad 0 10)]) rfl ⟨(hF.o 0), (hF.r 0 17 10), rfl, trivial⟩ ?_
      refine go_callV rfl rfl rfl (by omega) rfl (by decide) (by decide) (hF.o 10) ?_
      refine s_Wa_enterDrafts (wk := wk) (nx := nx) (nl := nl) (bj := bj) (dl := gsL (lnP M ad wk nx bj) 364) hi hF (gs_nodup _ _) (fun a b ha hb e => by obtain ⟨x1, x2⟩ := mdl a ha; obtain ⟨y1, y2⟩ := mdl b hb; have z1 := (hbj a x1 x2).2.2; have z2 := (hbj b y1 y2).2.2; rw [e] at z1; exact jAt_uni z1 z2) hdr.2.2.1.2 (fun j hj => by obtain ⟨x1, x2⟩ := mdl j hj; obtain ⟨y1, y2, -⟩ := hbj j x1 x2; exact ((jR.1 _ y1).1 y2).2.1) ((k8 0 10 6 (by omega)).trans ((hdr.2.1 0 10 6 (by omega)).trans jL.1.1)) ((k8 0 10 7 (by omega)).trans (hdr.2.1 0 10 7 (by omega))) ((k8 0 10 8 (by omega)).trans hdr.2.2.1.1) (fun j hj => by obtain ⟨x1, x2⟩ := mdl j hj; obtain ⟨y1, y2, y3⟩ := hbj j x1 x2; exact (k8 6 _ 11 (by omega)).trans ((hdr.2.1 6 _ 11 (by omega)).trans (jO.1 _ y1 y2 _ y3).1.2.2.2.2.2.2.2.2.2.2)) (fun k hk => ⟨(hdr.2.2.2 k hk).2.1, (k8 0 39 _ (by omega)).trans (hdr.2.2.2 k hk).2.2⟩) (fun fe hen h8e => ⟨ne_i, ?_⟩)
      · -- ('i', 'nI (gsL (lnP M ad wk nx bj) 364).length')
        have ke : ∀ t x k, ¬ (t = 0 ∧ x = 10 ∧ (k = 6 ∨ k = 7 ∨ k = 8)) → ¬ (t = 6 ∧ k = 11) → fe (ad t x) k = f2 (ad t x) k := fun t x k z1 z2 => hen.1 t x k z1 (fun y => z2 ⟨y.1, y.2.1⟩)
        show Go 1311 130 0 0 30 [.ref (ad 0 0), .retAddr 0] [.int (nI (gsL (lnP M ad wk nx bj) 364).length)] (mm (mr M rd) fe (mJ M)) R
        refine go_blk 11 [some (.int (nI wk))] (pc' := 47) (vs' := [.ref (ad 0 0), .int (nI (gsL (lnP M ad wk nx bj) 364).length)]) (st' := [.int (nI (gsL (lnP M ad wk nx bj) 364).length)]) (M' := mm (mr M rd) (up2 (up2 fe (ad 0 0) 8 0) (ad 0 0) 7 ((nI wk) + 1)) (mJ M)) (ps := [ob (mm (mr M rd) fe (mJ M)) (ad 0 0) 11, 0 = 0 ∨ 0 = 1, (.ref (ad 0 0) : Value).category = 1, ob (mm (mr M rd) (up2 fe (ad 0 0) 8 0) (mJ M)) (ad 0 0) 11, (Value.int ((up2 fe (ad 0 0) 8 0) (ad 0 0) 7)) = .int (nI wk), ob (mm (mr M rd) (up2 fe (ad 0 0) 8 0) (mJ M)) (ad 0 0) 11]) rfl ⟨(hF.o 0), (Or.inl rfl), rfl, (hF.o 0), congrArg Value.int (((up2_n _ _ (fun z => absurd z.2 (by decide))).trans (rfl)).trans ((ke 0 0 7 (by omega) (by omega)).trans ((k8 0 0 7 (by omega)).trans ((hdr.2.1 0 0 7 (by omega)).trans wk1)))), (hF.o 0), trivial⟩ ?_
        refine go_iret rfl rfl ?_
        rw [show nI wk + 1 = nI (wk + 1) from nI_add wk 1]
        refine K _ _ hM.1 rfl (fun R2 h2 => ?_)
        obtain ⟨fC, hfC⟩ : ∃ fC, up2 (up2 fe (ad 0 0) 8 0) (ad 0 0) 7 (nI (wk + 1)) = fC := ⟨_, rfl⟩
        rw [hfC]
        have kC1 : ∀ t i k, ¬ (t = 0 ∧ i = 0 ∧ (k = 7 ∨ k = 8)) → fC (ad t i) k = fe (ad t i) k := fun t i k z => by rw [← hfC, up2_n _ _ (fun y => z ⟨(hi _ _ _ _ y.1).1, (hi _ _ _ _ y.1).2, Or.inl y.2⟩), up2_n _ _ (fun y => z ⟨(hi _ _ _ _ y.1).1, (hi _ _ _ _ y.1).2, Or.inr y.2⟩)]
        have kC7 : fC (ad 0 0) 7 = nI (wk + 1) ∧ fC (ad 0 0) 8 = 0 := by rw [← hfC]; exact ⟨up2_s _ _ _ _, (up2_n _ _ (fun z => absurd z.2 (by decide))).trans (up2_s _ _ _ _)⟩
        have c9 : ∀ i k, fC (ad 9 i) k = mI M (ad 9 i) k := fun i k => (kC1 9 i k (by omega)).trans ((ke 9 i k (by omega) (by omega)).trans ((k8 9 i k (by omega)).trans (hdr.2.1 9 i k (by omega))))
        have c10 : ∀ k, fC (ad 10 0) k = mI M (ad 10 0) k := fun k => (kC1 10 0 k (by omega)).trans ((ke 10 0 k (by omega) (by omega)).trans ((k8 10 0 k (by omega)).trans (hdr.2.1 10 0 k (by omega))))
        show Go 1311 235 0 0 0 [.ref (ad 10 0), .retAddr 0, .retAddr 0, .retAddr 0, .retAddr 0] [] (mm (mr M rd) fC (mJ M)) R2
        refine go_blk 5 [some (.int 1)] (pc' := 9) (vs' := [.ref (ad 10 0), .retAddr 0, .retAddr 0, .retAddr 0, .retAddr 0]) (st' := [.int 1]) (M' := mm (mr M rd) (up2 fC (ad 10 0) 0 0) (mJ M)) (ps := [ob (mm (mr M rd) fC (mJ M)) (ad 10 0) 12, ob (mm (mr M rd) (up2 fC (ad 10 0) 0 0) (mJ M)) (ad 10 0) 12, (Value.int ((up2 fC (ad 10 0) 0 0) (ad 10 0) 21)) = .int 1]) rfl ⟨hM.1, hM.1, congrArg Value.int (((up2_n _ _ (fun z => absurd z.2 (by decide))).trans (rfl)).trans ((c10 21).trans op2)), trivial⟩ ?_
        refine go_if rfl (fun _ => ?_) (fun (z : ¬ (¬ (1 : Int32) = 0)) => absurd (show ¬ (1 : Int32) = 0 from (by decide)) z)
        refine go_blk 4 [] (pc' := 18) (vs' := [.ref (ad 10 0), .int 0, .int 0, .retAddr 0, .retAddr 0]) (st' := []) (M' := mm (mr M rd) (up2 fC (ad 10 0) 0 0) (mJ M)) (ps := []) rfl trivial ?_
        refine lp_closeA (r0 := rd) (f0 := up2 fC (ad 10 0) 0 0) (g0 := mJ M) (by omega) hW hbj hM (fun i k => (up2_n _ _ (fun z => absurd (hi _ _ _ _ z.1).1 (by decide))).trans (c9 i k)) (fun k z => (up2_n _ _ (fun y => z y.2)).trans (c10 k)) (fun r3 f3 g3 u3 u4 hma => ?_) 0 (Nat.zero_le _) _ _ _ _ _ ⟨fun _ _ _ => rfl, fun _ _ _ => rfl, fun _ _ _ => rfl⟩
        have hMb := hM
        have hM := mx_mr2 hM hma.1
        have a10 : ∀ k, ¬ k = 0 → ¬ (83 ≤ k ∧ k ≤ 89) → f3 (ad 10 0) k = mI M (ad 10 0) k := fun k z1 z2 => (hma.2.1 _ _ (fun z => z2 z.2)).trans ((up2_n _ _ (fun y => z1 y.2)).trans (c10 k))
        have a9 : ∀ i k, f3 (ad 9 i) k = mI M (ad 9 i) k := fun i k => (hma.2.1 _ _ (fun z => absurd (hi _ _ _ _ z.1).1 (by decide))).trans ((up2_n _ _ (fun z => absurd (hi _ _ _ _ z.1).1 (by decide))).trans (c9 i k))
        show Go 1311 235 0 0 72 [.ref (ad 10 0), .int (nI (gsL (lnP M ad wk nx bj) 364).length), .int (nI 364), u3, u4] [] (mm (mr M r3) f3 g3) R2
        refine go_blk 5 [some (.int (nI nl))] (pc' := 81) (vs' := [.ref (ad 10 0), .int (nI (gsL (lnP M ad wk nx bj) 364).length), .int (nI 364), u3, u4]) (st' := [.int 3000, .int ((nI nl) + (nI (gsL (lnP M ad wk nx bj) 364).length))]) (M' := mm (mr M r3) f3 g3) (ps := [ob (mm (mr M r3) f3 g3) (ad 10 0) 12, (Value.int (f3 (ad 10 0) 73)) = .int (nI nl)]) rfl ⟨hM.1, congrArg Value.int ((a10 73 (by decide) (by omega)).trans jL.1.2.1), trivial⟩ ?_
        refine go_icmp rfl (fun _ => ?_) (fun (z : ¬ (((nI nl) + (nI (gsL (lnP M ad wk nx bj) 364).length)) ≤ 3000)) => absurd (show ((nI nl) + (nI (gsL (lnP M ad wk nx bj) 364).length)) ≤ 3000 from (by rw [nI_add]; exact (nI_les (a := nl + (gsL (lnP M ad wk nx bj) 364).length) (b := 3000) (by have := gs364 (p := (lnP M ad wk nx bj)); omega) (by decide)).mpr hdr.2.2.1.2)) z)
        refine go_blk 2 [] (pc' := 88) (vs' := [.ref (ad 10 0), .int (nI (gsL (lnP M ad wk nx bj) 364).length), .int 0, u3, u4]) (st' := []) (M' := mm (mr M r3) f3 g3) (ps := []) rfl trivial ?_
        obtain ⟨K0, hK0⟩ : ∃ K0, mI M (ad 10 0) 52 = nI K0 := ⟨_, kO⟩
        have e52 : f3 = up2 f3 (ad 10 0) 52 (nI (K0 + ctB (fun c => (mI M (ad 9 32) (7 * wk + c) == 1) && (mI M (ad 9 38) (7 * wk + c) == -1)) 0)) := (up2_self ((a10 52 (by decide) (by omega)).trans hK0)).symm
        rw [e52]
        refine lp_closeB (by omega) hi hM nc3 op3 (fun i k _ => a9 i k) (fun j hj => job_01 jO hj) ((a10 17 (by decide) (by omega)).trans nc2) ((a10 19 (by decide) (by omega)).trans wk2) ?_ 0 (Nat.zero_le _)
        show Go 1311 235 0 0 143 [.ref (ad 10 0), .int (nI (gsL (lnP M ad wk nx bj) 364).length), .int (nI nc), u3, u4] [] (mm (mr M r3) (up2 f3 (ad 10 0) 52 (nI (K0 + ctB (fun c => (mI M (ad 9 32) (7 * wk + c) == 1) && (mI M (ad 9 38) (7 * wk + c) == -1)) nc))) g3) R2
        refine go_blk 23 [some (.int (mI M (ad 10 0) 65)), some (.int (mI M (ad 10 0) 67)), some (.int (mI M (ad 10 0) 66)), some (.int (mI M (ad 10 0) 68))] (pc' := 184) (vs' := [.ref (ad 10 0), .int (nI (gsL (lnP M ad wk nx bj) 364).length), .int 0, u3, u4]) (st' := []) (M' := mm (mr M r3) (up2 (up2 (up2 (up2 (up2 (up2 f3 (ad 10 0) 52 (nI (K0 + ctB (fun c => (mI M (ad 9 32) (7 * wk + c) == 1) && (mI M (ad 9 38) (7 * wk + c) == -1)) nc))) (ad 10 0) 65 ((mI M (ad 10 0) 65) + (mI M (ad 10 0) 67))) (ad 10 0) 67 (mI M (ad 10 0) 66)) (ad 10 0) 69 (mI M (ad 10 0) 68)) (ad 10 0) 66 0) (ad 10 0) 68 0) g3) (ps := [(.ref (ad 10 0) : Value).category = 1, ob (mm (mr M r3) (up2 f3 (ad 10 0) 52 (nI (K0 + ctB (fun c => (mI M (ad 9 32) (7 * wk + c) == 1) && (mI M (ad 9 38) (7 * wk + c) == -1)) nc))) g3) (ad 10 0) 12, (Value.int ((up2 f3 (ad 10 0) 52 (nI (K0 + ctB (fun c => (mI M (ad 9 32) (7 * wk + c) == 1) && (mI M (ad 9 38) (7 * wk + c) == -1)) nc))) (ad 10 0) 65)) = .int (mI M (ad 10 0) 65), ob (mm (mr M r3) (up2 f3 (ad 10 0) 52 (nI (K0 + ctB (fun c => (mI M (ad 9 32) (7 * wk + c) == 1) && (mI M (ad 9 38) (7 * wk + c) == -1)) nc))) g3) (ad 10 0) 12, (Value.int ((up2 f3 (ad 10 0) 52 (nI (K0 + ctB (fun c => (mI M (ad 9 32) (7 * wk + c) == 1) && (mI M (ad 9 38) (7 * wk + c) == -1)) nc))) (ad 10 0) 67)) = .int (mI M (ad 10 0) 67), ob (mm (mr M r3) (up2 f3 (ad 10 0) 52 (nI (K0 + ctB (fun c => (mI M (ad 9 32) (7 * wk + c) == 1) && (mI M (ad 9 38) (7 * wk + c) == -1)) nc))) g3) (ad 10 0) 12, ob (mm (mr M r3) (up2 (up2 f3 (ad 10 0) 52 (nI (K0 + ctB (fun c => (mI M (ad 9 32) (7 * wk + c) == 1) && (mI M (ad 9 38) (7 * wk + c) == -1)) nc))) (ad 10 0) 65 ((mI M (ad 10 0) 65) + (mI M (ad 10 0) 67))) g3) (ad 10 0) 12, (Value.int ((up2 (up2 f3 (ad 10 0) 52 (nI (K0 + ctB (fun c => (mI M (ad 9 32) (7 * wk + c) == 1) && (mI M (ad 9 38) (7 * wk + c) == -1)) nc))) (ad 10 0) 65 ((mI M (ad 10 0) 65) + (mI M (ad 10 0) 67))) (ad 10 0) 66)) = .int (mI M (ad 10 0) 66), ob (mm (mr M r3) (up2 (up2 f3 (ad 10 0) 52 (nI (K0 + ctB (fun c => (mI M (ad 9 32) (7 * wk + c) == 1) && (mI M (ad 9 38) (7 * wk + c) == -1)) nc))) (ad 10 0) 65 ((mI M (ad 10 0) 65) + (mI M (ad 10 0) 67))) g3) (ad 10 0) 12, ob (mm (mr M r3) (up2 (up2 (up2 f3 (ad 10 0) 52 (nI (K0 + ctB (fun c => (mI M (ad 9 32) (7 * wk + c) == 1) && (mI M (ad 9 38) (7 * wk + c) == -1)) nc))) (ad 10 0) 65 ((mI M (ad 10 0) 65) + (mI M (ad 10 0) 67))) (ad 10 0) 67 (mI M (ad 10 0) 66)) g3) (ad 10 0) 12, (Value.int ((up2 (up2 (up2 f3 (ad 10 0) 52 (nI (K0 + ctB (fun c => (mI M (ad 9 32) (7 * wk + c) == 1) && (mI M (ad 9 38) (7 * wk + c) == -1)) nc))) (ad 10 0) 65 ((mI M (ad 10 0) 65) + (mI M (ad 10 0) 67))) (ad 10 0) 67 (mI M (ad 10 0) 66)) (ad 10 0) 68)) = .int (mI M (ad 10 0) 68), ob (mm (mr M r3) (up2 (up2 (up2 f3 (ad 10 0) 52 (nI (K0 + ctB (fun c => (mI M (ad 9 32) (7 * wk + c) == 1) && (mI M (ad 9 38) (7 * wk + c) == -1)) nc))) (ad 10 0) 65 ((mI M (ad 10 0) 65) + (mI M (ad 10 0) 67))) (ad 10 0) 67 (mI M (ad 10 0) 66)) g3) (ad 10 0) 12, ob (mm (mr M r3) (up2 (up2 (up2 (up2 f3 (ad 10 0) 52 (nI (K0 + ctB (fun c => (mI M (ad 9 32) (7 * wk + c) == 1) && (mI M (ad 9 38) (7 * wk + c) == -1)) nc))) (ad 10 0) 65 ((mI M (ad 10 0) 65) + (mI M (ad 10 0) 67))) (ad 10 0) 67 (mI M (ad 10 0) 66)) (ad 10 0) 69 (mI M (ad 10 0) 68)) g3) (ad 10 0) 12, ob (mm (mr M r3) (up2 (up2 (up2 (up2 (up2 f3 (ad 10 0) 52 (nI (K0 + ctB (fun c => (mI M (ad 9 32) (7 * wk + c) == 1) && (mI M (ad 9 38) (7 * wk + c) == -1)) nc))) (ad 10 0) 65 ((mI M (ad 10 0) 65) + (mI M (ad 10 0) 67))) (ad 10 0) 67 (mI M (ad 10 0) 66)) (ad 10 0) 69 (mI M (ad 10 0) 68)) (ad 10 0) 66 0) g3) (ad 10 0) 12]) rfl ⟨rfl, hM.1, congrArg Value.int (((up2_n _ _ (fun z => absurd z.2 (by decide))).trans (rfl)).trans (a10 65 (by decide) (by omega))), hM.1, congrArg Value.int (((up2_n _ _ (fun z => absurd z.2 (by decide))).trans (rfl)).trans (a10 67 (by decide) (by omega))), hM.1, hM.1, congrArg Value.int (((up2_n _ _ (fun z => absurd z.2 (by decide))).trans ((up2_n _ _ (fun z => absurd z.2 (by decide))).trans (rfl))).trans (a10 66 (by decide) (by omega))), hM.1, hM.1, congrArg Value.int (((up2_n _ _ (fun z => absurd z.2 (by decide))).trans ((up2_n _ _ (fun z => absurd z.2 (by decide))).trans ((up2_n _ _ (fun z => absurd z.2 (by decide))).trans (rfl)))).trans (a10 68 (by decide) (by omega))), hM.1, hM.1, hM.1, trivial⟩ ?_
        obtain ⟨f4, hf4⟩ : ∃ f4, up2 (up2 (up2 (up2 (up2 (up2 f3 (ad 10 0) 52 (nI (K0 + ctB (fun c => (mI M (ad 9 32) (7 * wk + c) == 1) && (mI M (ad 9 38) (7 * wk + c) == -1)) nc))) (ad 10 0) 65 ((mI M (ad 10 0) 65) + (mI M (ad 10 0) 67))) (ad 10 0) 67 (mI M (ad 10 0) 66)) (ad 10 0) 69 (mI M (ad 10 0) 68)) (ad 10 0) 66 0) (ad 10 0) 68 0 = f4 := ⟨_, rfl⟩
        rw [hf4]
        have m4 : ∀ t i k, ¬ (t = 10 ∧ i = 0 ∧ (k = 52 ∨ (65 ≤ k ∧ k ≤ 69))) → f4 (ad t i) k = f3 (ad t i) k := fun t i k z => by
          rw [← hf4]
          rw [up2_n _ _ (fun y => z ⟨(hi _ _ _ _ y.1).1, (hi _ _ _ _ y.1).2, by have := y.2; omega⟩), up2_n _ _ (fun y => z ⟨(hi _ _ _ _ y.1).1, (hi _ _ _ _ y.1).2, by have := y.2; omega⟩), up2_n _ _ (fun y => z ⟨(hi _ _ _ _ y.1).1, (hi _ _ _ _ y.1).2, by have := y.2; omega⟩), up2_n _ _ (fun y => z ⟨(hi _ _ _ _ y.1).1, (hi _ _ _ _ y.1).2, by have := y.2; omega⟩), up2_n _ _ (fun y => z ⟨(hi _ _ _ _ y.1).1, (hi _ _ _ _ y.1).2, by have := y.2; omega⟩), up2_n _ _ (fun y => z ⟨(hi _ _ _ _ y.1).1, (hi _ _ _ _ y.1).2, by have := y.2; omega⟩)]
        have v4 : f4 (ad 10 0) 65 = mI M (ad 10 0) 65 + mI M (ad 10 0) 67 ∧ f4 (ad 10 0) 66 = 0 ∧ f4 (ad 10 0) 67 = mI M (ad 10 0) 66 ∧ f4 (ad 10 0) 68 = 0 ∧ f4 (ad 10 0) 69 = mI M (ad 10 0) 68 ∧ f4 (ad 10 0) 52 = nI (K0 + ctB (fun c => (mI M (ad 9 32) (7 * wk + c) == 1) && (mI M (ad 9 38) (7 * wk + c) == -1)) nc) := by
          rw [← hf4]
          simp [up2]
        have b9 : ∀ i k, f4 (ad 9 i) k = mI M (ad 9 i) k := fun i k => (m4 9 i k (by omega)).trans (a9 i k)
        have b10 : ∀ k, ¬ k = 0 → ¬ (k = 52 ∨ (65 ≤ k ∧ k ≤ 69)) → ¬ (83 ≤ k ∧ k ≤ 89) → f4 (ad 10 0) k = mI M (ad 10 0) k := fun k z1 z2 z3 => (m4 10 0 k (by omega)).trans (a10 k z1 z3)
        refine lp_closeD (r0 := rd) (f1 := f4) (g0 := mJ M) (by omega) hW hbj hMb b9 ((b10 19 (by decide) (by omega) (by omega)).trans wk2) ((b10 81 (by decide) (by omega) (by omega)).trans jX.1.2.1) hdr.2.2.1.2 (fun r5 f5 g5 u3 u4 hnd => ?_) 0 (Nat.zero_le _) _ _ _ _ _ ⟨⟨hma.1, hma.2.2⟩, fun _ _ _ _ _ _ => rfl, ⟨(b10 73 (by decide) (by omega) (by omega)).trans jL.1.2.1, b10 74 (by decide) (by omega) (by omega)⟩, fun k hk => absurd hk (by simp [gsL]), fun j => by rw [if_neg (by omega)]; exact b9 41 j⟩
        have hM := mx_mr2 hMb hnd.1.1
        show Go 1311 235 0 0 349 [.ref (ad 10 0), .int (nI (gsL (lnP M ad wk nx bj) 364).length), .int (nI 364), u3, u4] [] (mm (mr M r5) f5 g5) R2
        refine go_blk 10 [some (.int (nI wk))] (pc' := 365) (vs' := [.ref (ad 10 0), .int (nI (gsL (lnP M ad wk nx bj) 364).length), .int (nI 364), u3, u4]) (st' := [.int (nI (gsL (lnP M ad wk nx bj) 364).length)]) (M' := mm (mr M r5) (up2 (up2 f5 (ad 10 0) 21 0) (ad 10 0) 19 ((nI wk) + 1)) g5) (ps := [ob (mm (mr M r5) f5 g5) (ad 10 0) 12, 0 = 0 ∨ 0 = 1, (.ref (ad 10 0) : Value).category = 1, ob (mm (mr M r5) (up2 f5 (ad 10 0) 21 0) g5) (ad 10 0) 12, (Value.int ((up2 f5 (ad 10 0) 21 0) (ad 10 0) 19)) = .int (nI wk), ob (mm (mr M r5) (up2 f5 (ad 10 0) 21 0) g5) (ad 10 0) 12]) rfl ⟨hM.1, (Or.inl rfl), rfl, hM.1, congrArg Value.int (((up2_n _ _ (fun z => absurd z.2 (by decide))).trans (rfl)).trans ((hnd.2.1 10 0 19 (by omega) (by omega) (by omega)).trans ((b10 19 (by decide) (by omega) (by omega)).trans wk2))), hM.1, trivial⟩ ?_
        refine go_iret rfl rfl ?_
        rw [show nI wk + 1 = nI (wk + 1) from nI_add wk 1]
        obtain ⟨f6, hf6⟩ : ∃ f6, up2 (up2 f5 (ad 10 0) 21 0) (ad 10 0) 19 (nI (wk + 1)) = f6 := ⟨_, rfl⟩
        rw [hf6]
        have d6 : ∀ t i k, ¬ (t = 10 ∧ i = 0 ∧ (k = 19 ∨ k = 21)) → f6 (ad t i) k = f5 (ad t i) k := fun t i k z => by rw [← hf6, up2_n _ _ (fun y => z ⟨(hi _ _ _ _ y.1).1, (hi _ _ _ _ y.1).2, Or.inl y.2⟩), up2_n _ _ (fun y => z ⟨(hi _ _ _ _ y.1).1, (hi _ _ _ _ y.1).2, Or.inr y.2⟩)]
        have d19 : f6 (ad 10 0) 19 = nI (wk + 1) ∧ f6 (ad 10 0) 21 = 0 := by rw [← hf6]; exact ⟨up2_s _ _ _ _, (up2_n _ _ (fun z => absurd z.2 (by decide))).trans (up2_s _ _ _ _)⟩
        have c3 : ∀ t i k, ¬ (t = 10 ∧ i = 0 ∧ (k = 0 ∨ (83 ≤ k ∧ k ≤ 89))) → f3 (ad t i) k = fC (ad t i) k := fun t i k z => (hma.2.1 _ _ (fun y => z ⟨(hi _ _ _ _ y.1).1, (hi _ _ _ _ y.1).2, Or.inr y.2⟩)).trans (up2_n _ _ (fun y => z ⟨(hi _ _ _ _ y.1).1, (hi _ _ _ _ y.1).2, Or.inl y.2⟩))
        have cl : ∀ t i k, ¬ t = 9 → ¬ t = 10 → f6 (ad t i) k = fC (ad t i) k := fun t i k z1 z2 => (d6 t i k (fun y => z2 y.1)).trans ((hnd.2.1 t i k (fun y => z2 y.1) (fun y => z1 y.1) (fun y => z1 y.1)).trans ((m4 t i k (fun y => z2 y.1)).trans (c3 t i k (fun y => z2 y.1))))
        have ce : ∀ t i k, ¬ t = 9 → ¬ t = 10 → ¬ (t = 0 ∧ i = 0 ∧ (k = 7 ∨ k = 8)) → f6 (ad t i) k = fe (ad t i) k := fun t i k z1 z2 z3 => (cl t i k z1 z2).trans (kC1 t i k z3)
        have c2 : ∀ t i k, ¬ t = 9 → ¬ t = 10 → ¬ (t = 0 ∧ i = 0 ∧ (k = 7 ∨ k = 8)) → ¬ (t = 0 ∧ i = 10 ∧ (k = 6 ∨ k = 7 ∨ k = 8)) → ¬ (t = 6 ∧ k = 11) → f6 (ad t i) k = f2 (ad t i) k := fun t i k z1 z2 z3 z4 z5 => (ce t i k z1 z2 z3).trans (ke t i k z4 z5)
        have e10 : ∀ k, ¬ (k = 19 ∨ k = 21 ∨ k = 73 ∨ k = 74) → ¬ (83 ≤ k ∧ k ≤ 89) → f6 (ad 10 0) k = f4 (ad 10 0) k := fun k z1 z2 => (d6 10 0 k (by omega)).trans (hnd.2.1 10 0 k (by omega) (by omega) (by omega))
        have e9 : ∀ i k, ¬ (i = 72 ∧ 5 * nl ≤ k) → ¬ i = 41 → f6 (ad 9 i) k = mI M (ad 9 i) k := fun i k z1 z2 => (d6 9 i k (by omega)).trans ((hnd.2.1 9 i k (by omega) (by omega) (by omega)).trans (b9 i k))
        have lq := iL.1
        simp only [vw] at lq
        refine h2 _ ⟨hsc, ad, nc, nb, nt, wk + 1, nw, nx, nl + (gsL (lnP M ad wk nx bj) 364).length, ne, nk, kd, false, rfl, rfl, rfl, ?_⟩
        refine WI_close (K := K0) (bj := bj) rfl hdr.2.2.1.2 hW hbj (fun t i k z1 z2 => (hnd.1.1 _ _ (fun y => z1 (Or.inr ⟨(hi _ _ _ _ y.1).1, (hi _ _ _ _ y.1).2, y.2⟩))).trans (hdr.1 t i k z2)) (fun k hk => (hnd.1.1 _ _ (fun y => absurd (hi _ _ _ _ y.1).1 (by decide))).trans (hdr.2.2.2 k hk).2.1) (fun t i k hq => hnd.1.2 _ _ (fun y => by have := hi _ _ _ _ y.1; omega)) (fun t i k hq hn => ?_) (fun b hb => ?_) (fun j hj => ?_) (fun j => ?_) ⟨(cl 0 0 7 (by decide) (by decide)).trans kC7.1, (cl 0 0 8 (by decide) (by decide)).trans kC7.2, d19.1, d19.2⟩ ⟨?_, ?_, ?_, ?_, ?_⟩ ⟨(ce 0 10 6 (by decide) (by decide) (by omega)).trans hen.2.1.1, (d6 10 0 73 (by omega)).trans hnd.2.2.1.1, ?_⟩ hK0 ((e10 52 (by omega) (by omega)).trans v4.2.2.2.2.2) (fun k hk => ?_)
        · show f6 (ad t i) k = mI M (ad t i) k
          have hn2 : ¬ (t = 10 ∧ (k = 0 ∨ (83 ≤ k ∧ k ≤ 89))) ∧ ¬ (t = 7 ∧ 4 ≤ k) ∧ ¬ (t = 0 ∧ i = 10 ∧ k = 8) := by
            clear hn
            simp only [irr, Bool.or_eq_false_iff, Bool.and_eq_false_iff, beq_eq_false_iff_ne, decide_eq_false_iff_not, ne_eq] at hq
            omega
          by_cases t9 : t = 9
          · subst t9; exact e9 i k (fun z => hn (Or.inr (Or.inr (Or.inr (Or.inr (Or.inr (Or.inl ⟨rfl, z⟩))))))) (fun z => hn (Or.inr (Or.inr (Or.inr (Or.inr (Or.inr (Or.inr (Or.inl ⟨rfl, z⟩))))))))
          · by_cases t10 : t = 10 ∧ i = 0
            · obtain ⟨rfl, rfl⟩ := t10
              have hk2 : ¬ (k = 19 ∨ k = 21 ∨ k = 52 ∨ (65 ≤ k ∧ k ≤ 69) ∨ k = 73 ∨ k = 74) := fun z => hn (Or.inr (Or.inl ⟨rfl, rfl, z⟩))
              clear hn hq
              exact (e10 k (by omega) (by omega)).trans (b10 k (by omega) (by omega) (by omega))
            · have g2 : f6 (ad t i) k = fC (ad t i) k := (d6 t i k (fun y => t10 ⟨y.1, y.2.1⟩)).trans ((hnd.2.1 t i k (fun y => t10 ⟨y.1, y.2.1⟩) (fun y => t9 y.1) (fun y => t9 y.1)).trans ((m4 t i k (fun y => t10 ⟨y.1, y.2.1⟩)).trans (c3 t i k (fun y => t10 ⟨y.1, y.2.1⟩))))
              rw [g2, kC1 t i k (fun z => hn (Or.inl z)), ke t i k (fun z => by rcases z.2.2 with y | y | y; exact hn (Or.inr (Or.inr (Or.inr (Or.inl ⟨z.1, z.2.1, Or.inl y⟩)))); exact hn (Or.inr (Or.inr (Or.inr (Or.inl ⟨z.1, z.2.1, Or.inr y⟩)))); exact hn2.2.2 ⟨z.1, z.2.1, y⟩) (fun z => hn (Or.inr (Or.inr (Or.inr (Or.inr (Or.inr (Or.inr (Or.inr z)))))))), k8 t i k (fun z => hn (Or.inr (Or.inr (Or.inl z))))]
              exact hdr.2.1 t i k (fun z => by rcases z with z | z | z; exact hn2.2.2 z; exact hn (Or.inr (Or.inr (Or.inr (Or.inr (Or.inl z))))); exact hn2.2.1 z)
        · rw [ce 6 b 11 (by decide) (by decide) (by omega), hen.1 6 b 11 (by omega) (fun y => by obtain ⟨j, y1, y2⟩ := y.2.2; exact hb j y1 y2), k8 6 b 11 (by omega)]; exact hdr.2.1 6 b 11 (by omega)
        · rw [ce 6 _ 11 (by decide) (by decide) (by omega)]
          obtain ⟨k, hk, rfl⟩ := mem_gtD hj
          rw [hen.2.2 k hk, if_pos hk]
        · rw [d6 9 41 j (by omega)]; exact hnd.2.2.2.2 j
        · rw [c2 0 8 2 (by decide) (by decide) (by omega) (by omega) (by omega), la2.1, e10 65 (by omega) (by omega), v4.1, lq.2.2.1, lq.2.2.2.2.1]
        · rw [c2 0 8 3 (by decide) (by decide) (by omega) (by omega) (by omega), la2.2.1, e10 66 (by omega) (by omega), v4.2.1]
        · rw [c2 0 8 4 (by decide) (by decide) (by omega) (by omega) (by omega), la2.2.2.1, e10 67 (by omega) (by omega), v4.2.2.1, lq.2.2.2.1]
        · rw [c2 0 8 5 (by decide) (by decide) (by omega) (by omega) (by omega), la2.2.2.2.1, e10 68 (by omega) (by omega), v4.2.2.2.1]
        · rw [c2 0 8 6 (by decide) (by decide) (by omega) (by omega) (by omega), la2.2.2.2.2, e10 69 (by omega) (by omega), v4.2.2.2.2.1, lq.2.2.2.2.2.1]
        · rw [ce 0 10 7 (by decide) (by decide) (by omega), hen.2.1.2, d6 10 0 74 (by omega), hnd.2.2.1.2, show mI M (ad 0 10) 7 = mI M (ad 10 0) 74 from jL.1.2.2.2]
        · obtain ⟨x1, x2, x3, x4, x5⟩ := hnd.2.2.2.1 k hk
          rw [d6 9 72 _ (by omega), d6 9 72 _ (by omega), d6 9 72 _ (by omega), d6 9 72 _ (by omega), d6 9 72 _ (by omega), c2 0 37 _ (by decide) (by decide) (by omega) (by omega) (by omega), c2 0 39 _ (by decide) (by decide) (by omega) (by omega) (by omega), k8 0 37 _ (by omega), k8 0 39 _ (by omega)]
          exact ⟨(hdr.2.2.2 k hk).1, (hdr.2.2.2 k hk).2.2, x1, x2, x3, x4, x5⟩

