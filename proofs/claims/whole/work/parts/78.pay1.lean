/-! call: pay, both sides -/
theorem WI.txt2 {M : Mem} {ad : Nat → Nat → Nat} {nc nb nt wk nw nx nl ne nk kd q : Nat} {op : Bool} {v : Option Nat} {f1 f2 : Nat → Nat → Int32} {g2 : Nat → Nat → Int64} {y : Int32} (h : WI M ad nc nb nt wk nw nx nl ne nk kd op) (h1 : ∀ b k, ¬ (b = ad 7 q ∧ 4 ≤ k) → f1 b k = mI M b k) (h2 : GT ad (up2 f1 (ad 10 0) 0 y) f2) (h3 : GK ad (mJ M) g2) : WI (mm (sR M (ad 10 0) 82 v) f2 g2) ad nc nb nt wk nw nx nl ne nk kd op := by
  have hi := h.1
  have hk : WI (mm M f2 g2) ad nc nb nt wk nw nx nl ne nk kd op := by
    refine h.keep (fun t i k hq => ?_) (fun t i k hq => ?_)
    · show f2 (ad t i) k = mI M (ad t i) k
      have hn : ¬ (t = 10 ∧ (k = 0 ∨ (83 ≤ k ∧ k ≤ 89))) ∧ ¬ (t = 7 ∧ 4 ≤ k) := by
        simp only [irr, Bool.or_eq_false_iff, Bool.and_eq_false_iff, beq_eq_false_iff_ne, decide_eq_false_iff_not, ne_eq] at hq
        omega
      rw [h2 _ _ (fun z => hn.1 ⟨(hi _ _ _ _ z.1).1, Or.inr z.2⟩), up2_n _ _ (fun z => hn.1 ⟨(hi _ _ _ _ z.1).1, Or.inl z.2⟩), h1 _ _ (fun z => hn.2 ⟨(hi _ _ _ _ z.1).1, z.2⟩)]
    · exact h3 _ _ (fun z => by have z1 := (hi _ _ _ _ z.1).1; omega)
  exact hk.s82

theorem s_Mo_payC2 {d : Nat} {M : Mem} {ad : Nat → Nat → Nat} {R : Option Value → Mem → Prop} {nc nb nt wk nw nx nl ne nk kd i b j : Nat} {op : Bool} {f : Nat → Nat → Int32} {g : Nat → Nat → Int64} {y : Int32} (ey : y = nI j) (hd : 47 ≤ d) (hW : WI M ad nc nb nt wk nw nx nl ne nk kd op) (hix : i < nx) (hb : b < nb) (hj : hJ (vw ad (mI M)) wk op b) (ha : jAt (vw ad (mI M)) b j) (hj3 : j < 364) (hf : ∀ k m, f (ad 9 k) m = mI M (ad 9 k) m) (hR : ∀ f2 g2, GT ad f f2 → GK ad g g2 → R (some (.int (pyV (mI M) ad i b))) (mm (sR M (ad 10 0) 82 (some (ad 9 76))) f2 g2)) : Call d 257 [.ref (ad 10 0), .int (nI i), .int y] (mm M f g) R := by
  subst ey
  exact s_Mo_payC hd hW hix hb hj ha hj3 hf hR

set_option maxHeartbeats 20000000 in
set_option maxRecDepth 100000 in
theorem op31 {x o u : Nat} {sc : Nat × Nat × (Nat → Int32)} : Op31 (II x o u sc) x o := by
  intro M a1 a2 a3 hI R K
  obtain ⟨hsc, ad, nc, nb, nt, wk, nw, nx, nl, ne, nk, kd, op, rfl, rfl, rfl, hW⟩ := hI
  obtain ⟨hi, ⟨hF, hM, hC, hB, hT, hX⟩, ⟨iS, iC, iB, iR, iL, iT⟩, ⟨jO, jR, jB, jX, jL⟩, kO, kC, kD, kP, kX⟩ := id hW
  obtain ⟨⟨nc1, nc2, nc3⟩, ⟨nb1, nb2, nb3⟩, ⟨nt1, nt2, nt3⟩, ⟨wk1, wk2, wk3⟩, ⟨nw1, nw2, nw3⟩, ⟨op1, op2, op3⟩, ncm, ncm1, ncm2, ncm3⟩ := id iS
  simp only [vw] at nc1 nc2 nb1 nb2 nt1 nt2 wk1 wk2 nw1 nw2 op1 op2 ncm2 ncm3
  obtain ⟨nn, nn3, nn1, nn2, nnb⟩ := jX.2.1
  simp only [vw] at nn1 nn2
  have nl3 := jL.1.2.2.1
  have nx3 := jX.1.2.2
  have nk3 := jB.1.2.2.2.2.1
  have ne3 := jB.1.2.2.2.2.2
  show Go 1311 147 0 0 0 [.ref (ad 0 0), .int a1, .int a2, .int a3, .retAddr 0] [] (mm M (mI M) (mJ M)) R
  refine go_blk 3 [] (pc' := 3) (vs' := [.ref (ad 0 0), .int a1, .int a2, .int a3, .retAddr 0]) (st' := [.int a3, .int a2, .ref (ad 0 0)]) (M' := mm M (mI M) (mJ M)) (ps := []) rfl trivial ?_
  refine go_callV rfl rfl rfl (by omega) rfl (by decide) (by decide) (hF.o 0) ?_
  refine s_CY_jobOf (by omega) hF hB hC nc1 nc3 iB jO jR (fun w1 c1 b1 hw1 hc1 hb1 hJ1 hA1 hx1 hy1 => ⟨ne_a, ?_⟩) (fun hn1 => ⟨ne_0, ?_⟩)
  · -- ('r', 'ad 6 b#')
    subst hx1
    subst hy1
    show Go 1311 147 0 0 6 [.ref (ad 0 0), .int a1, .int (nI w1), .int (nI c1), .retAddr 0] [.ref (ad 6 b1)] (mm M (mI M) (mJ M)) R
    refine go_blk 2 [] (pc' := 10) (vs' := [.ref (ad 0 0), .int a1, .int (nI w1), .int (nI c1), .ref (ad 6 b1)]) (st' := [.ref (ad 6 b1)]) (M' := mm M (mI M) (mJ M)) (ps := []) rfl trivial ?_
    refine go_ifnull1 rfl ?_
    refine go_blk 1 [] (pc' := 15) (vs' := [.ref (ad 0 0), .int a1, .int (nI w1), .int (nI c1), .ref (ad 6 b1)]) (st' := [.ref (ad 6 b1)]) (M' := mm M (mI M) (mJ M)) (ps := []) rfl trivial ?_
    refine go_callV rfl rfl rfl (by omega) rfl (by decide) (by decide) ((jR.1 b1 (by assumption)).1 (by assumption)).2.1 ?_
    show Go (1311 - 1) 27 0 0 0 [.ref (ad 6 b1)] [] (mm M (mI M) (mJ M)) _
    refine go_blk 3 [some (.int ((mI M) (ad 9 38) (7 * w1 + c1)))] (pc' := 5) (vs' := [.ref (ad 6 b1)]) (st' := [.int (-1), .int ((mI M) (ad 9 38) (7 * w1 + c1))]) (M' := mm M (mI M) (mJ M)) (ps := [ob (mm M (mI M) (mJ M)) (ad 6 b1) 3, (Value.int ((mI M) (ad 6 b1) 8)) = .int ((mI M) (ad 9 38) (7 * w1 + c1))]) rfl ⟨((jR.1 b1 (by assumption)).1 (by assumption)).2.1, congrArg Value.int ((jO.1 b1 (by assumption) (by assumption) (7 * w1 + c1) (by assumption)).1.2.2.2.2.2.2.2.1), trivial⟩ ?_
    refine go_icmp rfl (fun (c2 : ((mI M) (ad 9 38) (7 * w1 + c1)) = (-1)) => ?_) (fun (c2 : ¬ (((mI M) (ad 9 38) (7 * w1 + c1)) = (-1))) => ?_)
    · -- ((mI M) (ad 9 38) (7 * w1 + c1)) = (-1)
      refine go_blk 1 [] (pc' := 13) (vs' := [.ref (ad 6 b1)]) (st' := [.int 0]) (M' := mm M (mI M) (mJ M)) (ps := []) rfl trivial ?_
      refine go_zret rfl rfl (Or.inl rfl) ?_
      refine ⟨ne_i, ?_⟩
      show Go 1311 147 0 0 18 [.ref (ad 0 0), .int a1, .int (nI w1), .int (nI c1), .ref (ad 6 b1)] [.int 0] (mm M (mI M) (mJ M)) R
      refine go_if rfl (fun (z : ¬ (0 : Int32) = 0) => absurd z (show ¬ (¬ (0 : Int32) = 0) from (by decide))) (fun _ => ?_)
      refine go_blk 1 [] (pc' := 22) (vs' := [.ref (ad 0 0), .int a1, .int (nI w1), .int (nI c1), .ref (ad 6 b1)]) (st' := [.int (-1)]) (M' := mm M (mI M) (mJ M)) (ps := []) rfl trivial ?_
      refine go_iret rfl rfl ?_
      refine K _ _ hM.1 rfl (fun R2 h2 => ?_)
      show Go 1311 259 0 0 0 [.ref (ad 10 0), .int a1, .int (nI w1), .int (nI c1)] [] (mm M (mI M) (mJ M)) R2
      refine go_blk 9 [some (.int (nI nx))] (pc' := 13) (vs' := [.ref (ad 10 0), .int a1, .int (nI w1), .int (nI c1)]) (st' := [.int ((nI nx) - 1), .int 0, .int a1]) (M' := mm M (up2 (mI M) (ad 10 0) 0 0) (mJ M)) (ps := [ob (mm M (mI M) (mJ M)) (ad 10 0) 12, ob (mm M (up2 (mI M) (ad 10 0) 0 0) (mJ M)) (ad 10 0) 12, (Value.int ((up2 (mI M) (ad 10 0) 0 0) (ad 10 0) 81)) = .int (nI nx)]) rfl ⟨hM.1, hM.1, congrArg Value.int (((up2_n _ _ (fun z => absurd z.2 (by decide))).trans (rfl)).trans jX.1.2.1), trivial⟩ ?_
      refine go_callS rfl (by decide) rfl rfl (by omega) rfl (by decide) (by decide) ?_
      refine s_Mo_isInP nx (by omega) (fun j3 hj3 hx3 => ⟨ne_i, ?_⟩) (fun c3 => ⟨ne_i, ?_⟩)
      · -- 1
        subst hx3
        show Go 1311 259 0 0 16 [.ref (ad 10 0), .int (nI j3), .int (nI w1), .int (nI c1)] [.int 1] (mm M (up2 (mI M) (ad 10 0) 0 0) (mJ M)) R2
        refine go_if rfl (fun (z : (1 : Int32) = 0) => absurd z (show ¬ ((1 : Int32) = 0) from (by decide))) (fun _ => ?_)
        refine go_blk 3 [] (pc' := 22) (vs' := [.ref (ad 10 0), .int (nI j3), .int (nI w1), .int (nI c1)]) (st' := [.int (nI c1), .int (nI w1), .ref (ad 10 0)]) (M' := mm M (up2 (mI M) (ad 10 0) 0 0) (mJ M)) (ps := []) rfl trivial ?_
        refine go_callV rfl rfl rfl (by omega) rfl (by decide) (by decide) hM.1 ?_
        show Go (1311 - 1) 228 0 0 0 [.ref (ad 10 0), .int (nI w1), .int (nI c1)] [] (mm M (up2 (mI M) (ad 10 0) 0 0) (mJ M)) _
        refine go_blk 3 [] (pc' := 4) (vs' := [.ref (ad 10 0), .int (nI w1), .int (nI c1)]) (st' := [.int 51, .int 0, .int (nI w1)]) (M' := mm M (up2 (mI M) (ad 10 0) 0 0) (mJ M)) (ps := []) rfl trivial ?_
        refine go_callS rfl (by decide) rfl rfl (by omega) rfl (by decide) (by decide) ?_
        refine s_Mo_isInK 0 51 (by decide) (by decide) (fun j4 hl4 hj4 hx4 => ⟨ne_i, ?_⟩) (fun c4 => ⟨ne_i, ?_⟩)
        · -- 1
          show Go (1311 - 1) 228 0 0 7 [.ref (ad 10 0), .int (nI w1), .int (nI c1)] [.int 1] (mm M (up2 (mI M) (ad 10 0) 0 0) (mJ M)) _
          refine go_if rfl (fun (z : (1 : Int32) = 0) => absurd z (show ¬ ((1 : Int32) = 0) from (by decide))) (fun _ => ?_)
          refine go_blk 2 [] (pc' := 12) (vs' := [.ref (ad 10 0), .int (nI w1), .int (nI c1)]) (st' := [.int (nI c1), .ref (ad 10 0)]) (M' := mm M (up2 (mI M) (ad 10 0) 0 0) (mJ M)) (ps := []) rfl trivial ?_
          refine go_callV rfl rfl rfl (by omega) rfl (by decide) (by decide) hM.1 ?_
          refine s_Mo_isCottage hM (((up2_n _ _ (fun z => absurd z.2 (by decide))).trans (rfl)).trans nc2) (Nat.le_trans nc3 (by decide)) (fun j5 hj5 hx5 => ⟨ne_i, ?_⟩) (fun c5 => ⟨ne_i, ?_⟩)
          · -- 1
            show Go (1311 - 1) 228 0 0 15 [.ref (ad 10 0), .int (nI w1), .int (nI c1)] [.int 1] (mm M (up2 (mI M) (ad 10 0) 0 0) (mJ M)) _
            refine go_if rfl (fun (z : (1 : Int32) = 0) => absurd z (show ¬ ((1 : Int32) = 0) from (by decide))) (fun _ => ?_)
            refine go_blk 8 [some (.ref (ad 9 32)), some (.int 1)] (pc' := 29) (vs' := [.ref (ad 10 0), .int (nI w1), .int (nI c1)]) (st' := [.int 1]) (M' := mm M (up2 (mI M) (ad 10 0) 0 0) (mJ M)) (ps := [ob (mm M (up2 (mI M) (ad 10 0) 0 0) (mJ M)) (ad 10 0) 12, mR (mm M (up2 (mI M) (ad 10 0) 0 0) (mJ M)) (ad 10 0) 32 = some (ad 9 32), va_rf (some (ad 9 32)) = .ref (ad 9 32), ob (mm M (up2 (mI M) (ad 10 0) 0 0) (mJ M)) (ad 9 32) 13, 13 = 13 ∨ 13 = 14, vp_in ((7 * (nI w1)) + (nI c1)) (mN (mm M (up2 (mI M) (ad 10 0) 0 0) (mJ M)) (ad 9 32)), (Value.int ((up2 (mI M) (ad 10 0) 0 0) (ad 9 32) (((7 * (nI w1)) + (nI c1)).toNatClampNeg))) = .int 1]) rfl ⟨hM.1, (hM.r 32 13 364), rfl, (hM.o 32 13 364), (by decide), (vp_eq (eq_add (eq_mul (show (7 : Int32) = nI 7 from rfl) rfl) rfl) (vpi (hM.n 32 13 364) (by omega))), congrArg Value.int ((congrArg (fun z => (up2 (mI M) (ad 10 0) 0 0) (ad 9 32) z) (cl_of (eq_add (eq_mul (show (7 : Int32) = nI 7 from rfl) rfl) rfl) (by omega))).trans (((up2_n _ _ (fun z => absurd (hi _ _ _ _ z.1).1 (by decide))).trans (rfl)).trans (jO.1 b1 (by assumption) (by assumption) (7 * w1 + c1) (by assumption)).2.1.2.2)), trivial⟩ ?_
            refine go_if rfl (fun (z : (1 : Int32) = 0) => absurd z (show ¬ ((1 : Int32) = 0) from (by decide))) (fun _ => ?_)
            refine go_blk 2 [] (pc' := 37) (vs' := [.ref (ad 10 0), .int (nI w1), .int (nI c1)]) (st' := [.int 1]) (M' := mm M (up2 (mI M) (ad 10 0) 0 0) (mJ M)) (ps := []) rfl trivial ?_
            refine go_zret rfl rfl (Or.inr rfl) ?_
            refine ⟨ne_i, ?_⟩
            show Go 1311 259 0 0 25 [.ref (ad 10 0), .int (nI j3), .int (nI w1), .int (nI c1)] [.int 1] (mm M (up2 (mI M) (ad 10 0) 0 0) (mJ M)) R2
            refine go_if rfl (fun (z : (1 : Int32) = 0) => absurd z (show ¬ ((1 : Int32) = 0) from (by decide))) (fun _ => ?_)
            refine go_blk 9 [some (.ref (ad 9 38)), some (.int ((mI M) (ad 9 38) (7 * w1 + c1)))] (pc' := 40) (vs' := [.ref (ad 10 0), .int (nI j3), .int (nI w1), .int (nI c1)]) (st' := [.int (-1), .int ((mI M) (ad 9 38) (7 * w1 + c1))]) (M' := mm M (up2 (mI M) (ad 10 0) 0 0) (mJ M)) (ps := [ob (mm M (up2 (mI M) (ad 10 0) 0 0) (mJ M)) (ad 10 0) 12, mR (mm M (up2 (mI M) (ad 10 0) 0 0) (mJ M)) (ad 10 0) 38 = some (ad 9 38), va_rf (some (ad 9 38)) = .ref (ad 9 38), ob (mm M (up2 (mI M) (ad 10 0) 0 0) (mJ M)) (ad 9 38) 15, vp_in ((7 * (nI w1)) + (nI c1)) (mN (mm M (up2 (mI M) (ad 10 0) 0 0) (mJ M)) (ad 9 38)), (Value.int ((up2 (mI M) (ad 10 0) 0 0) (ad 9 38) (((7 * (nI w1)) + (nI c1)).toNatClampNeg))) = .int ((mI M) (ad 9 38) (7 * w1 + c1))]) rfl ⟨hM.1, (hM.r 38 15 364), rfl, (hM.o 38 15 364), (vp_eq (eq_add (eq_mul (show (7 : Int32) = nI 7 from rfl) rfl) rfl) (vpi (hM.n 38 15 364) (by omega))), congrArg Value.int ((congrArg (fun z => (up2 (mI M) (ad 10 0) 0 0) (ad 9 38) z) (cl_of (eq_add (eq_mul (show (7 : Int32) = nI 7 from rfl) rfl) rfl) (by omega))).trans ((up2_n _ _ (fun z => absurd (hi _ _ _ _ z.1).1 (by decide))).trans (rfl))), trivial⟩ ?_
            refine go_icmp rfl (fun (z : ¬ ((mI M) (ad 9 38) (7 * w1 + c1)) = (-1)) => absurd z (show ¬ (¬ ((mI M) (ad 9 38) (7 * w1 + c1)) = (-1)) from (not_not_intro c2))) (fun _ => ?_)
            refine go_blk 1 [] (pc' := 44) (vs' := [.ref (ad 10 0), .int (nI j3), .int (nI w1), .int (nI c1)]) (st' := [.int (-1)]) (M' := mm M (up2 (mI M) (ad 10 0) 0 0) (mJ M)) (ps := []) rfl trivial ?_
            refine go_iret rfl rfl ?_
            exact h2 _ ⟨hsc, ad, nc, nb, nt, wk, nw, nx, nl, ne, nk, kd, op, rfl, rfl, rfl, hW.thr⟩
          · exact absurd ⟨c1, hc1, rfl⟩ c5
        · exact absurd ⟨w1, (Nat.zero_le _), (Nat.le_of_lt_succ hw1), rfl⟩ c4
      · -- 0
        show Go 1311 259 0 0 16 [.ref (ad 10 0), .int a1, .int (nI w1), .int (nI c1)] [.int 0] (mm M (up2 (mI M) (ad 10 0) 0 0) (mJ M)) R2
        refine go_if rfl (fun _ => ?_) (fun (z : ¬ ((0 : Int32) = 0)) => absurd (show (0 : Int32) = 0 from (by decide)) z)
        refine go_blk 1 [] (pc' := 44) (vs' := [.ref (ad 10 0), .int a1, .int (nI w1), .int (nI c1)]) (st' := [.int (-1)]) (M' := mm M (up2 (mI M) (ad 10 0) 0 0) (mJ M)) (ps := []) rfl trivial ?_
        refine go_iret rfl rfl ?_
        exact h2 _ ⟨hsc, ad, nc, nb, nt, wk, nw, nx, nl, ne, nk, kd, op, rfl, rfl, rfl, hW.thr⟩
    · -- ¬ (((mI M) (ad 9 38) (7 * w1 + c1)) = (-1))
      refine go_blk 2 [] (pc' := 13) (vs' := [.ref (ad 6 b1)]) (st' := [.int 1]) (M' := mm M (mI M) (mJ M)) (ps := []) rfl trivial ?_
      refine go_zret rfl rfl (Or.inr rfl) ?_
      refine ⟨ne_i, ?_⟩
      show Go 1311 147 0 0 18 [.ref (ad 0 0), .int a1, .int (nI w1), .int (nI c1), .ref (ad 6 b1)] [.int 1] (mm M (mI M) (mJ M)) R
      refine go_if rfl (fun _ => ?_) (fun (z : ¬ (¬ (1 : Int32) = 0)) => absurd (show ¬ (1 : Int32) = 0 from (by decide)) z)
      refine go_blk 4 [some (.ref (ad 0 10))] (pc' := 30) (vs' := [.ref (ad 0 0), .int a1, .int (nI w1), .int (nI c1), .ref (ad 6 b1)]) (st' := [.ref (ad 6 b1), .int a1, .ref (ad 0 10)]) (M' := mm M (mI M) (mJ M)) (ps := [ob (mm M (mI M) (mJ M)) (ad 0 0) 11, mR (mm M (mI M) (mJ M)) (ad 0 0) 17 = some (ad 0 10), va_rf (some (ad 0 10)) = .ref (ad 0 10)]) rfl ⟨(hF.o 0), (hF.r 0 17 10), rfl, trivial⟩ ?_
      refine go_callV rfl rfl rfl (by omega) rfl (by decide) (by decide) (hF.o 10) ?_
      refine s_Wa_coinsC (by omega) hi hF hX hB jX kX jR iB (by assumption) (by assumption) (fun i6 hi6 hx6 y6 => ⟨ne_i, ?_⟩) (fun hn6 => ⟨ne_i, ?_⟩)
      · -- ('i', 'pyV (mI M) ad i# b1')
        subst hx6
        show Go 1311 147 0 0 33 [.ref (ad 0 0), .int (nI i6), .int (nI w1), .int (nI c1), .ref (ad 6 b1)] [.int (pyV (mI M) ad i6 b1)] (mm M (up2 (mI M) (ad 7 i6) 8 y6) (mJ M)) R
        refine go_iret rfl rfl ?_
        refine K _ _ hM.1 rfl (fun R2 h2 => ?_)
        show Go 1311 259 0 0 0 [.ref (ad 10 0), .int (nI i6), .int (nI w1), .int (nI c1)] [] (mm M (up2 (mI M) (ad 7 i6) 8 y6) (mJ M)) R2
        refine go_blk 9 [some (.int (nI nx))] (pc' := 13) (vs' := [.ref (ad 10 0), .int (nI i6), .int (nI w1), .int (nI c1)]) (st' := [.int ((nI nx) - 1), .int 0, .int (nI i6)]) (M' := mm M (up2 (up2 (mI M) (ad 7 i6) 8 y6) (ad 10 0) 0 0) (mJ M)) (ps := [ob (mm M (up2 (mI M) (ad 7 i6) 8 y6) (mJ M)) (ad 10 0) 12, ob (mm M (up2 (up2 (mI M) (ad 7 i6) 8 y6) (ad 10 0) 0 0) (mJ M)) (ad 10 0) 12, (Value.int ((up2 (up2 (mI M) (ad 7 i6) 8 y6) (ad 10 0) 0 0) (ad 10 0) 81)) = .int (nI nx)]) rfl ⟨hM.1, hM.1, congrArg Value.int (((up2_n _ _ (fun z => absurd z.2 (by decide))).trans ((up2_n _ _ (fun z => absurd (hi _ _ _ _ z.1).1 (by decide))).trans (rfl))).trans jX.1.2.1), trivial⟩ ?_
        refine go_callS rfl (by decide) rfl rfl (by omega) rfl (by decide) (by decide) ?_
        refine s_Mo_isInP nx (by omega) (fun j7 hj7 hx7 => ⟨ne_i, ?_⟩) (fun c7 => ⟨ne_i, ?_⟩)
        · -- 1
          show Go 1311 259 0 0 16 [.ref (ad 10 0), .int (nI i6), .int (nI w1), .int (nI c1)] [.int 1] (mm M (up2 (up2 (mI M) (ad 7 i6) 8 y6) (ad 10 0) 0 0) (mJ M)) R2
          refine go_if rfl (fun (z : (1 : Int32) = 0) => absurd z (show ¬ ((1 : Int32) = 0) from (by decide))) (fun _ => ?_)
          refine go_blk 3 [] (pc' := 22) (vs' := [.ref (ad 10 0), .int (nI i6), .int (nI w1), .int (nI c1)]) (st' := [.int (nI c1), .int (nI w1), .ref (ad 10 0)]) (M' := mm M (up2 (up2 (mI M) (ad 7 i6) 8 y6) (ad 10 0) 0 0) (mJ M)) (ps := []) rfl trivial ?_
          refine go_callV rfl rfl rfl (by omega) rfl (by decide) (by decide) hM.1 ?_
          show Go (1311 - 1) 228 0 0 0 [.ref (ad 10 0), .int (nI w1), .int (nI c1)] [] (mm M (up2 (up2 (mI M) (ad 7 i6) 8 y6) (ad 10 0) 0 0) (mJ M)) _
          refine go_blk 3 [] (pc' := 4) (vs' := [.ref (ad 10 0), .int (nI w1), .int (nI c1)]) (st' := [.int 51, .int 0, .int (nI w1)]) (M' := mm M (up2 (up2 (mI M) (ad 7 i6) 8 y6) (ad 10 0) 0 0) (mJ M)) (ps := []) rfl trivial ?_
          refine go_callS rfl (by decide) rfl rfl (by omega) rfl (by decide) (by decide) ?_
          refine s_Mo_isInK 0 51 (by decide) (by decide) (fun j8 hl8 hj8 hx8 => ⟨ne_i, ?_⟩) (fun c8 => ⟨ne_i, ?_⟩)
          · -- 1
            show Go (1311 - 1) 228 0 0 7 [.ref (ad 10 0), .int (nI w1), .int (nI c1)] [.int 1] (mm M (up2 (up2 (mI M) (ad 7 i6) 8 y6) (ad 10 0) 0 0) (mJ M)) _
            refine go_if rfl (fun (z : (1 : Int32) = 0) => absurd z (show ¬ ((1 : Int32) = 0) from (by decide))) (fun _ => ?_)
            refine go_blk 2 [] (pc' := 12) (vs' := [.ref (ad 10 0), .int (nI w1), .int (nI c1)]) (st' := [.int (nI c1), .ref (ad 10 0)]) (M' := mm M (up2 (up2 (mI M) (ad 7 i6) 8 y6) (ad 10 0) 0 0) (mJ M)) (ps := []) rfl trivial ?_
            refine go_callV rfl rfl rfl (by omega) rfl (by decide) (by decide) hM.1 ?_
            refine s_Mo_isCottage hM (((up2_n _ _ (fun z => absurd z.2 (by decide))).trans ((up2_n _ _ (fun z => absurd (hi _ _ _ _ z.1).1 (by decide))).trans (rfl))).trans nc2) (Nat.le_trans nc3 (by decide)) (fun j9 hj9 hx9 => ⟨ne_i, ?_⟩) (fun c9 => ⟨ne_i, ?_⟩)
            · -- 1
              show Go (1311 - 1) 228 0 0 15 [.ref (ad 10 0), .int (nI w1), .int (nI c1)] [.int 1] (mm M (up2 (up2 (mI M) (ad 7 i6) 8 y6) (ad 10 0) 0 0) (mJ M)) _
              refine go_if rfl (fun (z : (1 : Int32) = 0) => absurd z (show ¬ ((1 : Int32) = 0) from (by decide))) (fun _ => ?_)
              refine go_blk 8 [some (.ref (ad 9 32)), some (.int 1)] (pc' := 29) (vs' := [.ref (ad 10 0), .int (nI w1), .int (nI c1)]) (st' := [.int 1]) (M' := mm M (up2 (up2 (mI M) (ad 7 i6) 8 y6) (ad 10 0) 0 0) (mJ M)) (ps := [ob (mm M (up2 (up2 (mI M) (ad 7 i6) 8 y6) (ad 10 0) 0 0) (mJ M)) (ad 10 0) 12, mR (mm M (up2 (up2 (mI M) (ad 7 i6) 8 y6) (ad 10 0) 0 0) (mJ M)) (ad 10 0) 32 = some (ad 9 32), va_rf (some (ad 9 32)) = .ref (ad 9 32), ob (mm M (up2 (up2 (mI M) (ad 7 i6) 8 y6) (ad 10 0) 0 0) (mJ M)) (ad 9 32) 13, 13 = 13 ∨ 13 = 14, vp_in ((7 * (nI w1)) + (nI c1)) (mN (mm M (up2 (up2 (mI M) (ad 7 i6) 8 y6) (ad 10 0) 0 0) (mJ M)) (ad 9 32)), (Value.int ((up2 (up2 (mI M) (ad 7 i6) 8 y6) (ad 10 0) 0 0) (ad 9 32) (((7 * (nI w1)) + (nI c1)).toNatClampNeg))) = .int 1]) rfl ⟨hM.1, (hM.r 32 13 364), rfl, (hM.o 32 13 364), (by decide), (vp_eq (eq_add (eq_mul (show (7 : Int32) = nI 7 from rfl) rfl) rfl) (vpi (hM.n 32 13 364) (by omega))), congrArg Value.int ((congrArg (fun z => (up2 (up2 (mI M) (ad 7 i6) 8 y6) (ad 10 0) 0 0) (ad 9 32) z) (cl_of (eq_add (eq_mul (show (7 : Int32) = nI 7 from rfl) rfl) rfl) (by omega))).trans (((up2_n _ _ (fun z => absurd (hi _ _ _ _ z.1).1 (by decide))).trans ((up2_n _ _ (fun z => absurd (hi _ _ _ _ z.1).1 (by decide))).trans (rfl))).trans (jO.1 b1 (by assumption) (by assumption) (7 * w1 + c1) (by assumption)).2.1.2.2)), trivial⟩ ?_
              refine go_if rfl (fun (z : (1 : Int32) = 0) => absurd z (show ¬ ((1 : Int32) = 0) from (by decide))) (fun _ => ?_)
              refine go_blk 2 [] (pc' := 37) (vs' := [.ref (ad 10 0), .int (nI w1), .int (nI c1)]) (st' := [.int 1]) (M' := mm M (up2 (up2 (mI M) (ad 7 i6) 8 y6) (ad 10 0) 0 0) (mJ M)) (ps := []) rfl trivial ?_
              refine go_zret rfl rfl (Or.inr rfl) ?_
              refine ⟨ne_i, ?_⟩
              show Go 1311 259 0 0 25 [.ref (ad 10 0), .int (nI i6), .int (nI w1), .int (nI c1)] [.int 1] (mm M (up2 (up2 (mI M) (ad 7 i6) 8 y6) (ad 10 0) 0 0) (mJ M)) R2
              refine go_if rfl (fun (z : (1 : Int32) = 0) => absurd z (show ¬ ((1 : Int32) = 0) from (by decide))) (fun _ => ?_)
              refine go_blk 9 [some (.ref (ad 9 38)), some (.int ((mI M) (ad 9 38) (7 * w1 + c1)))] (pc' := 40) (vs' := [.ref (ad 10 0), .int (nI i6), .int (nI w1), .int (nI c1)]) (st' := [.int (-1), .int ((mI M) (ad 9 38) (7 * w1 + c1))]) (M' := mm M (up2 (up2 (mI M) (ad 7 i6) 8 y6) (ad 10 0) 0 0) (mJ M)) (ps := [ob (mm M (up2 (up2 (mI M) (ad 7 i6) 8 y6) (ad 10 0) 0 0) (mJ M)) (ad 10 0) 12, mR (mm M (up2 (up2 (mI M) (ad 7 i6) 8 y6) (ad 10 0) 0 0) (mJ M)) (ad 10 0) 38 = some (ad 9 38), va_rf (some (ad 9 38)) = .ref (ad 9 38), ob (mm M (up2 (up2 (mI M) (ad 7 i6) 8 y6) (ad 10 0) 0 0) (mJ M)) (ad 9 38) 15, vp_in ((7 * (nI w1)) + (nI c1)) (mN (mm M (up2 (up2 (mI M) (ad 7 i6) 8 y6) (ad 10 0) 0 0) (mJ M)) (ad 9 38)), (Value.int ((up2 (up2 (mI M) (ad 7 i6) 8 y6) (ad 10 0) 0 0) (ad 9 38) (((7 * (nI w1)) + (nI c1)).toNatClampNeg))) = .int ((mI M) (ad 9 38) (7 * w1 + c1))]) rfl ⟨hM.1, (hM.r 38 15 364), rfl, (hM.o 38 15 364), (vp_eq (eq_add (eq_mul (show (7 : Int32) = nI 7 from rfl) rfl) rfl) (vpi (hM.n 38 15 364) (by omega))), congrArg Value.int ((congrArg (fun z => (up2 (up2 (mI M) (ad 7 i6) 8 y6) (ad 10 0) 0 0) (ad 9 38) z) (cl_of (eq_add (eq_mul (show (7 : Int32) = nI 7 from rfl) rfl) rfl) (by omega))).trans ((up2_n _ _ (fun z => absurd (hi _ _ _ _ z.1).1 (by decide))).trans ((up2_n _ _ (fun z => absurd (hi _ _ _ _ z.1).1 (by decide))).trans (rfl)))), trivial⟩ ?_
              refine go_icmp rfl (fun _ => ?_) (fun (z : ¬ (¬ ((mI M) (ad 9 38) (7 * w1 + c1)) = (-1))) => absurd (show ¬ ((mI M) (ad 9 38) (7 * w1 + c1)) = (-1) from c2) z)
              refine go_blk 7 [] (pc' := 53) (vs' := [.ref (ad 10 0), .int (nI i6), .int (nI w1), .int (nI c1)]) (st' := [.int ((7 * (nI w1)) + (nI c1)), .int (nI i6), .ref (ad 10 0)]) (M' := mm M (up2 (up2 (mI M) (ad 7 i6) 8 y6) (ad 10 0) 0 0) (mJ M)) (ps := []) rfl trivial ?_
              have ej : (7 * (nI w1)) + (nI c1) = nI (7 * w1 + c1) := (eq_add (eq_mul (show (7 : Int32) = nI 7 from rfl) rfl) rfl)
              have ehf : ∀ k m, (up2 (up2 (mI M) (ad 7 i6) 8 y6) (ad 10 0) 0 0) (ad 9 k) m = mI M (ad 9 k) m := fun k m => (up2_n _ _ (fun z => absurd (hi _ _ _ _ z.1).1 (by decide))).trans (up2_n _ _ (fun z => absurd (hi _ _ _ _ z.1).1 (by decide)))
              refine go_callV rfl rfl rfl (by omega) rfl (by decide) (by decide) hM.1 ?_
              refine s_Mo_payC2 (i := i6) (b := b1) ej (by omega) hW (by assumption) (by assumption) (by assumption) (by assumption) (by omega) ehf (fun f2 g2 hg hgj => ⟨ne_i, ?_⟩)
              · -- ('i', 'pyV (mI M) ad i6 b1')
                show Go 1311 259 0 0 56 [.ref (ad 10 0), .int (nI i6), .int (nI w1), .int (nI c1)] [.int (pyV (mI M) ad i6 b1)] (mm (sR M (ad 10 0) 82 (some (ad 9 76))) f2 g2) R2
                refine go_iret rfl rfl ?_
                exact h2 _ ⟨hsc, ad, nc, nb, nt, wk, nw, nx, nl, ne, nk, kd, op, rfl, rfl, rfl, hW.txt2 (q := i6) (fun b0 k0 z => up2_n _ _ (fun y => z ⟨y.1, by omega⟩)) hg hgj⟩
            · exact absurd ⟨c1, hc1, rfl⟩ c9
          · exact absurd ⟨w1, (Nat.zero_le _), (Nat.le_of_lt_succ hw1), rfl⟩ c8
        · exact absurd ⟨i6, hi6, rfl⟩ c7
      · -- ('i', '(-1)')
        show Go 1311 147 0 0 33 [.ref (ad 0 0), .int a1, .int (nI w1), .int (nI c1), .ref (ad 6 b1)] [.int (-1)] (mm M (mI M) (mJ M)) R
        refine go_iret rfl rfl ?_
        refine K _ _ hM.1 rfl (fun R2 h2 => ?_)
        show Go 1311 259 0 0 0 [.ref (ad 10 0), .int a1, .int (nI w1), .int (nI c1)] [] (mm M (mI M) (mJ M)) R2
        refine go_blk 9 [some (.int (nI nx))] (pc' := 13) (vs' := [.ref (ad 10 0), .int a1, .int (nI w1), .int (nI c1)]) (st' := [.int ((nI nx) - 1), .int 0, .int a1]) (M' := mm M (up2 (mI M) (ad 10 0) 0 0) (mJ M)) (ps := [ob (mm M (mI M) (mJ M)) (ad 10 0) 12, ob (mm M (up2 (mI M) (ad 10 0) 0 0) (mJ M)) (ad 10 0) 12, (Value.int ((up2 (mI M) (ad 10 0) 0 0) (ad 10 0) 81)) = .int (nI nx)]) rfl ⟨hM.1, hM.1, congrArg Value.int (((up2_n _ _ (fun z => absurd z.2 (by decide))).trans (rfl)).trans jX.1.2.1), trivial⟩ ?_
        refine go_callS rfl (by decide) rfl rfl (by omega) rfl (by decide) (by decide) ?_
        refine s_Mo_isInP nx (by omega) (fun j11 hj11 hx11 => ⟨ne_i, ?_⟩) (fun c11 => ⟨ne_i, ?_⟩)
        · exact absurd ⟨j11, hj11, hx11⟩ hn6
        · -- 0
          show Go 1311 259 0 0 16 [.ref (ad 10 0), .int a1, .int (nI w1), .int (nI c1)] [.int 0] (mm M (up2 (mI M) (ad 10 0) 0 0) (mJ M)) R2
          refine go_if rfl (fun _ => ?_) (fun (z : ¬ ((0 : Int32) = 0)) => absurd (show (0 : Int32) = 0 from (by decide)) z)
          refine go_blk 1 [] (pc' := 44) (vs' := [.ref (ad 10 0), .int a1, .int (nI w1), .int (nI c1)]) (st' := [.int (-1)]) (M' := mm M (up2 (mI M) (ad 10 0) 0 0) (mJ M)) (ps := []) rfl trivial ?_
          refine go_iret rfl rfl ?_
          exact h2 _ ⟨hsc, ad, nc, nb, nt, wk, nw, nx, nl, ne, nk, kd, op, rfl, rfl, rfl, hW.thr⟩
  · -- ('n',)
    show Go 1311 147 0 0 6 [.ref (ad 0 0), .int a1, .int a2, .int a3, .retAddr 0] [.null] (mm M (mI M) (mJ M)) R
    refine go_blk 2 [] (pc' := 10) (vs' := [.ref (ad 0 0), .int a1, .int a2, .int a3, .null]) (st' := [.null]) (M' := mm M (mI M) (mJ M)) (ps := []) rfl trivial ?_
    refine go_ifnull0 rfl ?_
    refine go_blk 1 [] (pc' := 22) (vs' := [.ref (ad 0 0), .int a1, .int a2, .int a3, .null]) (st' := [.int (-1)]) (M' := mm M (mI M) (mJ M)) (ps := []) rfl trivial ?_
    refine go_iret rfl rfl ?_
    refine K _ _ hM.1 rfl (fun R2 h2 => ?_)
    show Go 1311 259 0 0 0 [.ref (ad 10 0), .int a1, .int a2, .int a3] [] (mm M (mI M) (mJ M)) R2
    refine go_blk 9 [some (.int (nI nx))] (pc' := 13) (vs' := [.ref (ad 10 0), .int a1, .int a2, .int a3]) (st' := [.int ((nI nx) - 1), .int 0, .int a1]) (M' := mm M (up2 (mI M) (ad 10 0) 0 0) (mJ M)) (ps := [ob (mm M (mI M) (mJ M)) (ad 10 0) 12, ob (mm M (up2 (mI M) (ad 10 0) 0 0) (mJ M)) (ad 10 0) 12, (Value.int ((up2 (mI M) (ad 10 0) 0 0) (ad 10 0) 81)) = .int (nI nx)]) rfl ⟨hM.1, hM.1, congrArg Value.int (((up2_n _ _ (fun z => absurd z.2 (by decide))).trans (rfl)).trans jX.1.2.1), trivial⟩ ?_
    refine go_callS rfl (by decide) rfl rfl (by omega) rfl (by decide) (by decide) ?_
    refine s_Mo_isInP nx (by omega) (fun j12 hj12 hx12 => ⟨ne_i, ?_⟩) (fun c12 => ⟨ne_i, ?_⟩)
    · -- 1
      subst hx12
      show Go 1311 259 0 0 16 [.ref (ad 10 0), .int (nI j12), .int a2, .int a3] [.int 1] (mm M (up2 (mI M) (ad 10 0) 0 0) (mJ M)) R2
      refine go_if rfl (fun (z : (1 : Int32) = 0) => absurd z (show ¬ ((1 : Int32) = 0) from (by decide))) (fun _ => ?_)
      refine go_blk 3 [] (pc' := 22) (vs' := [.ref (ad 10 0), .int (nI j12), .int a2, .int a3]) (st' := [.int a3, .int a2, .ref (ad 10 0)]) (M' := mm M (up2 (mI M) (ad 10 0) 0 0) (mJ M)) (ps := []) rfl trivial ?_
      refine go_callV rfl rfl rfl (by omega) rfl (by decide) (by decide) hM.1 ?_
      show Go (1311 - 1) 228 0 0 0 [.ref (ad 10 0), .int a2, .int a3] [] (mm M (up2 (mI M) (ad 10 0) 0 0) (mJ M)) _
      refine go_blk 3 [] (pc' := 4) (vs' := [.ref (ad 10 0), .int a2, .int a3]) (st' := [.int 51, .int 0, .int a2]) (M' := mm M (up2 (mI M) (ad 10 0) 0 0) (mJ M)) (ps := []) rfl trivial ?_
      refine go_callS rfl (by decide) rfl rfl (by omega) rfl (by decide) (by decide) ?_
      refine s_Mo_isInK 0 51 (by decide) (by decide) (fun j13 hl13 hj13 hx13 => ⟨ne_i, ?_⟩) (fun c13 => ⟨ne_i, ?_⟩)
      · -- 1
        subst hx13
        show Go (1311 - 1) 228 0 0 7 [.ref (ad 10 0), .int (nI j13), .int a3] [.int 1] (mm M (up2 (mI M) (ad 10 0) 0 0) (mJ M)) _
        refine go_if rfl (fun (z : (1 : Int32) = 0) => absurd z (show ¬ ((1 : Int32) = 0) from (by decide))) (fun _ => ?_)
        refine go_blk 2 [] (pc' := 12) (vs' := [.ref (ad 10 0), .int (nI j13), .int a3]) (st' := [.int a3, .ref (ad 10 0)]) (M' := mm M (up2 (mI M) (ad 10 0) 0 0) (mJ M)) (ps := []) rfl trivial ?_
        refine go_callV rfl rfl rfl (by omega) rfl (by decide) (by decide) hM.1 ?_
        refine s_Mo_isCottage hM (((up2_n _ _ (fun z => absurd z.2 (by decide))).trans (rfl)).trans nc2) (Nat.le_trans nc3 (by decide)) (fun j14 hj14 hx14 => ⟨ne_i, ?_⟩) (fun c14 => ⟨ne_i, ?_⟩)
        · -- 1
          subst hx14
          show Go (1311 - 1) 228 0 0 15 [.ref (ad 10 0), .int (nI j13), .int (nI j14)] [.int 1] (mm M (up2 (mI M) (ad 10 0) 0 0) (mJ M)) _
          refine go_if rfl (fun (z : (1 : Int32) = 0) => absurd z (show ¬ ((1 : Int32) = 0) from (by decide))) (fun _ => ?_)
          refine go_blk 8 [some (.ref (ad 9 32)), some (.int 0)] (pc' := 29) (vs' := [.ref (ad 10 0), .int (nI j13), .int (nI j14)]) (st' := [.int 0]) (M' := mm M (up2 (mI M) (ad 10 0) 0 0) (mJ M)) (ps := [ob (mm M (up2 (mI M) (ad 10 0) 0 0) (mJ M)) (ad 10 0) 12, mR (mm M (up2 (mI M) (ad 10 0) 0 0) (mJ M)) (ad 10 0) 32 = some (ad 9 32), va_rf (some (ad 9 32)) = .ref (ad 9 32), ob (mm M (up2 (mI M) (ad 10 0) 0 0) (mJ M)) (ad 9 32) 13, 13 = 13 ∨ 13 = 14, vp_in ((7 * (nI j13)) + (nI j14)) (mN (mm M (up2 (mI M) (ad 10 0) 0 0) (mJ M)) (ad 9 32)), (Value.int ((up2 (mI M) (ad 10 0) 0 0) (ad 9 32) (((7 * (nI j13)) + (nI j14)).toNatClampNeg))) = .int 0]) rfl ⟨hM.1, (hM.r 32 13 364), rfl, (hM.o 32 13 364), (by decide), (vp_eq (eq_add (eq_mul (show (7 : Int32) = nI 7 from rfl) rfl) rfl) (vpi (hM.n 32 13 364) (by omega))), congrArg Value.int ((congrArg (fun z => (up2 (mI M) (ad 10 0) 0 0) (ad 9 32) z) (cl_of (eq_add (eq_mul (show (7 : Int32) = nI 7 from rfl) rfl) rfl) (by omega))).trans (((up2_n _ _ (fun z => absurd (hi _ _ _ _ z.1).1 (by decide))).trans (rfl)).trans (nojob0 jO hn1 (by omega) (by omega) nc3))), trivial⟩ ?_
          refine go_if rfl (fun _ => ?_) (fun (z : ¬ ((0 : Int32) = 0)) => absurd (show (0 : Int32) = 0 from (by decide)) z)
          refine go_blk 1 [] (pc' := 37) (vs' := [.ref (ad 10 0), .int (nI j13), .int (nI j14)]) (st' := [.int 0]) (M' := mm M (up2 (mI M) (ad 10 0) 0 0) (mJ M)) (ps := []) rfl trivial ?_
          refine go_zret rfl rfl (Or.inl rfl) ?_
          refine ⟨ne_i, ?_⟩
          show Go 1311 259 0 0 25 [.ref (ad 10 0), .int (nI j12), .int (nI j13), .int (nI j14)] [.int 0] (mm M (up2 (mI M) (ad 10 0) 0 0) (mJ M)) R2
          refine go_if rfl (fun _ => ?_) (fun (z : ¬ ((0 : Int32) = 0)) => absurd (show (0 : Int32) = 0 from (by decide)) z)
          refine go_blk 1 [] (pc' := 44) (vs' := [.ref (ad 10 0), .int (nI j12), .int (nI j13), .int (nI j14)]) (st' := [.int (-1)]) (M' := mm M (up2 (mI M) (ad 10 0) 0 0) (mJ M)) (ps := []) rfl trivial ?_
          refine go_iret rfl rfl ?_
          exact h2 _ ⟨hsc, ad, nc, nb, nt, wk, nw, nx, nl, ne, nk, kd, op, rfl, rfl, rfl, hW.thr⟩
        · -- 0
          show Go (1311 - 1) 228 0 0 15 [.ref (ad 10 0), .int (nI j13), .int a3] [.int 0] (mm M (up2 (mI M) (ad 10 0) 0 0) (mJ M)) _
          refine go_if rfl (fun _ => ?_) (fun (z : ¬ ((0 : Int32) = 0)) => absurd (show (0 : Int32) = 0 from (by decide)) z)
          refine go_blk 1 [] (pc' := 37) (vs' := [.ref (ad 10 0), .int (nI j13), .int a3]) (st' := [.int 0]) (M' := mm M (up2 (mI M) (ad 10 0) 0 0) (mJ M)) (ps := []) rfl trivial ?_
          refine go_zret rfl rfl (Or.inl rfl) ?_
          refine ⟨ne_i, ?_⟩
          show Go 1311 259 0 0 25 [.ref (ad 10 0), .int (nI j12), .int (nI j13), .int a3] [.int 0] (mm M (up2 (mI M) (ad 10 0) 0 0) (mJ M)) R2
          refine go_if rfl (fun _ => ?_) (fun (z : ¬ ((0 : Int32) = 0)) => absurd (show (0 : Int32) = 0 from (by decide)) z)
          refine go_blk 1 [] (pc' := 44) (vs' := [.ref (ad 10 0), .int (nI j12), .int (nI j13), .int a3]) (st' := [.int (-1)]) (M' := mm M (up2 (mI M) (ad 10 0) 0 0) (mJ M)) (ps := []) rfl trivial ?_
          refine go_iret rfl rfl ?_
          exact h2 _ ⟨hsc, ad, nc, nb, nt, wk, nw, nx, nl, ne, nk, kd, op, rfl, rfl, rfl, hW.thr⟩
      · -- 0
        show Go (1311 - 1) 228 0 0 7 [.ref (ad 10 0), .int a2, .int a3] [.int 0] (mm M (up2 (mI M) (ad 10 0) 0 0) (mJ M)) _
        refine go_if rfl (fun _ => ?_) (fun (z : ¬ ((0 : Int32) = 0)) => absurd (show (0 : Int32) = 0 from (by decide)) z)
        refine go_blk 1 [] (pc' := 37) (vs' := [.ref (ad 10 0), .int a2, .int a3]) (st' := [.int 0]) (M' := mm M (up2 (mI M) (ad 10 0) 0 0) (mJ M)) (ps := []) rfl trivial ?_
        refine go_zret rfl rfl (Or.inl rfl) ?_
        refine ⟨ne_i, ?_⟩
        show Go 1311 259 0 0 25 [.ref (ad 10 0), .int (nI j12), .int a2, .int a3] [.int 0] (mm M (up2 (mI M) (ad 10 0) 0 0) (mJ M)) R2
        refine go_if rfl (fun _ => ?_) (fun (z : ¬ ((0 : Int32) = 0)) => absurd (show (0 : Int32) = 0 from (by decide)) z)
        refine go_blk 1 [] (pc' := 44) (vs' := [.ref (ad 10 0), .int (nI j12), .int a2, .int a3]) (st' := [.int (-1)]) (M' := mm M (up2 (mI M) (ad 10 0) 0 0) (mJ M)) (ps := []) rfl trivial ?_
        refine go_iret rfl rfl ?_
        exact h2 _ ⟨hsc, ad, nc, nb, nt, wk, nw, nx, nl, ne, nk, kd, op, rfl, rfl, rfl, hW.thr⟩
    · -- 0
      show Go 1311 259 0 0 16 [.ref (ad 10 0), .int a1, .int a2, .int a3] [.int 0] (mm M (up2 (mI M) (ad 10 0) 0 0) (mJ M)) R2
      refine go_if rfl (fun _ => ?_) (fun (z : ¬ ((0 : Int32) = 0)) => absurd (show (0 : Int32) = 0 from (by decide)) z)
      refine go_blk 1 [] (pc' := 44) (vs' := [.ref (ad 10 0), .int a1, .int a2, .int a3]) (st' := [.int (-1)]) (M' := mm M (up2 (mI M) (ad 10 0) 0 0) (mJ M)) (ps := []) rfl trivial ?_
      refine go_iret rfl rfl ?_
      exact h2 _ ⟨hsc, ad, nc, nb, nt, wk, nw, nx, nl, ne, nk, kd, op, rfl, rfl, rfl, hW.thr⟩

