/-! calls: code, job, row, line -/
theorem b01_1 {x : Int32} (h : b01 x) (h0 : ¬ x = 0) : x = 1 := by rcases h with h | h; exact absurd h h0; exact h
theorem b01_0 {x : Int32} (h : b01 x) (h0 : ¬ x = 1) : x = 0 := by rcases h with h | h; exact h; exact absurd h h0
theorem nojob0 {φ : VI} {nb nt nc wk w c : Nat} {op : Bool} (jO : IJo φ nb nt wk op) (hn : ¬ (∃ w0 c0, w0 < 52 ∧ c0 < nc ∧ nI w = nI w0 ∧ nI c = nI c0 ∧ φ 9 32 (7 * w0 + c0) = 1)) (hw : w < 52) (hc : c < nc) (nc3 : nc ≤ 7) : φ 9 32 (7 * w + c) = 0 := by
  rcases job_01 jO (j := 7 * w + c) (by omega) with h | h
  · exact h
  · exact absurd ⟨w, c, hw, hc, rfl, rfl, h⟩ hn
theorem nolt1 {x : Int32} {n : Nat} (hn : n < 2 ^ 31) (h : ¬ 0 ≤ x) : ¬ ∃ k, k < n ∧ x = nI k := fun hq => h ((in_lt2 hn).mpr hq).1
theorem nolt2 {x : Int32} {n : Nat} (hn : n < 2 ^ 31) (h : ¬ x < nI n) : ¬ ∃ k, k < n ∧ x = nI k := fun hq => h ((in_lt2 hn).mpr hq).2
theorem nI_nlt0 {n : Nat} (h : n < 2 ^ 31) : ¬ (nI n < 0) := by rw [i32_lt, nI_toInt h]; exact Int.not_lt.mpr (Int.natCast_nonneg n)
theorem nI_ge0 {n : Nat} (h : n < 2 ^ 31) : 0 ≤ nI n := by rw [i32_le, nI_toInt h]; exact Int.natCast_nonneg n
theorem s_Mo_isInP (n : Nat) {d : Nat} {M : Mem} {f : Nat → Nat → Int32} {g : Nat → Nat → Int64} {R : Option Value → Mem → Prop} {x : Int32} (hn : n < 2 ^ 31) (h1 : ∀ k, k < n → x = nI k → R (some (.int 1)) (mm M f g)) (h0 : ¬ (∃ k, k < n ∧ x = nI k) → R (some (.int 0)) (mm M f g)) : Call d 187 [.int x, .int 0, .int (nI n - 1)] (mm M f g) R :=
  s_Mo_isIn (Nat.zero_le d) (fun c => by obtain ⟨k, hk, hx⟩ := (in_lt hn).mp c; exact h1 k hk hx) (fun c => h0 (fun hq => c ((in_lt hn).mpr hq)))

set_option maxHeartbeats 20000000 in
set_option maxRecDepth 100000 in
theorem op40 {x o u : Nat} {sc : Nat × Nat × (Nat → Int32)} : Op40 (II x o u sc) x o := by
  intro M a1 hI R K
  obtain ⟨hsc, ad, nc, nb, nt, wk, nw, nx, nl, ne, nk, kd, op, rfl, rfl, rfl, hW⟩ := hI
  obtain ⟨hi, ⟨hF, hM, hC, hB, hT, hX⟩, ⟨iS, iC, iB, iR, iL, iT⟩, ⟨jO, jR, jB, jX, jL⟩, kO, kC, kD, kP, kX⟩ := id hW
  obtain ⟨⟨nc1, nc2, nc3⟩, ⟨nb1, nb2, nb3⟩, ⟨nt1, nt2, nt3⟩, ⟨wk1, wk2, wk3⟩, ⟨nw1, nw2, nw3⟩, ⟨op1, op2, op3⟩, ncm, ncm1, ncm2, ncm3⟩ := id iS
  simp only [vw] at nc1 nc2 nb1 nb2 nt1 nt2 wk1 wk2 nw1 nw2 op1 op2 ncm2 ncm3
  obtain ⟨nn, nn3, nn1, nn2, nnb⟩ := jX.2.1
  simp only [vw] at nn1 nn2
  have nl3 := jL.1.2.2.1
  have nx3 := jX.1.2.2
  have nk3 := jB.1.2.2.2.2.1
  have ne3 := jB.1.2.2.2.2.2
  show Go 1311 156 0 0 0 [.ref (ad 0 0), .int a1, .retAddr 0] [] (mm M (mI M) (mJ M)) R
  refine go_blk 2 [] (pc' := 2) (vs' := [.ref (ad 0 0), .int a1, .retAddr 0]) (st' := [.int a1, .ref (ad 0 0)]) (M' := mm M (mI M) (mJ M)) (ps := []) rfl trivial ?_
  refine go_callV rfl rfl rfl (by omega) rfl (by decide) (by decide) (hF.o 0) ?_
  show Go (1311 - 1) 164 0 0 0 [.ref (ad 0 0), .int a1, .retAddr 0] [] (mm M (mI M) (mJ M)) _
  refine go_blk 2 [] (pc' := 2) (vs' := [.ref (ad 0 0), .int a1, .retAddr 0]) (st' := [.int a1, .ref (ad 0 0)]) (M' := mm M (mI M) (mJ M)) (ps := []) rfl trivial ?_
  refine go_callV rfl rfl rfl (by omega) rfl (by decide) (by decide) (hF.o 0) ?_
  refine s_CY_bookingAt (by omega) hF hB nb1 nb3 (fun j1 hj1 hx1 => ⟨ne_a, ?_⟩) (fun c1 => ⟨ne_0, ?_⟩)
  · -- ('r', 'ad 2 j1')
    subst hx1
    obtain ⟨bc1, bd1, be1⟩ := (iB.1 j1 (by assumption)).2.1.1
    obtain ⟨bw1, bx1, by1, bz1⟩ := (iB.1 j1 (by assumption)).2.2.1
    show Go (1311 - 1) 164 0 0 5 [.ref (ad 0 0), .int (nI j1), .retAddr 0] [.ref (ad 2 j1)] (mm M (mI M) (mJ M)) _
    refine go_blk 2 [] (pc' := 7) (vs' := [.ref (ad 0 0), .int (nI j1), .ref (ad 2 j1)]) (st' := [.ref (ad 2 j1)]) (M' := mm M (mI M) (mJ M)) (ps := []) rfl trivial ?_
    refine go_ifnull1 rfl ?_
    refine go_blk 2 [some (.int ((mI M) (ad 9 16) j1))] (pc' := 14) (vs' := [.ref (ad 0 0), .int (nI j1), .ref (ad 2 j1)]) (st' := [.int ((mI M) (ad 9 16) j1)]) (M' := mm M (mI M) (mJ M)) (ps := [ob (mm M (mI M) (mJ M)) (ad 2 j1) 0, (Value.int ((mI M) (ad 2 j1) 7)) = .int ((mI M) (ad 9 16) j1)]) rfl ⟨(hB j1 (by assumption)).2, congrArg Value.int ((iB.1 j1 (by assumption)).1.2.2.2.2.2.2.2.1), trivial⟩ ?_
    refine go_if rfl (fun (c2 : ((mI M) (ad 9 16) j1) = 0) => ?_) (fun (c2 : ¬ (((mI M) (ad 9 16) j1) = 0)) => ?_)
    · -- ((mI M) (ad 9 16) j1) = 0
      refine go_blk 1 [] (pc' := 22) (vs' := [.ref (ad 0 0), .int (nI j1), .ref (ad 2 j1)]) (st' := [.null]) (M' := mm M (mI M) (mJ M)) (ps := []) rfl trivial ?_
      refine go_aret (q := none) rfl ⟨_, rfl⟩ ?_
      refine ⟨ne_0, ?_⟩
      show Go 1311 156 0 0 5 [.ref (ad 0 0), .int (nI j1), .retAddr 0] [.null] (mm M (mI M) (mJ M)) R
      refine go_blk 2 [] (pc' := 7) (vs' := [.ref (ad 0 0), .int (nI j1), .null]) (st' := [.null]) (M' := mm M (mI M) (mJ M)) (ps := []) rfl trivial ?_
      refine go_ifnon0 rfl ?_
      refine go_blk 2 [] (pc' := 18) (vs' := [.ref (ad 0 0), .int (nI j1), .null]) (st' := [.int (-1)]) (M' := mm M (mI M) (mJ M)) (ps := []) rfl trivial ?_
      refine go_iret rfl rfl ?_
      refine K _ _ hM.1 rfl (fun R2 h2 => ?_)
      show Go 1311 273 0 0 0 [.ref (ad 10 0), .int (nI j1)] [] (mm M (mI M) (mJ M)) R2
      refine go_blk 5 [] (pc' := 7) (vs' := [.ref (ad 10 0), .int (nI j1)]) (st' := [.int (nI j1), .ref (ad 10 0)]) (M' := mm M (up2 (mI M) (ad 10 0) 0 0) (mJ M)) (ps := [ob (mm M (mI M) (mJ M)) (ad 10 0) 12]) rfl ⟨hM.1, trivial⟩ ?_
      refine go_callV rfl rfl rfl (by omega) rfl (by decide) (by decide) hM.1 ?_
      show Go (1311 - 1) 265 0 0 0 [.ref (ad 10 0), .int (nI j1)] [] (mm M (up2 (mI M) (ad 10 0) 0 0) (mJ M)) _
      refine go_blk 2 [] (pc' := 2) (vs' := [.ref (ad 10 0), .int (nI j1)]) (st' := [.int (nI j1), .ref (ad 10 0)]) (M' := mm M (up2 (mI M) (ad 10 0) 0 0) (mJ M)) (ps := []) rfl trivial ?_
      refine go_callV rfl rfl rfl (by omega) rfl (by decide) (by decide) hM.1 ?_
      refine s_Mo_isBooking hM (((up2_n _ _ (fun z => absurd z.2 (by decide))).trans (rfl)).trans nb2) (Nat.le_trans nb3 (by decide)) (fun j3 hj3 hx3 => ⟨ne_i, ?_⟩) (fun c3 => ⟨ne_i, ?_⟩)
      · -- 1
        show Go (1311 - 1) 265 0 0 5 [.ref (ad 10 0), .int (nI j1)] [.int 1] (mm M (up2 (mI M) (ad 10 0) 0 0) (mJ M)) _
        refine go_if rfl (fun (z : (1 : Int32) = 0) => absurd z (show ¬ ((1 : Int32) = 0) from (by decide))) (fun _ => ?_)
        refine go_blk 4 [some (.ref (ad 9 16)), some (.int ((mI M) (ad 9 16) j1))] (pc' := 14) (vs' := [.ref (ad 10 0), .int (nI j1)]) (st' := [.int ((mI M) (ad 9 16) j1)]) (M' := mm M (up2 (mI M) (ad 10 0) 0 0) (mJ M)) (ps := [ob (mm M (up2 (mI M) (ad 10 0) 0 0) (mJ M)) (ad 10 0) 12, mR (mm M (up2 (mI M) (ad 10 0) 0 0) (mJ M)) (ad 10 0) 16 = some (ad 9 16), va_rf (some (ad 9 16)) = .ref (ad 9 16), ob (mm M (up2 (mI M) (ad 10 0) 0 0) (mJ M)) (ad 9 16) 13, 13 = 13 ∨ 13 = 14, vp_in (nI j1) (mN (mm M (up2 (mI M) (ad 10 0) 0 0) (mJ M)) (ad 9 16)), (Value.int ((up2 (mI M) (ad 10 0) 0 0) (ad 9 16) ((nI j1).toNatClampNeg))) = .int ((mI M) (ad 9 16) j1)]) rfl ⟨hM.1, (hM.r 16 13 60), rfl, (hM.o 16 13 60), (by decide), (vpi (hM.n 16 13 60) (by omega)), congrArg Value.int ((congrArg (fun z => (up2 (mI M) (ad 10 0) 0 0) (ad 9 16) z) (nI_clamp (by omega))).trans ((up2_n _ _ (fun z => absurd (hi _ _ _ _ z.1).1 (by decide))).trans (rfl))), trivial⟩ ?_
        refine go_if rfl (fun _ => ?_) (fun (z : ¬ (((mI M) (ad 9 16) j1) = 0)) => absurd (show ((mI M) (ad 9 16) j1) = 0 from c2) z)
        refine go_blk 1 [] (pc' := 22) (vs' := [.ref (ad 10 0), .int (nI j1)]) (st' := [.int 0]) (M' := mm M (up2 (mI M) (ad 10 0) 0 0) (mJ M)) (ps := []) rfl trivial ?_
        refine go_zret rfl rfl (Or.inl rfl) ?_
        refine ⟨ne_i, ?_⟩
        show Go 1311 273 0 0 10 [.ref (ad 10 0), .int (nI j1)] [.int 0] (mm M (up2 (mI M) (ad 10 0) 0 0) (mJ M)) R2
        refine go_if rfl (fun _ => ?_) (fun (z : ¬ ((0 : Int32) = 0)) => absurd (show (0 : Int32) = 0 from (by decide)) z)
        refine go_blk 1 [] (pc' := 23) (vs' := [.ref (ad 10 0), .int (nI j1)]) (st' := [.int (-1)]) (M' := mm M (up2 (mI M) (ad 10 0) 0 0) (mJ M)) (ps := []) rfl trivial ?_
        refine go_iret rfl rfl ?_
        exact h2 _ ⟨hsc, ad, nc, nb, nt, wk, nw, nx, nl, ne, nk, kd, op, rfl, rfl, rfl, hW.thr⟩
      · exact absurd ⟨j1, hj1, rfl⟩ c3
    · -- ¬ (((mI M) (ad 9 16) j1) = 0)
      refine go_blk 2 [] (pc' := 22) (vs' := [.ref (ad 0 0), .int (nI j1), .ref (ad 2 j1)]) (st' := [.ref (ad 2 j1)]) (M' := mm M (mI M) (mJ M)) (ps := []) rfl trivial ?_
      refine go_aret (q := some (ad 2 j1)) rfl ⟨_, rfl⟩ ?_
      refine ⟨ne_a, ?_⟩
      show Go 1311 156 0 0 5 [.ref (ad 0 0), .int (nI j1), .retAddr 0] [.ref (ad 2 j1)] (mm M (mI M) (mJ M)) R
      refine go_blk 2 [] (pc' := 7) (vs' := [.ref (ad 0 0), .int (nI j1), .ref (ad 2 j1)]) (st' := [.ref (ad 2 j1)]) (M' := mm M (mI M) (mJ M)) (ps := []) rfl trivial ?_
      refine go_ifnon1 rfl ?_
      refine go_blk 2 [some (.int ((mI M) (ad 9 12) j1))] (pc' := 18) (vs' := [.ref (ad 0 0), .int (nI j1), .ref (ad 2 j1)]) (st' := [.int ((mI M) (ad 9 12) j1)]) (M' := mm M (mI M) (mJ M)) (ps := [ob (mm M (mI M) (mJ M)) (ad 2 j1) 0, (Value.int ((mI M) (ad 2 j1) 10)) = .int ((mI M) (ad 9 12) j1)]) rfl ⟨(hB j1 (by assumption)).2, congrArg Value.int (((iB.1 j1 (by assumption)).2.2.2 (b01_1 (iB.1 j1 (by assumption)).2.1.2.2.2.2.2.2 c2)).symm), trivial⟩ ?_
      refine go_iret rfl rfl ?_
      refine K _ _ hM.1 rfl (fun R2 h2 => ?_)
      show Go 1311 273 0 0 0 [.ref (ad 10 0), .int (nI j1)] [] (mm M (mI M) (mJ M)) R2
      refine go_blk 5 [] (pc' := 7) (vs' := [.ref (ad 10 0), .int (nI j1)]) (st' := [.int (nI j1), .ref (ad 10 0)]) (M' := mm M (up2 (mI M) (ad 10 0) 0 0) (mJ M)) (ps := [ob (mm M (mI M) (mJ M)) (ad 10 0) 12]) rfl ⟨hM.1, trivial⟩ ?_
      refine go_callV rfl rfl rfl (by omega) rfl (by decide) (by decide) hM.1 ?_
      show Go (1311 - 1) 265 0 0 0 [.ref (ad 10 0), .int (nI j1)] [] (mm M (up2 (mI M) (ad 10 0) 0 0) (mJ M)) _
      refine go_blk 2 [] (pc' := 2) (vs' := [.ref (ad 10 0), .int (nI j1)]) (st' := [.int (nI j1), .ref (ad 10 0)]) (M' := mm M (up2 (mI M) (ad 10 0) 0 0) (mJ M)) (ps := []) rfl trivial ?_
      refine go_callV rfl rfl rfl (by omega) rfl (by decide) (by decide) hM.1 ?_
      refine s_Mo_isBooking hM (((up2_n _ _ (fun z => absurd z.2 (by decide))).trans (rfl)).trans nb2) (Nat.le_trans nb3 (by decide)) (fun j4 hj4 hx4 => ⟨ne_i, ?_⟩) (fun c4 => ⟨ne_i, ?_⟩)
      · -- 1
        show Go (1311 - 1) 265 0 0 5 [.ref (ad 10 0), .int (nI j1)] [.int 1] (mm M (up2 (mI M) (ad 10 0) 0 0) (mJ M)) _
        refine go_if rfl (fun (z : (1 : Int32) = 0) => absurd z (show ¬ ((1 : Int32) = 0) from (by decide))) (fun _ => ?_)
        refine go_blk 4 [some (.ref (ad 9 16)), some (.int ((mI M) (ad 9 16) j1))] (pc' := 14) (vs' := [.ref (ad 10 0), .int (nI j1)]) (st' := [.int ((mI M) (ad 9 16) j1)]) (M' := mm M (up2 (mI M) (ad 10 0) 0 0) (mJ M)) (ps := [ob (mm M (up2 (mI M) (ad 10 0) 0 0) (mJ M)) (ad 10 0) 12, mR (mm M (up2 (mI M) (ad 10 0) 0 0) (mJ M)) (ad 10 0) 16 = some (ad 9 16), va_rf (some (ad 9 16)) = .ref (ad 9 16), ob (mm M (up2 (mI M) (ad 10 0) 0 0) (mJ M)) (ad 9 16) 13, 13 = 13 ∨ 13 = 14, vp_in (nI j1) (mN (mm M (up2 (mI M) (ad 10 0) 0 0) (mJ M)) (ad 9 16)), (Value.int ((up2 (mI M) (ad 10 0) 0 0) (ad 9 16) ((nI j1).toNatClampNeg))) = .int ((mI M) (ad 9 16) j1)]) rfl ⟨hM.1, (hM.r 16 13 60), rfl, (hM.o 16 13 60), (by decide), (vpi (hM.n 16 13 60) (by omega)), congrArg Value.int ((congrArg (fun z => (up2 (mI M) (ad 10 0) 0 0) (ad 9 16) z) (nI_clamp (by omega))).trans ((up2_n _ _ (fun z => absurd (hi _ _ _ _ z.1).1 (by decide))).trans (rfl))), trivial⟩ ?_
        refine go_if rfl (fun (z : ((mI M) (ad 9 16) j1) = 0) => absurd z (show ¬ (((mI M) (ad 9 16) j1) = 0) from c2)) (fun _ => ?_)
        refine go_blk 2 [] (pc' := 22) (vs' := [.ref (ad 10 0), .int (nI j1)]) (st' := [.int 1]) (M' := mm M (up2 (mI M) (ad 10 0) 0 0) (mJ M)) (ps := []) rfl trivial ?_
        refine go_zret rfl rfl (Or.inr rfl) ?_
        refine ⟨ne_i, ?_⟩
        show Go 1311 273 0 0 10 [.ref (ad 10 0), .int (nI j1)] [.int 1] (mm M (up2 (mI M) (ad 10 0) 0 0) (mJ M)) R2
        refine go_if rfl (fun (z : (1 : Int32) = 0) => absurd z (show ¬ ((1 : Int32) = 0) from (by decide))) (fun _ => ?_)
        refine go_blk 5 [some (.ref (ad 9 12)), some (.int ((mI M) (ad 9 12) j1))] (pc' := 23) (vs' := [.ref (ad 10 0), .int (nI j1)]) (st' := [.int ((mI M) (ad 9 12) j1)]) (M' := mm M (up2 (mI M) (ad 10 0) 0 0) (mJ M)) (ps := [ob (mm M (up2 (mI M) (ad 10 0) 0 0) (mJ M)) (ad 10 0) 12, mR (mm M (up2 (mI M) (ad 10 0) 0 0) (mJ M)) (ad 10 0) 12 = some (ad 9 12), va_rf (some (ad 9 12)) = .ref (ad 9 12), ob (mm M (up2 (mI M) (ad 10 0) 0 0) (mJ M)) (ad 9 12) 15, vp_in (nI j1) (mN (mm M (up2 (mI M) (ad 10 0) 0 0) (mJ M)) (ad 9 12)), (Value.int ((up2 (mI M) (ad 10 0) 0 0) (ad 9 12) ((nI j1).toNatClampNeg))) = .int ((mI M) (ad 9 12) j1)]) rfl ⟨hM.1, (hM.r 12 15 60), rfl, (hM.o 12 15 60), (vpi (hM.n 12 15 60) (by omega)), congrArg Value.int ((congrArg (fun z => (up2 (mI M) (ad 10 0) 0 0) (ad 9 12) z) (nI_clamp (by omega))).trans ((up2_n _ _ (fun z => absurd (hi _ _ _ _ z.1).1 (by decide))).trans (rfl))), trivial⟩ ?_
        refine go_iret rfl rfl ?_
        exact h2 _ ⟨hsc, ad, nc, nb, nt, wk, nw, nx, nl, ne, nk, kd, op, rfl, rfl, rfl, hW.thr⟩
      · exact absurd ⟨j1, hj1, rfl⟩ c4
  · -- ('n',)
    show Go (1311 - 1) 164 0 0 5 [.ref (ad 0 0), .int a1, .retAddr 0] [.null] (mm M (mI M) (mJ M)) _
    refine go_blk 2 [] (pc' := 7) (vs' := [.ref (ad 0 0), .int a1, .null]) (st' := [.null]) (M' := mm M (mI M) (mJ M)) (ps := []) rfl trivial ?_
    refine go_ifnull0 rfl ?_
    refine go_blk 1 [] (pc' := 22) (vs' := [.ref (ad 0 0), .int a1, .null]) (st' := [.null]) (M' := mm M (mI M) (mJ M)) (ps := []) rfl trivial ?_
    refine go_aret (q := none) rfl ⟨_, rfl⟩ ?_
    refine ⟨ne_0, ?_⟩
    show Go 1311 156 0 0 5 [.ref (ad 0 0), .int a1, .retAddr 0] [.null] (mm M (mI M) (mJ M)) R
    refine go_blk 2 [] (pc' := 7) (vs' := [.ref (ad 0 0), .int a1, .null]) (st' := [.null]) (M' := mm M (mI M) (mJ M)) (ps := []) rfl trivial ?_
    refine go_ifnon0 rfl ?_
    refine go_blk 2 [] (pc' := 18) (vs' := [.ref (ad 0 0), .int a1, .null]) (st' := [.int (-1)]) (M' := mm M (mI M) (mJ M)) (ps := []) rfl trivial ?_
    refine go_iret rfl rfl ?_
    refine K _ _ hM.1 rfl (fun R2 h2 => ?_)
    show Go 1311 273 0 0 0 [.ref (ad 10 0), .int a1] [] (mm M (mI M) (mJ M)) R2
    refine go_blk 5 [] (pc' := 7) (vs' := [.ref (ad 10 0), .int a1]) (st' := [.int a1, .ref (ad 10 0)]) (M' := mm M (up2 (mI M) (ad 10 0) 0 0) (mJ M)) (ps := [ob (mm M (mI M) (mJ M)) (ad 10 0) 12]) rfl ⟨hM.1, trivial⟩ ?_
    refine go_callV rfl rfl rfl (by omega) rfl (by decide) (by decide) hM.1 ?_
    show Go (1311 - 1) 265 0 0 0 [.ref (ad 10 0), .int a1] [] (mm M (up2 (mI M) (ad 10 0) 0 0) (mJ M)) _
    refine go_blk 2 [] (pc' := 2) (vs' := [.ref (ad 10 0), .int a1]) (st' := [.int a1, .ref (ad 10 0)]) (M' := mm M (up2 (mI M) (ad 10 0) 0 0) (mJ M)) (ps := []) rfl trivial ?_
    refine go_callV rfl rfl rfl (by omega) rfl (by decide) (by decide) hM.1 ?_
    refine s_Mo_isBooking hM (((up2_n _ _ (fun z => absurd z.2 (by decide))).trans (rfl)).trans nb2) (Nat.le_trans nb3 (by decide)) (fun j5 hj5 hx5 => ⟨ne_i, ?_⟩) (fun c5 => ⟨ne_i, ?_⟩)
    · exact absurd ⟨j5, hj5, hx5⟩ c1
    · -- 0
      show Go (1311 - 1) 265 0 0 5 [.ref (ad 10 0), .int a1] [.int 0] (mm M (up2 (mI M) (ad 10 0) 0 0) (mJ M)) _
      refine go_if rfl (fun _ => ?_) (fun (z : ¬ ((0 : Int32) = 0)) => absurd (show (0 : Int32) = 0 from (by decide)) z)
      refine go_blk 1 [] (pc' := 22) (vs' := [.ref (ad 10 0), .int a1]) (st' := [.int 0]) (M' := mm M (up2 (mI M) (ad 10 0) 0 0) (mJ M)) (ps := []) rfl trivial ?_
      refine go_zret rfl rfl (Or.inl rfl) ?_
      refine ⟨ne_i, ?_⟩
      show Go 1311 273 0 0 10 [.ref (ad 10 0), .int a1] [.int 0] (mm M (up2 (mI M) (ad 10 0) 0 0) (mJ M)) R2
      refine go_if rfl (fun _ => ?_) (fun (z : ¬ ((0 : Int32) = 0)) => absurd (show (0 : Int32) = 0 from (by decide)) z)
      refine go_blk 1 [] (pc' := 23) (vs' := [.ref (ad 10 0), .int a1]) (st' := [.int (-1)]) (M' := mm M (up2 (mI M) (ad 10 0) 0 0) (mJ M)) (ps := []) rfl trivial ?_
      refine go_iret rfl rfl ?_
      exact h2 _ ⟨hsc, ad, nc, nb, nt, wk, nw, nx, nl, ne, nk, kd, op, rfl, rfl, rfl, hW.thr⟩

set_option maxHeartbeats 20000000 in
set_option maxRecDepth 100000 in
theorem op22 {x o u : Nat} {sc : Nat × Nat × (Nat → Int32)} : Op22 (II x o u sc) x o := by
  intro M a1 a2 a3 hI R K
  obtain ⟨hsc, ad, nc, nb, nt, wk, nw, nx, nl, ne, nk, kd, op, rfl, rfl, rfl, hW⟩ := hI
  obtain ⟨hi, ⟨hF, hM, hC, hB, hT, hX⟩, ⟨iS, iC, iB, iR, iL, iT⟩, ⟨jO, jR, jB, jX, jL⟩, kO, kC, kD, kP, kX⟩ := id hW
  obtain ⟨⟨nc1, nc2, nc3⟩, ⟨nb1, nb2, nb3⟩, ⟨nt1, nt2, nt3⟩, ⟨wk1, wk2, wk3⟩, ⟨nw1, nw2, nw3⟩, ⟨op1, op2, op3⟩, ncm, ncm1, ncm2, ncm3⟩ := id iS
  simp only [vw] at nc1 nc2 nb1 nb2 nt1 nt2 wk1 wk2 nw1 nw2 op1 op2 ncm2 ncm3
  obtain ⟨nn, nn3, nn1, nn2, nnb⟩ := jX.2.1
  simp only [vw] at nn1 nn2
  have nl3 := jL.1.2.2.1
  have nx3 := jX.1.2.2
  have nk3 := jB.1.2.2.2.2.1
  have ne3 := jB.1.2.2.2.2.2
  show Go 1311 138 0 0 0 [.ref (ad 0 0), .int a1, .int a2, .int a3, .retAddr 0] [] (mm M (mI M) (mJ M)) R
  refine go_blk 3 [] (pc' := 3) (vs' := [.ref (ad 0 0), .int a1, .int a2, .int a3, .retAddr 0]) (st' := [.int a2, .int a1, .ref (ad 0 0)]) (M' := mm M (mI M) (mJ M)) (ps := []) rfl trivial ?_
  refine go_callV rfl rfl rfl (by omega) rfl (by decide) (by decide) (hF.o 0) ?_
  refine s_CY_jobOf (by omega) hF hB hC nc1 nc3 iB jO jR (fun w1 c1 b1 hw1 hc1 hb1 hJ1 hA1 hx1 hy1 => ⟨ne_a, ?_⟩) (fun hn1 => ⟨ne_0, ?_⟩)
  · -- ('r', 'ad 6 b#')
    subst hx1
    subst hy1
    show Go 1311 138 0 0 6 [.ref (ad 0 0), .int (nI w1), .int (nI c1), .int a3, .retAddr 0] [.ref (ad 6 b1)] (mm M (mI M) (mJ M)) R
    refine go_blk 2 [] (pc' := 10) (vs' := [.ref (ad 0 0), .int (nI w1), .int (nI c1), .int a3, .ref (ad 6 b1)]) (st' := [.ref (ad 6 b1)]) (M' := mm M (mI M) (mJ M)) (ps := []) rfl trivial ?_
    refine go_ifnon1 rfl ?_
    refine go_blk 2 [] (pc' := 20) (vs' := [.ref (ad 0 0), .int (nI w1), .int (nI c1), .int a3, .ref (ad 6 b1)]) (st' := [.int a3, .ref (ad 6 b1)]) (M' := mm M (mI M) (mJ M)) (ps := []) rfl trivial ?_
    refine go_callV rfl rfl rfl (by omega) rfl (by decide) (by decide) ((jR.1 b1 (by assumption)).1 (by assumption)).2.1 ?_
    show Go (1311 - 1) 29 0 0 0 [.ref (ad 6 b1), .int a3] [] (mm M (mI M) (mJ M)) _
    refine go_blk 1 [] (pc' := 1) (vs' := [.ref (ad 6 b1), .int a3]) (st' := [.int a3]) (M' := mm M (mI M) (mJ M)) (ps := []) rfl trivial ?_
    refine go_tsw rfl ?_
    refine ⟨fun (c2 : a3 = 0) => ?_, fun (c2n : ¬ (a3 = 0)) => ?_⟩
    · -- a3 = 0
      subst c2
      show Go (1311 - 1) 29 0 0 56 [.ref (ad 6 b1), .int 0] [] (mm M (mI M) (mJ M)) _
      refine go_blk 2 [some (.int ((mI M) (ad 9 33) (7 * w1 + c1)))] (pc' := 60) (vs' := [.ref (ad 6 b1), .int 0]) (st' := [.int ((mI M) (ad 9 33) (7 * w1 + c1))]) (M' := mm M (mI M) (mJ M)) (ps := [ob (mm M (mI M) (mJ M)) (ad 6 b1) 3, (Value.int ((mI M) (ad 6 b1) 5)) = .int ((mI M) (ad 9 33) (7 * w1 + c1))]) rfl ⟨((jR.1 b1 (by assumption)).1 (by assumption)).2.1, congrArg Value.int ((jO.1 b1 (by assumption) (by assumption) (7 * w1 + c1) (by assumption)).1.2.2.2.2.1), trivial⟩ ?_
      refine go_iret rfl rfl ?_
      refine ⟨ne_i, ?_⟩
      show Go 1311 138 0 0 23 [.ref (ad 0 0), .int (nI w1), .int (nI c1), .int 0, .ref (ad 6 b1)] [.int ((mI M) (ad 9 33) (7 * w1 + c1))] (mm M (mI M) (mJ M)) R
      refine go_iret rfl rfl ?_
      refine K _ _ hM.1 rfl (fun R2 h2 => ?_)
      show Go 1311 230 0 0 0 [.ref (ad 10 0), .int (nI w1), .int (nI c1), .int 0, .retAddr 0] [] (mm M (mI M) (mJ M)) R2
      refine go_blk 6 [] (pc' := 8) (vs' := [.ref (ad 10 0), .int (nI w1), .int (nI c1), .int 0, .retAddr 0]) (st' := [.int (nI c1), .int (nI w1), .ref (ad 10 0)]) (M' := mm M (up2 (mI M) (ad 10 0) 0 0) (mJ M)) (ps := [ob (mm M (mI M) (mJ M)) (ad 10 0) 12]) rfl ⟨hM.1, trivial⟩ ?_
      refine go_callV rfl rfl rfl (by omega) rfl (by decide) (by decide) hM.1 ?_
      show Go (1311 - 1) 228 0 0 0 [.ref (ad 10 0), .int (nI w1), .int (nI c1)] [] (mm M (up2 (mI M) (ad 10 0) 0 0) (mJ M)) _
      refine go_blk 3 [] (pc' := 4) (vs' := [.ref (ad 10 0), .int (nI w1), .int (nI c1)]) (st' := [.int 51, .int 0, .int (nI w1)]) (M' := mm M (up2 (mI M) (ad 10 0) 0 0) (mJ M)) (ps := []) rfl trivial ?_
      refine go_callS rfl (by decide) rfl rfl (by omega) rfl (by decide) (by decide) ?_
      refine s_Mo_isInK 0 51 (by decide) (by decide) (fun j3 hl3 hj3 hx3 => ⟨ne_i, ?_⟩) (fun c3 => ⟨ne_i, ?_⟩)
      · -- 1
        show Go (1311 - 1) 228 0 0 7 [.ref (ad 10 0), .int (nI w1), .int (nI c1)] [.int 1] (mm M (up2 (mI M) (ad 10 0) 0 0) (mJ M)) _
        refine go_if rfl (fun (z : (1 : Int32) = 0) => absurd z (show ¬ ((1 : Int32) = 0) from (by decide))) (fun _ => ?_)
        refine go_blk 2 [] (pc' := 12) (vs' := [.ref (ad 10 0), .int (nI w1), .int (nI c1)]) (st' := [.int (nI c1), .ref (ad 10 0)]) (M' := mm M (up2 (mI M) (ad 10 0) 0 0) (mJ M)) (ps := []) rfl trivial ?_
        refine go_callV rfl rfl rfl (by omega) rfl (by decide) (by decide) hM.1 ?_
        refine s_Mo_isCottage hM (((up2_n _ _ (fun z => absurd z.2 (by decide))).trans (rfl)).trans nc2) (Nat.le_trans nc3 (by decide)) (fun j4 hj4 hx4 => ⟨ne_i, ?_⟩) (fun c4 => ⟨ne_i, ?_⟩)
        · -- 1
          show Go (1311 - 1) 228 0 0 15 [.ref (ad 10 0), .int (nI w1), .int (nI c1)] [.int 1] (mm M (up2 (mI M) (ad 10 0) 0 0) (mJ M)) _
          refine go_if rfl (fun (z : (1 : Int32) = 0) => absurd z (show ¬ ((1 : Int32) = 0) from (by decide))) (fun _ => ?_)
          refine go_blk 8 [some (.ref (ad 9 32)), some (.int 1)] (pc' := 29) (vs' := [.ref (ad 10 0), .int (nI w1), .int (nI c1)]) (st' := [.int 1]) (M' := mm M (up2 (mI M) (ad 10 0) 0 0) (mJ M)) (ps := [ob (mm M (up2 (mI M) (ad 10 0) 0 0) (mJ M)) (ad 10 0) 12, mR (mm M (up2 (mI M) (ad 10 0) 0 0) (mJ M)) (ad 10 0) 32 = some (ad 9 32), va_rf (some (ad 9 32)) = .ref (ad 9 32), ob (mm M (up2 (mI M) (ad 10 0) 0 0) (mJ M)) (ad 9 32) 13, 13 = 13 ∨ 13 = 14, vp_in ((7 * (nI w1)) + (nI c1)) (mN (mm M (up2 (mI M) (ad 10 0) 0 0) (mJ M)) (ad 9 32)), (Value.int ((up2 (mI M) (ad 10 0) 0 0) (ad 9 32) (((7 * (nI w1)) + (nI c1)).toNatClampNeg))) = .int 1]) rfl ⟨hM.1, (hM.r 32 13 364), rfl, (hM.o 32 13 364), (by decide), (vp_eq (eq_add (eq_mul (show (7 : Int32) = nI 7 from rfl) rfl) rfl) (vpi (hM.n 32 13 364) (by omega))), congrArg Value.int ((congrArg (fun z => (up2 (mI M) (ad 10 0) 0 0) (ad 9 32) z) (cl_of (eq_add (eq_mul (show (7 : Int32) = nI 7 from rfl) rfl) rfl) (by omega))).trans (((up2_n _ _ (fun z => absurd (hi _ _ _ _ z.1).1 (by decide))).trans (rfl)).trans (jO.1 b1 (by assumption) (by assumption) (7 * w1 + c1) (by assumption)).2.1.2.2)), trivial⟩ ?_
          refine go_if rfl (fun (z : (1 : Int32) = 0) => absurd z (show ¬ ((1 : Int32) = 0) from (by decide))) (fun _ => ?_)
          refine go_blk 2 [] (pc' := 37) (vs' := [.ref (ad 10 0), .int (nI w1), .int (nI c1)]) (st' := [.int 1]) (M' := mm M (up2 (mI M) (ad 10 0) 0 0) (mJ M)) (ps := []) rfl trivial ?_
          refine go_zret rfl rfl (Or.inr rfl) ?_
          refine ⟨ne_i, ?_⟩
          show Go 1311 230 0 0 11 [.ref (ad 10 0), .int (nI w1), .int (nI c1), .int 0, .retAddr 0] [.int 1] (mm M (up2 (mI M) (ad 10 0) 0 0) (mJ M)) R2
          refine go_if rfl (fun _ => ?_) (fun (z : ¬ (¬ (1 : Int32) = 0)) => absurd (show ¬ (1 : Int32) = 0 from (by decide)) z)
          refine go_blk 7 [] (pc' := 25) (vs' := [.ref (ad 10 0), .int (nI w1), .int (nI c1), .int 0, .int ((7 * (nI w1)) + (nI c1))]) (st' := [.int 0]) (M' := mm M (up2 (mI M) (ad 10 0) 0 0) (mJ M)) (ps := []) rfl trivial ?_
          refine go_tsw rfl ?_
          refine ⟨fun _ => ?_, fun z => absurd rfl z⟩
          show Go 1311 230 0 0 80 [.ref (ad 10 0), .int (nI w1), .int (nI c1), .int 0, .int ((7 * (nI w1)) + (nI c1))] [] (mm M (up2 (mI M) (ad 10 0) 0 0) (mJ M)) R2
          refine go_blk 4 [some (.ref (ad 9 33)), some (.int ((mI M) (ad 9 33) (7 * w1 + c1)))] (pc' := 87) (vs' := [.ref (ad 10 0), .int (nI w1), .int (nI c1), .int 0, .int ((7 * (nI w1)) + (nI c1))]) (st' := [.int ((mI M) (ad 9 33) (7 * w1 + c1))]) (M' := mm M (up2 (mI M) (ad 10 0) 0 0) (mJ M)) (ps := [ob (mm M (up2 (mI M) (ad 10 0) 0 0) (mJ M)) (ad 10 0) 12, mR (mm M (up2 (mI M) (ad 10 0) 0 0) (mJ M)) (ad 10 0) 33 = some (ad 9 33), va_rf (some (ad 9 33)) = .ref (ad 9 33), ob (mm M (up2 (mI M) (ad 10 0) 0 0) (mJ M)) (ad 9 33) 15, vp_in ((7 * (nI w1)) + (nI c1)) (mN (mm M (up2 (mI M) (ad 10 0) 0 0) (mJ M)) (ad 9 33)), (Value.int ((up2 (mI M) (ad 10 0) 0 0) (ad 9 33) (((7 * (nI w1)) + (nI c1)).toNatClampNeg))) = .int ((mI M) (ad 9 33) (7 * w1 + c1))]) rfl ⟨hM.1, (hM.r 33 15 364), rfl, (hM.o 33 15 364), (vp_eq (eq_add (eq_mul (show (7 : Int32) = nI 7 from rfl) rfl) rfl) (vpi (hM.n 33 15 364) (by omega))), congrArg Value.int ((congrArg (fun z => (up2 (mI M) (ad 10 0) 0 0) (ad 9 33) z) (cl_of (eq_add (eq_mul (show (7 : Int32) = nI 7 from rfl) rfl) rfl) (by omega))).trans ((up2_n _ _ (fun z => absurd (hi _ _ _ _ z.1).1 (by decide))).trans (rfl))), trivial⟩ ?_
          refine go_iret rfl rfl ?_
          exact h2 _ ⟨hsc, ad, nc, nb, nt, wk, nw, nx, nl, ne, nk, kd, op, rfl, rfl, rfl, hW.thr⟩
        · exact absurd ⟨c1, hc1, rfl⟩ c4
      · exact absurd ⟨w1, (Nat.zero_le _), (Nat.le_of_lt_succ hw1), rfl⟩ c3
    refine ⟨fun (c5 : a3 = 1) => ?_, fun (c5n : ¬ (a3 = 1)) => ?_⟩
    · -- a3 = 1
      subst c5
      show Go (1311 - 1) 29 0 0 61 [.ref (ad 6 b1), .int 1] [] (mm M (mI M) (mJ M)) _
      refine go_blk 2 [some (.int ((mI M) (ad 9 34) (7 * w1 + c1)))] (pc' := 65) (vs' := [.ref (ad 6 b1), .int 1]) (st' := [.int ((mI M) (ad 9 34) (7 * w1 + c1))]) (M' := mm M (mI M) (mJ M)) (ps := [ob (mm M (mI M) (mJ M)) (ad 6 b1) 3, (Value.int ((mI M) (ad 6 b1) 3)) = .int ((mI M) (ad 9 34) (7 * w1 + c1))]) rfl ⟨((jR.1 b1 (by assumption)).1 (by assumption)).2.1, congrArg Value.int ((jO.1 b1 (by assumption) (by assumption) (7 * w1 + c1) (by assumption)).1.2.2.1), trivial⟩ ?_
      refine go_iret rfl rfl ?_
      refine ⟨ne_i, ?_⟩
      show Go 1311 138 0 0 23 [.ref (ad 0 0), .int (nI w1), .int (nI c1), .int 1, .ref (ad 6 b1)] [.int ((mI M) (ad 9 34) (7 * w1 + c1))] (mm M (mI M) (mJ M)) R
      refine go_iret rfl rfl ?_
      refine K _ _ hM.1 rfl (fun R2 h2 => ?_)
      show Go 1311 230 0 0 0 [.ref (ad 10 0), .int (nI w1), .int (nI c1), .int 1, .retAddr 0] [] (mm M (mI M) (mJ M)) R2
      refine go_blk 6 [] (pc' := 8) (vs' := [.ref (ad 10 0), .int (nI w1), .int (nI c1), .int 1, .retAddr 0]) (st' := [.int (nI c1), .int (nI w1), .ref (ad 10 0)]) (M' := mm M (up2 (mI M) (ad 10 0) 0 0) (mJ M)) (ps := [ob (mm M (mI M) (mJ M)) (ad 10 0) 12]) rfl ⟨hM.1, trivial⟩ ?_
      refine go_callV rfl rfl rfl (by omega) rfl (by decide) (by decide) hM.1 ?_
      show Go (1311 - 1) 228 0 0 0 [.ref (ad 10 0), .int (nI w1), .int (nI c1)] [] (mm M (up2 (mI M) (ad 10 0) 0 0) (mJ M)) _
      refine go_blk 3 [] (pc' := 4) (vs' := [.ref (ad 10 0), .int (nI w1), .int (nI c1)]) (st' := [.int 51, .int 0, .int (nI w1)]) (M' := mm M (up2 (mI M) (ad 10 0) 0 0) (mJ M)) (ps := []) rfl trivial ?_
      refine go_callS rfl (by decide) rfl rfl (by omega) rfl (by decide) (by decide) ?_
      refine s_Mo_isInK 0 51 (by decide) (by decide) (fun j6 hl6 hj6 hx6 => ⟨ne_i, ?_⟩) (fun c6 => ⟨ne_i, ?_⟩)
      · -- 1
        show Go (1311 - 1) 228 0 0 7 [.ref (ad 10 0), .int (nI w1), .int (nI c1)] [.int 1] (mm M (up2 (mI M) (ad 10 0) 0 0) (mJ M)) _
        refine go_if rfl (fun (z : (1 : Int32) = 0) => absurd z (show ¬ ((1 : Int32) = 0) from (by decide))) (fun _ => ?_)
        refine go_blk 2 [] (pc' := 12) (vs' := [.ref (ad 10 0), .int (nI w1), .int (nI c1)]) (st' := [.int (nI c1), .ref (ad 10 0)]) (M' := mm M (up2 (mI M) (ad 10 0) 0 0) (mJ M)) (ps := []) rfl trivial ?_
        refine go_callV rfl rfl rfl (by omega) rfl (by decide) (by decide) hM.1 ?_
        refine s_Mo_isCottage hM (((up2_n _ _ (fun z => absurd z.2 (by decide))).trans (rfl)).trans nc2) (Nat.le_trans nc3 (by decide)) (fun j7 hj7 hx7 => ⟨ne_i, ?_⟩) (fun c7 => ⟨ne_i, ?_⟩)
        · -- 1
          show Go (1311 - 1) 228 0 0 15 [.ref (ad 10 0), .int (nI w1), .int (nI c1)] [.int 1] (mm M (up2 (mI M) (ad 10 0) 0 0) (mJ M)) _
          refine go_if rfl (fun (z : (1 : Int32) = 0) => absurd z (show ¬ ((1 : Int32) = 0) from (by decide))) (fun _ => ?_)
          refine go_blk 8 [some (.ref (ad 9 32)), some (.int 1)] (pc' := 29) (vs' := [.ref (ad 10 0), .int (nI w1), .int (nI c1)]) (st' := [.int 1]) (M' := mm M (up2 (mI M) (ad 10 0) 0 0) (mJ M)) (ps := [ob (mm M (up2 (mI M) (ad 10 0) 0 0) (mJ M)) (ad 10 0) 12, mR (mm M (up2 (mI M) (ad 10 0) 0 0) (mJ M)) (ad 10 0) 32 = some (ad 9 32), va_rf (some (ad 9 32)) = .ref (ad 9 32), ob (mm M (up2 (mI M) (ad 10 0) 0 0) (mJ M)) (ad 9 32) 13, 13 = 13 ∨ 13 = 14, vp_in ((7 * (nI w1)) + (nI c1)) (mN (mm M (up2 (mI M) (ad 10 0) 0 0) (mJ M)) (ad 9 32)), (Value.int ((up2 (mI M) (ad 10 0) 0 0) (ad 9 32) (((7 * (nI w1)) + (nI c1)).toNatClampNeg))) = .int 1]) rfl ⟨hM.1, (hM.r 32 13 364), rfl, (hM.o 32 13 364), (by decide), (vp_eq (eq_add (eq_mul (show (7 : Int32) = nI 7 from rfl) rfl) rfl) (vpi (hM.n 32 13 364) (by omega))), congrArg Value.int ((congrArg (fun z => (up2 (mI M) (ad 10 0) 0 0) (ad 9 32) z) (cl_of (eq_add (eq_mul (show (7 : Int32) = nI 7 from rfl) rfl) rfl) (by omega))).trans (((up2_n _ _ (fun z => absurd (hi _ _ _ _ z.1).1 (by decide))).trans (rfl)).trans (jO.1 b1 (by assumption) (by assumption) (7 * w1 + c1) (by assumption)).2.1.2.2)), trivial⟩ ?_
          refine go_if rfl (fun (z : (1 : Int32) = 0) => absurd z (show ¬ ((1 : Int32) = 0) from (by decide))) (fun _ => ?_)
          refine go_blk 2 [] (pc' := 37) (vs' := [.ref (ad 10 0), .int (nI w1), .int (nI c1)]) (st' := [.int 1]) (M' := mm M (up2 (mI M) (ad 10 0) 0 0) (mJ M)) (ps := []) rfl trivial ?_
          refine go_zret rfl rfl (Or.inr rfl) ?_
          refine ⟨ne_i, ?_⟩
          show Go 1311 230 0 0 11 [.ref (ad 10 0), .int (nI w1), .int (nI c1), .int 1, .retAddr 0] [.int 1] (mm M (up2 (mI M) (ad 10 0) 0 0) (mJ M)) R2
          refine go_if rfl (fun _ => ?_) (fun (z : ¬ (¬ (1 : Int32) = 0)) => absurd (show ¬ (1 : Int32) = 0 from (by decide)) z)
          refine go_blk 7 [] (pc' := 25) (vs' := [.ref (ad 10 0), .int (nI w1), .int (nI c1), .int 1, .int ((7 * (nI w1)) + (nI c1))]) (st' := [.int 1]) (M' := mm M (up2 (mI M) (ad 10 0) 0 0) (mJ M)) (ps := []) rfl trivial ?_
          refine go_tsw rfl ?_
          refine ⟨fun (z : (1 : Int32) = 0) => absurd z (by decide), fun _ => ?_⟩
          refine ⟨fun _ => ?_, fun z => absurd rfl z⟩
          show Go 1311 230 0 0 88 [.ref (ad 10 0), .int (nI w1), .int (nI c1), .int 1, .int ((7 * (nI w1)) + (nI c1))] [] (mm M (up2 (mI M) (ad 10 0) 0 0) (mJ M)) R2
          refine go_blk 4 [some (.ref (ad 9 34)), some (.int ((mI M) (ad 9 34) (7 * w1 + c1)))] (pc' := 95) (vs' := [.ref (ad 10 0), .int (nI w1), .int (nI c1), .int 1, .int ((7 * (nI w1)) + (nI c1))]) (st' := [.int ((mI M) (ad 9 34) (7 * w1 + c1))]) (M' := mm M (up2 (mI M) (ad 10 0) 0 0) (mJ M)) (ps := [ob (mm M (up2 (mI M) (ad 10 0) 0 0) (mJ M)) (ad 10 0) 12, mR (mm M (up2 (mI M) (ad 10 0) 0 0) (mJ M)) (ad 10 0) 34 = some (ad 9 34), va_rf (some (ad 9 34)) = .ref (ad 9 34), ob (mm M (up2 (mI M) (ad 10 0) 0 0) (mJ M)) (ad 9 34) 15, vp_in ((7 * (nI w1)) + (nI c1)) (mN (mm M (up2 (mI M) (ad 10 0) 0 0) (mJ M)) (ad 9 34)), (Value.int ((up2 (mI M) (ad 10 0) 0 0) (ad 9 34) (((7 * (nI w1)) + (nI c1)).toNatClampNeg))) = .int ((mI M) (ad 9 34) (7 * w1 + c1))]) rfl ⟨hM.1, (hM.r 34 15 364), rfl, (hM.o 34 15 364), (vp_eq (eq_add (eq_mul (show (7 : Int32) = nI 7 from rfl) rfl) rfl) (vpi (hM.n 34 15 364) (by omega))), congrArg Value.int ((congrArg (fun z => (up2 (mI M) (ad 10 0) 0 0) (ad 9 34) z) (cl_of (eq_add (eq_mul (show (7 : Int32) = nI 7 from rfl) rfl) rfl) (by omega))).trans ((up2_n _ _ (fun z => absurd (hi _ _ _ _ z.1).1 (by decide))).trans (rfl))), trivial⟩ ?_
          refine go_iret rfl rfl ?_
          exact h2 _ ⟨hsc, ad, nc, nb, nt, wk, nw, nx, nl, ne, nk, kd, op, rfl, rfl, rfl, hW.thr⟩
        · exact absurd ⟨c1, hc1, rfl⟩ c7
      · exact absurd ⟨w1, (Nat.zero_le _), (Nat.le_of_lt_succ hw1), rfl⟩ c6
    refine ⟨fun (c8 : a3 = 2) => ?_, fun (c8n : ¬ (a3 = 2)) => ?_⟩
    · -- a3 = 2
      subst c8
      show Go (1311 - 1) 29 0 0 66 [.ref (ad 6 b1), .int 2] [] (mm M (mI M) (mJ M)) _
      refine go_blk 2 [some (.int ((mI M) (ad 9 35) (7 * w1 + c1)))] (pc' := 70) (vs' := [.ref (ad 6 b1), .int 2]) (st' := [.int ((mI M) (ad 9 35) (7 * w1 + c1))]) (M' := mm M (mI M) (mJ M)) (ps := [ob (mm M (mI M) (mJ M)) (ad 6 b1) 3, (Value.int ((mI M) (ad 6 b1) 6)) = .int ((mI M) (ad 9 35) (7 * w1 + c1))]) rfl ⟨((jR.1 b1 (by assumption)).1 (by assumption)).2.1, congrArg Value.int ((jO.1 b1 (by assumption) (by assumption) (7 * w1 + c1) (by assumption)).1.2.2.2.2.2.1), trivial⟩ ?_
      refine go_iret rfl rfl ?_
      refine ⟨ne_i, ?_⟩
      show Go 1311 138 0 0 23 [.ref (ad 0 0), .int (nI w1), .int (nI c1), .int 2, .ref (ad 6 b1)] [.int ((mI M) (ad 9 35) (7 * w1 + c1))] (mm M (mI M) (mJ M)) R
      refine go_iret rfl rfl ?_
      refine K _ _ hM.1 rfl (fun R2 h2 => ?_)
      show Go 1311 230 0 0 0 [.ref (ad 10 0), .int (nI w1), .int (nI c1), .int 2, .retAddr 0] [] (mm M (mI M) (mJ M)) R2
      refine go_blk 6 [] (pc' := 8) (vs' := [.ref (ad 10 0), .int (nI w1), .int (nI c1), .int 2, .retAddr 0]) (st' := [.int (nI c1), .int (nI w1), .ref (ad 10 0)]) (M' := mm M (up2 (mI M) (ad 10 0) 0 0) (mJ M)) (ps := [ob (mm M (mI M) (mJ M)) (ad 10 0) 12]) rfl ⟨hM.1, trivial⟩ ?_
      refine go_callV rfl rfl rfl (by omega) rfl (by decide) (by decide) hM.1 ?_
      show Go (1311 - 1) 228 0 0 0 [.ref (ad 10 0), .int (nI w1), .int (nI c1)] [] (mm M (up2 (mI M) (ad 10 0) 0 0) (mJ M)) _
      refine go_blk 3 [] (pc' := 4) (vs' := [.ref (ad 10 0), .int (nI w1), .int (nI c1)]) (st' := [.int 51, .int 0, .int (nI w1)]) (M' := mm M (up2 (mI M) (ad 10 0) 0 0) (mJ M)) (ps := []) rfl trivial ?_
      refine go_callS rfl (by decide) rfl rfl (by omega) rfl (by decide) (by decide) ?_
      refine s_Mo_isInK 0 51 (by decide) (by decide) (fun j9 hl9 hj9 hx9 => ⟨ne_i, ?_⟩) (fun c9 => ⟨ne_i, ?_⟩)
      · -- 1
        show Go (1311 - 1) 228 0 0 7 [.ref (ad 10 0), .int (nI w1), .int (nI c1)] [.int 1] (mm M (up2 (mI M) (ad 10 0) 0 0) (mJ M)) _
        refine go_if rfl (fun (z : (1 : Int32) = 0) => absurd z (show ¬ ((1 : Int32) = 0) from (by decide))) (fun _ => ?_)
        refine go_blk 2 [] (pc' := 12) (vs' := [.ref (ad 10 0), .int (nI w1), .int (nI c1)]) (st' := [.int (nI c1), .ref (ad 10 0)]) (M' := mm M (up2 (mI M) (ad 10 0) 0 0) (mJ M)) (ps := []) rfl trivial ?_
        refine go_callV rfl rfl rfl (by omega) rfl (by decide) (by decide) hM.1 ?_
        refine s_Mo_isCottage hM (((up2_n _ _ (fun z => absurd z.2 (by decide))).trans (rfl)).trans nc2) (Nat.le_trans nc3 (by decide)) (fun j10 hj10 hx10 => ⟨ne_i, ?_⟩) (fun c10 => ⟨ne_i, ?_⟩)
        · -- 1
          show Go (1311 - 1) 228 0 0 15 [.ref (ad 10 0), .int (nI w1), .int (nI c1)] [.int 1] (mm M (up2 (mI M) (ad 10 0) 0 0) (mJ M)) _
          refine go_if rfl (fun (z : (1 : Int32) = 0) => absurd z (show ¬ ((1 : Int32) = 0) from (by decide))) (fun _ => ?_)
          refine go_blk 8 [some (.ref (ad 9 32)), some (.int 1)] (pc' := 29) (vs' := [.ref (ad 10 0), .int (nI w1), .int (nI c1)]) (st' := [.int 1]) (M' := mm M (up2 (mI M) (ad 10 0) 0 0) (mJ M)) (ps := [ob (mm M (up2 (mI M) (ad 10 0) 0 0) (mJ M)) (ad 10 0) 12, mR (mm M (up2 (mI M) (ad 10 0) 0 0) (mJ M)) (ad 10 0) 32 = some (ad 9 32), va_rf (some (ad 9 32)) = .ref (ad 9 32), ob (mm M (up2 (mI M) (ad 10 0) 0 0) (mJ M)) (ad 9 32) 13, 13 = 13 ∨ 13 = 14, vp_in ((7 * (nI w1)) + (nI c1)) (mN (mm M (up2 (mI M) (ad 10 0) 0 0) (mJ M)) (ad 9 32)), (Value.int ((up2 (mI M) (ad 10 0) 0 0) (ad 9 32) (((7 * (nI w1)) + (nI c1)).toNatClampNeg))) = .int 1]) rfl ⟨hM.1, (hM.r 32 13 364), rfl, (hM.o 32 13 364), (by decide), (vp_eq (eq_add (eq_mul (show (7 : Int32) = nI 7 from rfl) rfl) rfl) (vpi (hM.n 32 13 364) (by omega))), congrArg Value.int ((congrArg (fun z => (up2 (mI M) (ad 10 0) 0 0) (ad 9 32) z) (cl_of (eq_add (eq_mul (show (7 : Int32) = nI 7 from rfl) rfl) rfl) (by omega))).trans (((up2_n _ _ (fun z => absurd (hi _ _ _ _ z.1).1 (by decide))).trans (rfl)).trans (jO.1 b1 (by assumption) (by assumption) (7 * w1 + c1) (by assumption)).2.1.2.2)), trivial⟩ ?_
          refine go_if rfl (fun (z : (1 : Int32) = 0) => absurd z (show ¬ ((1 : Int32) = 0) from (by decide))) (fun _ => ?_)
          refine go_blk 2 [] (pc' := 37) (vs' := [.ref (ad 10 0), .int (nI w1), .int (nI c1)]) (st' := [.int 1]) (M' := mm M (up2 (mI M) (ad 10 0) 0 0) (mJ M)) (ps := []) rfl trivial ?_
          refine go_zret rfl rfl (Or.inr rfl) ?_
          refine ⟨ne_i, ?_⟩
          show Go 1311 230 0 0 11 [.ref (ad 10 0), .int (nI w1), .int (nI c1), .int 2, .retAddr 0] [.int 1] (mm M (up2 (mI M) (ad 10 0) 0 0) (mJ M)) R2
          refine go_if rfl (fun _ => ?_) (fun (z : ¬ (¬ (1 : Int32) = 0)) => absurd (show ¬ (1 : Int32) = 0 from (by decide)) z)
          refine go_blk 7 [] (pc' := 25) (vs' := [.ref (ad 10 0), .int (nI w1), .int (nI c1), .int 2, .int ((7 * (nI w1)) + (nI c1))]) (st' := [.int 2]) (M' := mm M (up2 (mI M) (ad 10 0) 0 0) (mJ M)) (ps := []) rfl trivial ?_
          refine go_tsw rfl ?_
          refine ⟨fun (z : (2 : Int32) = 0) => absurd z (by decide), fun _ => ?_⟩
          refine ⟨fun (z : (2 : Int32) = 1) => absurd z (by decide), fun _ => ?_⟩
          refine ⟨fun _ => ?_, fun z => absurd rfl z⟩
          show Go 1311 230 0 0 96 [.ref (ad 10 0), .int (nI w1), .int (nI c1), .int 2, .int ((7 * (nI w1)) + (nI c1))] [] (mm M (up2 (mI M) (ad 10 0) 0 0) (mJ M)) R2
          refine go_blk 4 [some (.ref (ad 9 35)), some (.int ((mI M) (ad 9 35) (7 * w1 + c1)))] (pc' := 103) (vs' := [.ref (ad 10 0), .int (nI w1), .int (nI c1), .int 2, .int ((7 * (nI w1)) + (nI c1))]) (st' := [.int ((mI M) (ad 9 35) (7 * w1 + c1))]) (M' := mm M (up2 (mI M) (ad 10 0) 0 0) (mJ M)) (ps := [ob (mm M (up2 (mI M) (ad 10 0) 0 0) (mJ M)) (ad 10 0) 12, mR (mm M (up2 (mI M) (ad 10 0) 0 0) (mJ M)) (ad 10 0) 35 = some (ad 9 35), va_rf (some (ad 9 35)) = .ref (ad 9 35), ob (mm M (up2 (mI M) (ad 10 0) 0 0) (mJ M)) (ad 9 35) 15, vp_in ((7 * (nI w1)) + (nI c1)) (mN (mm M (up2 (mI M) (ad 10 0) 0 0) (mJ M)) (ad 9 35)), (Value.int ((up2 (mI M) (ad 10 0) 0 0) (ad 9 35) (((7 * (nI w1)) + (nI c1)).toNatClampNeg))) = .int ((mI M) (ad 9 35) (7 * w1 + c1))]) rfl ⟨hM.1, (hM.r 35 15 364), rfl, (hM.o 35 15 364), (vp_eq (eq_add (eq_mul (show (7 : Int32) = nI 7 from rfl) rfl) rfl) (vpi (hM.n 35 15 364) (by omega))), congrArg Value.int ((congrArg (fun z => (up2 (mI M) (ad 10 0) 0 0) (ad 9 35) z) (cl_of (eq_add (eq_mul (show (7 : Int32) = nI 7 from rfl) rfl) rfl) (by omega))).trans ((up2_n _ _ (fun z => absurd (hi _ _ _ _ z.1).1 (by decide))).trans (rfl))), trivial⟩ ?_
          refine go_iret rfl rfl ?_
          exact h2 _ ⟨hsc, ad, nc, nb, nt, wk, nw, nx, nl, ne, nk, kd, op, rfl, rfl, rfl, hW.thr⟩
        · exact absurd ⟨c1, hc1, rfl⟩ c10
      · exact absurd ⟨w1, (Nat.zero_le _), (Nat.le_of_lt_succ hw1), rfl⟩ c9
    refine ⟨fun (c11 : a3 = 3) => ?_, fun (c11n : ¬ (a3 = 3)) => ?_⟩
    · -- a3 = 3
      subst c11
      show Go (1311 - 1) 29 0 0 71 [.ref (ad 6 b1), .int 3] [] (mm M (mI M) (mJ M)) _
      refine go_blk 2 [some (.int ((mI M) (ad 9 36) (7 * w1 + c1)))] (pc' := 75) (vs' := [.ref (ad 6 b1), .int 3]) (st' := [.int ((mI M) (ad 9 36) (7 * w1 + c1))]) (M' := mm M (mI M) (mJ M)) (ps := [ob (mm M (mI M) (mJ M)) (ad 6 b1) 3, (Value.int ((mI M) (ad 6 b1) 4)) = .int ((mI M) (ad 9 36) (7 * w1 + c1))]) rfl ⟨((jR.1 b1 (by assumption)).1 (by assumption)).2.1, congrArg Value.int ((jO.1 b1 (by assumption) (by assumption) (7 * w1 + c1) (by assumption)).1.2.2.2.1), trivial⟩ ?_
      refine go_iret rfl rfl ?_
      refine ⟨ne_i, ?_⟩
      show Go 1311 138 0 0 23 [.ref (ad 0 0), .int (nI w1), .int (nI c1), .int 3, .ref (ad 6 b1)] [.int ((mI M) (ad 9 36) (7 * w1 + c1))] (mm M (mI M) (mJ M)) R
      refine go_iret rfl rfl ?_
      refine K _ _ hM.1 rfl (fun R2 h2 => ?_)
      show Go 1311 230 0 0 0 [.ref (ad 10 0), .int (nI w1), .int (nI c1), .int 3, .retAddr 0] [] (mm M (mI M) (mJ M)) R2
      refine go_blk 6 [] (pc' := 8) (vs' := [.ref (ad 10 0), .int (nI w1), .int (nI c1), .int 3, .retAddr 0]) (st' := [.int (nI c1), .int (nI w1), .ref (ad 10 0)]) (M' := mm M (up2 (mI M) (ad 10 0) 0 0) (mJ M)) (ps := [ob (mm M (mI M) (mJ M)) (ad 10 0) 12]) rfl ⟨hM.1, trivial⟩ ?_
      refine go_callV rfl rfl rfl (by omega) rfl (by decide) (by decide) hM.1 ?_
      show Go (1311 - 1) 228 0 0 0 [.ref (ad 10 0), .int (nI w1), .int (nI c1)] [] (mm M (up2 (mI M) (ad 10 0) 0 0) (mJ M)) _
      refine go_blk 3 [] (pc' := 4) (vs' := [.ref (ad 10 0), .int (nI w1), .int (nI c1)]) (st' := [.int 51, .int 0, .int (nI w1)]) (M' := mm M (up2 (mI M) (ad 10 0) 0 0) (mJ M)) (ps := []) rfl trivial ?_
      refine go_callS rfl (by decide) rfl rfl (by omega) rfl (by decide) (by decide) ?_
      refine s_Mo_isInK 0 51 (by decide) (by decide) (fun j12 hl12 hj12 hx12 => ⟨ne_i, ?_⟩) (fun c12 => ⟨ne_i, ?_⟩)
      · -- 1
        show Go (1311 - 1) 228 0 0 7 [.ref (ad 10 0), .int (nI w1), .int (nI c1)] [.int 1] (mm M (up2 (mI M) (ad 10 0) 0 0) (mJ M)) _
        refine go_if rfl (fun (z : (1 : Int32) = 0) => absurd z (show ¬ ((1 : Int32) = 0) from (by decide))) (fun _ => ?_)
        refine go_blk 2 [] (pc' := 12) (vs' := [.ref (ad 10 0), .int (nI w1), .int (nI c1)]) (st' := [.int (nI c1), .ref (ad 10 0)]) (M' := mm M (up2 (mI M) (ad 10 0) 0 0) (mJ M)) (ps := []) rfl trivial ?_
        refine go_callV rfl rfl rfl (by omega) rfl (by decide) (by decide) hM.1 ?_
        refine s_Mo_isCottage hM (((up2_n _ _ (fun z => absurd z.2 (by decide))).trans (rfl)).trans nc2) (Nat.le_trans nc3 (by decide)) (fun j13 hj13 hx13 => ⟨ne_i, ?_⟩) (fun c13 => ⟨ne_i, ?_⟩)
        · -- 1
          show Go (1311 - 1) 228 0 0 15 [.ref (ad 10 0), .int (nI w1), .int (nI c1)] [.int 1] (mm M (up2 (mI M) (ad 10 0) 0 0) (mJ M)) _
          refine go_if rfl (fun (z : (1 : Int32) = 0) => absurd z (show ¬ ((1 : Int32) = 0) from (by decide))) (fun _ => ?_)
          refine go_blk 8 [some (.ref (ad 9 32)), some (.int 1)] (pc' := 29) (vs' := [.ref (ad 10 0), .int (nI w1), .int (nI c1)]) (st' := [.int 1]) (M' := mm M (up2 (mI M) (ad 10 0) 0 0) (mJ M)) (ps := [ob (mm M (up2 (mI M) (ad 10 0) 0 0) (mJ M)) (ad 10 0) 12, mR (mm M (up2 (mI M) (ad 10 0) 0 0) (mJ M)) (ad 10 0) 32 = some (ad 9 32), va_rf (some (ad 9 32)) = .ref (ad 9 32), ob (mm M (up2 (mI M) (ad 10 0) 0 0) (mJ M)) (ad 9 32) 13, 13 = 13 ∨ 13 = 14, vp_in ((7 * (nI w1)) + (nI c1)) (mN (mm M (up2 (mI M) (ad 10 0) 0 0) (mJ M)) (ad 9 32)), (Value.int ((up2 (mI M) (ad 10 0) 0 0) (ad 9 32) (((7 * (nI w1)) + (nI c1)).toNatClampNeg))) = .int 1]) rfl ⟨hM.1, (hM.r 32 13 364), rfl, (hM.o 32 13 364), (by decide), (vp_eq (eq_add (eq_mul (show (7 : Int32) = nI 7 from rfl) rfl) rfl) (vpi (hM.n 32 13 364) (by omega))), congrArg Value.int ((congrArg (fun z => (up2 (mI M) (ad 10 0) 0 0) (ad 9 32) z) (cl_of (eq_add (eq_mul (show (7 : Int32) = nI 7 from rfl) rfl) rfl) (by omega))).trans (((up2_n _ _ (fun z => absurd (hi _ _ _ _ z.1).1 (by decide))).trans (rfl)).trans (jO.1 b1 (by assumption) (by assumption) (7 * w1 + c1) (by assumption)).2.1.2.2)), trivial⟩ ?_
          refine go_if rfl (fun (z : (1 : Int32) = 0) => absurd z (show ¬ ((1 : Int32) = 0) from (by decide))) (fun _ => ?_)
          refine go_blk 2 [] (pc' := 37) (vs' := [.ref (ad 10 0), .int (nI w1), .int (nI c1)]) (st' := [.int 1]) (M' := mm M (up2 (mI M) (ad 10 0) 0 0) (mJ M)) (ps := []) rfl trivial ?_
          refine go_zret rfl rfl (Or.inr rfl) ?_
          refine ⟨ne_i, ?_⟩
          show Go 1311 230 0 0 11 [.ref (ad 10 0), .int (nI w1), .int (nI c1), .int 3, .retAddr 0] [.int 1] (mm M (up2 (mI M) (ad 10 0) 0 0) (mJ M)) R2
          refine go_if rfl (fun _ => ?_) (fun (z : ¬ (¬ (1 : Int32) = 0)) => absurd (show ¬ (1 : Int32) = 0 from (by decide)) z)
          refine go_blk 7 [] (pc' := 25) (vs' := [.ref (ad 10 0), .int (nI w1), .int (nI c1), .int 3, .int ((7 * (nI w1)) + (nI c1))]) (st' := [.int 3]) (M' := mm M (up2 (mI M) (ad 10 0) 0 0) (mJ M)) (ps := []) rfl trivial ?_
          refine go_tsw rfl ?_
          refine ⟨fun (z : (3 : Int32) = 0) => absurd z (by decide), fun _ => ?_⟩
          refine ⟨fun (z : (3 : Int32) = 1) => absurd z (by decide), fun _ => ?_⟩
          refine ⟨fun (z : (3 : Int32) = 2) => absurd z (by decide), fun _ => ?_⟩
          refine ⟨fun _ => ?_, fun z => absurd rfl z⟩
          show Go 1311 230 0 0 104 [.ref (ad 10 0), .int (nI w1), .int (nI c1), .int 3, .int ((7 * (nI w1)) + (nI c1))] [] (mm M (up2 (mI M) (ad 10 0) 0 0) (mJ M)) R2
          refine go_blk 4 [some (.ref (ad 9 36)), some (.int ((mI M) (ad 9 36) (7 * w1 + c1)))] (pc' := 111) (vs' := [.ref (ad 10 0), .int (nI w1), .int (nI c1), .int 3, .int ((7 * (nI w1)) + (nI c1))]) (st' := [.int ((mI M) (ad 9 36) (7 * w1 + c1))]) (M' := mm M (up2 (mI M) (ad 10 0) 0 0) (mJ M)) (ps := [ob (mm M (up2 (mI M) (ad 10 0) 0 0) (mJ M)) (ad 10 0) 12, mR (mm M (up2 (mI M) (ad 10 0) 0 0) (mJ M)) (ad 10 0) 36 = some (ad 9 36), va_rf (some (ad 9 36)) = .ref (ad 9 36), ob (mm M (up2 (mI M) (ad 10 0) 0 0) (mJ M)) (ad 9 36) 15, vp_in ((7 * (nI w1)) + (nI c1)) (mN (mm M (up2 (mI M) (ad 10 0) 0 0) (mJ M)) (ad 9 36)), (Value.int ((up2 (mI M) (ad 10 0) 0 0) (ad 9 36) (((7 * (nI w1)) + (nI c1)).toNatClampNeg))) = .int ((mI M) (ad 9 36) (7 * w1 + c1))]) rfl ⟨hM.1, (hM.r 36 15 364), rfl, (hM.o 36 15 364), (vp_eq (eq_add (eq_mul (show (7 : Int32) = nI 7 from rfl) rfl) rfl) (vpi (hM.n 36 15 364) (by omega))), congrArg Value.int ((congrArg (fun z => (up2 (mI M) (ad 10 0) 0 0) (ad 9 36) z) (cl_of (eq_add (eq_mul (show (7 : Int32) = nI 7 from rfl) rfl) rfl) (by omega))).trans ((up2_n _ _ (fun z => absurd (hi _ _ _ _ z.1).1 (by decide))).trans (rfl))), trivial⟩ ?_
          refine go_iret rfl rfl ?_
          exact h2 _ ⟨hsc, ad, nc, nb, nt, wk, nw, nx, nl, ne, nk, kd, op, rfl, rfl, rfl, hW.thr⟩
        · exact absurd ⟨c1, hc1, rfl⟩ c13
      · exact absurd ⟨w1, (Nat.zero_le _), (Nat.le_of_lt_succ hw1), rfl⟩ c12
    refine ⟨fun (c14 : a3 = 4) => ?_, fun (c14n : ¬ (a3 = 4)) => ?_⟩
    · -- a3 = 4
      subst c14
      show Go (1311 - 1) 29 0 0 76 [.ref (ad 6 b1), .int 4] [] (mm M (mI M) (mJ M)) _
      refine go_blk 2 [some (.int ((mI M) (ad 9 37) (7 * w1 + c1)))] (pc' := 80) (vs' := [.ref (ad 6 b1), .int 4]) (st' := [.int ((mI M) (ad 9 37) (7 * w1 + c1))]) (M' := mm M (mI M) (mJ M)) (ps := [ob (mm M (mI M) (mJ M)) (ad 6 b1) 3, (Value.int ((mI M) (ad 6 b1) 7)) = .int ((mI M) (ad 9 37) (7 * w1 + c1))]) rfl ⟨((jR.1 b1 (by assumption)).1 (by assumption)).2.1, congrArg Value.int ((jO.1 b1 (by assumption) (by assumption) (7 * w1 + c1) (by assumption)).1.2.2.2.2.2.2.1), trivial⟩ ?_
      refine go_iret rfl rfl ?_
      refine ⟨ne_i, ?_⟩
      show Go 1311 138 0 0 23 [.ref (ad 0 0), .int (nI w1), .int (nI c1), .int 4, .ref (ad 6 b1)] [.int ((mI M) (ad 9 37) (7 * w1 + c1))] (mm M (mI M) (mJ M)) R
      refine go_iret rfl rfl ?_
      refine K _ _ hM.1 rfl (fun R2 h2 => ?_)
      show Go 1311 230 0 0 0 [.ref (ad 10 0), .int (nI w1), .int (nI c1), .int 4, .retAddr 0] [] (mm M (mI M) (mJ M)) R2
      refine go_blk 6 [] (pc' := 8) (vs' := [.ref (ad 10 0), .int (nI w1), .int (nI c1), .int 4, .retAddr 0]) (st' := [.int (nI c1), .int (nI w1), .ref (ad 10 0)]) (M' := mm M (up2 (mI M) (ad 10 0) 0 0) (mJ M)) (ps := [ob (mm M (mI M) (mJ M)) (ad 10 0) 12]) rfl ⟨hM.1, trivial⟩ ?_
      refine go_callV rfl rfl rfl (by omega) rfl (by decide) (by decide) hM.1 ?_
      show Go (1311 - 1) 228 0 0 0 [.ref (ad 10 0), .int (nI w1), .int (nI c1)] [] (mm M (up2 (mI M) (ad 10 0) 0 0) (mJ M)) _
      refine go_blk 3 [] (pc' := 4) (vs' := [.ref (ad 10 0), .int (nI w1), .int (nI c1)]) (st' := [.int 51, .int 0, .int (nI w1)]) (M' := mm M (up2 (mI M) (ad 10 0) 0 0) (mJ M)) (ps := []) rfl trivial ?_
      refine go_callS rfl (by decide) rfl rfl (by omega) rfl (by decide) (by decide) ?_
      refine s_Mo_isInK 0 51 (by decide) (by decide) (fun j15 hl15 hj15 hx15 => ⟨ne_i, ?_⟩) (fun c15 => ⟨ne_i, ?_⟩)
      · -- 1
        show Go (1311 - 1) 228 0 0 7 [.ref (ad 10 0), .int (nI w1), .int (nI c1)] [.int 1] (mm M (up2 (mI M) (ad 10 0) 0 0) (mJ M)) _
        refine go_if rfl (fun (z : (1 : Int32) = 0) => absurd z (show ¬ ((1 : Int32) = 0) from (by decide))) (fun _ => ?_)
        refine go_blk 2 [] (pc' := 12) (vs' := [.ref (ad 10 0), .int (nI w1), .int (nI c1)]) (st' := [.int (nI c1), .ref (ad 10 0)]) (M' := mm M (up2 (mI M) (ad 10 0) 0 0) (mJ M)) (ps := []) rfl trivial ?_
        refine go_callV rfl rfl rfl (by omega) rfl (by decide) (by decide) hM.1 ?_
        refine s_Mo_isCottage hM (((up2_n _ _ (fun z => absurd z.2 (by decide))).trans (rfl)).trans nc2) (Nat.le_trans nc3 (by decide)) (fun j16 hj16 hx16 => ⟨ne_i, ?_⟩) (fun c16 => ⟨ne_i, ?_⟩)
        · -- 1
          show Go (1311 - 1) 228 0 0 15 [.ref (ad 10 0), .int (nI w1), .int (nI c1)] [.int 1] (mm M (up2 (mI M) (ad 10 0) 0 0) (mJ M)) _
          refine go_if rfl (fun (z : (1 : Int32) = 0) => absurd z (show ¬ ((1 : Int32) = 0) from (by decide))) (fun _ => ?_)
          refine go_blk 8 [some (.ref (ad 9 32)), some (.int 1)] (pc' := 29) (vs' := [.ref (ad 10 0), .int (nI w1), .int (nI c1)]) (st' := [.int 1]) (M' := mm M (up2 (mI M) (ad 10 0) 0 0) (mJ M)) (ps := [ob (mm M (up2 (mI M) (ad 10 0) 0 0) (mJ M)) (ad 10 0) 12, mR (mm M (up2 (mI M) (ad 10 0) 0 0) (mJ M)) (ad 10 0) 32 = some (ad 9 32), va_rf (some (ad 9 32)) = .ref (ad 9 32), ob (mm M (up2 (mI M) (ad 10 0) 0 0) (mJ M)) (ad 9 32) 13, 13 = 13 ∨ 13 = 14, vp_in ((7 * (nI w1)) + (nI c1)) (mN (mm M (up2 (mI M) (ad 10 0) 0 0) (mJ M)) (ad 9 32)), (Value.int ((up2 (mI M) (ad 10 0) 0 0) (ad 9 32) (((7 * (nI w1)) + (nI c1)).toNatClampNeg))) = .int 1]) rfl ⟨hM.1, (hM.r 32 13 364), rfl, (hM.o 32 13 364), (by decide), (vp_eq (eq_add (eq_mul (show (7 : Int32) = nI 7 from rfl) rfl) rfl) (vpi (hM.n 32 13 364) (by omega))), congrArg Value.int ((congrArg (fun z => (up2 (mI M) (ad 10 0) 0 0) (ad 9 32) z) (cl_of (eq_add (eq_mul (show (7 : Int32) = nI 7 from rfl) rfl) rfl) (by omega))).trans (((up2_n _ _ (fun z => absurd (hi _ _ _ _ z.1).1 (by decide))).trans (rfl)).trans (jO.1 b1 (by assumption) (by assumption) (7 * w1 + c1) (by assumption)).2.1.2.2)), trivial⟩ ?_
          refine go_if rfl (fun (z : (1 : Int32) = 0) => absurd z (show ¬ ((1 : Int32) = 0) from (by decide))) (fun _ => ?_)
          refine go_blk 2 [] (pc' := 37) (vs' := [.ref (ad 10 0), .int (nI w1), .int (nI c1)]) (st' := [.int 1]) (M' := mm M (up2 (mI M) (ad 10 0) 0 0) (mJ M)) (ps := []) rfl trivial ?_
          refine go_zret rfl rfl (Or.inr rfl) ?_
          refine ⟨ne_i, ?_⟩
          show Go 1311 230 0 0 11 [.ref (ad 10 0), .int (nI w1), .int (nI c1), .int 4, .retAddr 0] [.int 1] (mm M (up2 (mI M) (ad 10 0) 0 0) (mJ M)) R2
          refine go_if rfl (fun _ => ?_) (fun (z : ¬ (¬ (1 : Int32) = 0)) => absurd (show ¬ (1 : Int32) = 0 from (by decide)) z)
          refine go_blk 7 [] (pc' := 25) (vs' := [.ref (ad 10 0), .int (nI w1), .int (nI c1), .int 4, .int ((7 * (nI w1)) + (nI c1))]) (st' := [.int 4]) (M' := mm M (up2 (mI M) (ad 10 0) 0 0) (mJ M)) (ps := []) rfl trivial ?_
          refine go_tsw rfl ?_
          refine ⟨fun (z : (4 : Int32) = 0) => absurd z (by decide), fun _ => ?_⟩
          refine ⟨fun (z : (4 : Int32) = 1) => absurd z (by decide), fun _ => ?_⟩
          refine ⟨fun (z : (4 : Int32) = 2) => absurd z (by decide), fun _ => ?_⟩
          refine ⟨fun (z : (4 : Int32) = 3) => absurd z (by decide), fun _ => ?_⟩
          refine ⟨fun _ => ?_, fun z => absurd rfl z⟩
          show Go 1311 230 0 0 112 [.ref (ad 10 0), .int (nI w1), .int (nI c1), .int 4, .int ((7 * (nI w1)) + (nI c1))] [] (mm M (up2 (mI M) (ad 10 0) 0 0) (mJ M)) R2
          refine go_blk 4 [some (.ref (ad 9 37)), some (.int ((mI M) (ad 9 37) (7 * w1 + c1)))] (pc' := 119) (vs' := [.ref (ad 10 0), .int (nI w1), .int (nI c1), .int 4, .int ((7 * (nI w1)) + (nI c1))]) (st' := [.int ((mI M) (ad 9 37) (7 * w1 + c1))]) (M' := mm M (up2 (mI M) (ad 10 0) 0 0) (mJ M)) (ps := [ob (mm M (up2 (mI M) (ad 10 0) 0 0) (mJ M)) (ad 10 0) 12, mR (mm M (up2 (mI M) (ad 10 0) 0 0) (mJ M)) (ad 10 0) 37 = some (ad 9 37), va_rf (some (ad 9 37)) = .ref (ad 9 37), ob (mm M (up2 (mI M) (ad 10 0) 0 0) (mJ M)) (ad 9 37) 15, vp_in ((7 * (nI w1)) + (nI c1)) (mN (mm M (up2 (mI M) (ad 10 0) 0 0) (mJ M)) (ad 9 37)), (Value.int ((up2 (mI M) (ad 10 0) 0 0) (ad 9 37) (((7 * (nI w1)) + (nI c1)).toNatClampNeg))) = .int ((mI M) (ad 9 37) (7 * w1 + c1))]) rfl ⟨hM.1, (hM.r 37 15 364), rfl, (hM.o 37 15 364), (vp_eq (eq_add (eq_mul (show (7 : Int32) = nI 7 from rfl) rfl) rfl) (vpi (hM.n 37 15 364) (by omega))), congrArg Value.int ((congrArg (fun z => (up2 (mI M) (ad 10 0) 0 0) (ad 9 37) z) (cl_of (eq_add (eq_mul (show (7 : Int32) = nI 7 from rfl) rfl) rfl) (by omega))).trans ((up2_n _ _ (fun z => absurd (hi _ _ _ _ z.1).1 (by decide))).trans (rfl))), trivial⟩ ?_
          refine go_iret rfl rfl ?_
          exact h2 _ ⟨hsc, ad, nc, nb, nt, wk, nw, nx, nl, ne, nk, kd, op, rfl, rfl, rfl, hW.thr⟩
        · exact absurd ⟨c1, hc1, rfl⟩ c16
      · exact absurd ⟨w1, (Nat.zero_le _), (Nat.le_of_lt_succ hw1), rfl⟩ c15
    refine ⟨fun (c17 : a3 = 5) => ?_, fun (c17n : ¬ (a3 = 5)) => ?_⟩
    · -- a3 = 5
      subst c17
      show Go (1311 - 1) 29 0 0 81 [.ref (ad 6 b1), .int 5] [] (mm M (mI M) (mJ M)) _
      refine go_blk 2 [some (.int ((mI M) (ad 9 38) (7 * w1 + c1)))] (pc' := 85) (vs' := [.ref (ad 6 b1), .int 5]) (st' := [.int ((mI M) (ad 9 38) (7 * w1 + c1))]) (M' := mm M (mI M) (mJ M)) (ps := [ob (mm M (mI M) (mJ M)) (ad 6 b1) 3, (Value.int ((mI M) (ad 6 b1) 8)) = .int ((mI M) (ad 9 38) (7 * w1 + c1))]) rfl ⟨((jR.1 b1 (by assumption)).1 (by assumption)).2.1, congrArg Value.int ((jO.1 b1 (by assumption) (by assumption) (7 * w1 + c1) (by assumption)).1.2.2.2.2.2.2.2.1), trivial⟩ ?_
      refine go_iret rfl rfl ?_
      refine ⟨ne_i, ?_⟩
      show Go 1311 138 0 0 23 [.ref (ad 0 0), .int (nI w1), .int (nI c1), .int 5, .ref (ad 6 b1)] [.int ((mI M) (ad 9 38) (7 * w1 + c1))] (mm M (mI M) (mJ M)) R
      refine go_iret rfl rfl ?_
      refine K _ _ hM.1 rfl (fun R2 h2 => ?_)
      show Go 1311 230 0 0 0 [.ref (ad 10 0), .int (nI w1), .int (nI c1), .int 5, .retAddr 0] [] (mm M (mI M) (mJ M)) R2
      refine go_blk 6 [] (pc' := 8) (vs' := [.ref (ad 10 0), .int (nI w1), .int (nI c1), .int 5, .retAddr 0]) (st' := [.int (nI c1), .int (nI w1), .ref (ad 10 0)]) (M' := mm M (up2 (mI M) (ad 10 0) 0 0) (mJ M)) (ps := [ob (mm M (mI M) (mJ M)) (ad 10 0) 12]) rfl ⟨hM.1, trivial⟩ ?_
      refine go_callV rfl rfl rfl (by omega) rfl (by decide) (by decide) hM.1 ?_
      show Go (1311 - 1) 228 0 0 0 [.ref (ad 10 0), .int (nI w1), .int (nI c1)] [] (mm M (up2 (mI M) (ad 10 0) 0 0) (mJ M)) _
      refine go_blk 3 [] (pc' := 4) (vs' := [.ref (ad 10 0), .int (nI w1), .int (nI c1)]) (st' := [.int 51, .int 0, .int (nI w1)]) (M' := mm M (up2 (mI M) (ad 10 0) 0 0) (mJ M)) (ps := []) rfl trivial ?_
      refine go_callS rfl (by decide) rfl rfl (by omega) rfl (by decide) (by decide) ?_
      refine s_Mo_isInK 0 51 (by decide) (by decide) (fun j18 hl18 hj18 hx18 => ⟨ne_i, ?_⟩) (fun c18 => ⟨ne_i, ?_⟩)
      · -- 1
        show Go (1311 - 1) 228 0 0 7 [.ref (ad 10 0), .int (nI w1), .int (nI c1)] [.int 1] (mm M (up2 (mI M) (ad 10 0) 0 0) (mJ M)) _
        refine go_if rfl (fun (z : (1 : Int32) = 0) => absurd z (show ¬ ((1 : Int32) = 0) from (by decide))) (fun _ => ?_)
        refine go_blk 2 [] (pc' := 12) (vs' := [.ref (ad 10 0), .int (nI w1), .int (nI c1)]) (st' := [.int (nI c1), .ref (ad 10 0)]) (M' := mm M (up2 (mI M) (ad 10 0) 0 0) (mJ M)) (ps := []) rfl trivial ?_
        refine go_callV rfl rfl rfl (by omega) rfl (by decide) (by decide) hM.1 ?_
        refine s_Mo_isCottage hM (((up2_n _ _ (fun z => absurd z.2 (by decide))).trans (rfl)).trans nc2) (Nat.le_trans nc3 (by decide)) (fun j19 hj19 hx19 => ⟨ne_i, ?_⟩) (fun c19 => ⟨ne_i, ?_⟩)
        · -- 1
          show Go (1311 - 1) 228 0 0 15 [.ref (ad 10 0), .int (nI w1), .int (nI c1)] [.int 1] (mm M (up2 (mI M) (ad 10 0) 0 0) (mJ M)) _
          refine go_if rfl (fun (z : (1 : Int32) = 0) => absurd z (show ¬ ((1 : Int32) = 0) from (by decide))) (fun _ => ?_)
          refine go_blk 8 [some (.ref (ad 9 32)), some (.int 1)] (pc' := 29) (vs' := [.ref (ad 10 0), .int (nI w1), .int (nI c1)]) (st' := [.int 1]) (M' := mm M (up2 (mI M) (ad 10 0) 0 0) (mJ M)) (ps := [ob (mm M (up2 (mI M) (ad 10 0) 0 0) (mJ M)) (ad 10 0) 12, mR (mm M (up2 (mI M) (ad 10 0) 0 0) (mJ M)) (ad 10 0) 32 = some (ad 9 32), va_rf (some (ad 9 32)) = .ref (ad 9 32), ob (mm M (up2 (mI M) (ad 10 0) 0 0) (mJ M)) (ad 9 32) 13, 13 = 13 ∨ 13 = 14, vp_in ((7 * (nI w1)) + (nI c1)) (mN (mm M (up2 (mI M) (ad 10 0) 0 0) (mJ M)) (ad 9 32)), (Value.int ((up2 (mI M) (ad 10 0) 0 0) (ad 9 32) (((7 * (nI w1)) + (nI c1)).toNatClampNeg))) = .int 1]) rfl ⟨hM.1, (hM.r 32 13 364), rfl, (hM.o 32 13 364), (by decide), (vp_eq (eq_add (eq_mul (show (7 : Int32) = nI 7 from rfl) rfl) rfl) (vpi (hM.n 32 13 364) (by omega))), congrArg Value.int ((congrArg (fun z => (up2 (mI M) (ad 10 0) 0 0) (ad 9 32) z) (cl_of (eq_add (eq_mul (show (7 : Int32) = nI 7 from rfl) rfl) rfl) (by omega))).trans (((up2_n _ _ (fun z => absurd (hi _ _ _ _ z.1).1 (by decide))).trans (rfl)).trans (jO.1 b1 (by assumption) (by assumption) (7 * w1 + c1) (by assumption)).2.1.2.2)), trivial⟩ ?_
          refine go_if rfl (fun (z : (1 : Int32) = 0) => absurd z (show ¬ ((1 : Int32) = 0) from (by decide))) (fun _ => ?_)
          refine go_blk 2 [] (pc' := 37) (vs' := [.ref (ad 10 0), .int (nI w1), .int (nI c1)]) (st' := [.int 1]) (M' := mm M (up2 (mI M) (ad 10 0) 0 0) (mJ M)) (ps := []) rfl trivial ?_
          refine go_zret rfl rfl (Or.inr rfl) ?_
          refine ⟨ne_i, ?_⟩
          show Go 1311 230 0 0 11 [.ref (ad 10 0), .int (nI w1), .int (nI c1), .int 5, .retAddr 0] [.int 1] (mm M (up2 (mI M) (ad 10 0) 0 0) (mJ M)) R2
          refine go_if rfl (fun _ => ?_) (fun (z : ¬ (¬ (1 : Int32) = 0)) => absurd (show ¬ (1 : Int32) = 0 from (by decide)) z)
          refine go_blk 7 [] (pc' := 25) (vs' := [.ref (ad 10 0), .int (nI w1), .int (nI c1), .int 5, .int ((7 * (nI w1)) + (nI c1))]) (st' := [.int 5]) (M' := mm M (up2 (mI M) (ad 10 0) 0 0) (mJ M)) (ps := []) rfl trivial ?_
          refine go_tsw rfl ?_
          refine ⟨fun (z : (5 : Int32) = 0) => absurd z (by decide), fun _ => ?_⟩
          refine ⟨fun (z : (5 : Int32) = 1) => absurd z (by decide), fun _ => ?_⟩
          refine ⟨fun (z : (5 : Int32) = 2) => absurd z (by decide), fun _ => ?_⟩
          refine ⟨fun (z : (5 : Int32) = 3) => absurd z (by decide), fun _ => ?_⟩
          refine ⟨fun (z : (5 : Int32) = 4) => absurd z (by decide), fun _ => ?_⟩
          refine ⟨fun _ => ?_, fun z => absurd rfl z⟩
          show Go 1311 230 0 0 120 [.ref (ad 10 0), .int (nI w1), .int (nI c1), .int 5, .int ((7 * (nI w1)) + (nI c1))] [] (mm M (up2 (mI M) (ad 10 0) 0 0) (mJ M)) R2
          refine go_blk 4 [some (.ref (ad 9 38)), some (.int ((mI M) (ad 9 38) (7 * w1 + c1)))] (pc' := 127) (vs' := [.ref (ad 10 0), .int (nI w1), .int (nI c1), .int 5, .int ((7 * (nI w1)) + (nI c1))]) (st' := [.int ((mI M) (ad 9 38) (7 * w1 + c1))]) (M' := mm M (up2 (mI M) (ad 10 0) 0 0) (mJ M)) (ps := [ob (mm M (up2 (mI M) (ad 10 0) 0 0) (mJ M)) (ad 10 0) 12, mR (mm M (up2 (mI M) (ad 10 0) 0 0) (mJ M)) (ad 10 0) 38 = some (ad 9 38), va_rf (some (ad 9 38)) = .ref (ad 9 38), ob (mm M (up2 (mI M) (ad 10 0) 0 0) (mJ M)) (ad 9 38) 15, vp_in ((7 * (nI w1)) + (nI c1)) (mN (mm M (up2 (mI M) (ad 10 0) 0 0) (mJ M)) (ad 9 38)), (Value.int ((up2 (mI M) (ad 10 0) 0 0) (ad 9 38) (((7 * (nI w1)) + (nI c1)).toNatClampNeg))) = .int ((mI M) (ad 9 38) (7 * w1 + c1))]) rfl ⟨hM.1, (hM.r 38 15 364), rfl, (hM.o 38 15 364), (vp_eq (eq_add (eq_mul (show (7 : Int32) = nI 7 from rfl) rfl) rfl) (vpi (hM.n 38 15 364) (by omega))), congrArg Value.int ((congrArg (fun z => (up2 (mI M) (ad 10 0) 0 0) (ad 9 38) z) (cl_of (eq_add (eq_mul (show (7 : Int32) = nI 7 from rfl) rfl) rfl) (by omega))).trans ((up2_n _ _ (fun z => absurd (hi _ _ _ _ z.1).1 (by decide))).trans (rfl))), trivial⟩ ?_
          refine go_iret rfl rfl ?_
          exact h2 _ ⟨hsc, ad, nc, nb, nt, wk, nw, nx, nl, ne, nk, kd, op, rfl, rfl, rfl, hW.thr⟩
        · exact absurd ⟨c1, hc1, rfl⟩ c19
      · exact absurd ⟨w1, (Nat.zero_le _), (Nat.le_of_lt_succ hw1), rfl⟩ c18
    refine ⟨fun (c20 : a3 = 6) => ?_, fun (c20n : ¬ (a3 = 6)) => ?_⟩
    · -- a3 = 6
      subst c20
      show Go (1311 - 1) 29 0 0 86 [.ref (ad 6 b1), .int 6] [] (mm M (mI M) (mJ M)) _
      refine go_blk 1 [] (pc' := 87) (vs' := [.ref (ad 6 b1), .int 6]) (st' := [.ref (ad 6 b1)]) (M' := mm M (mI M) (mJ M)) (ps := []) rfl trivial ?_
      refine go_callV rfl rfl rfl (by omega) rfl (by decide) (by decide) ((jR.1 b1 (by assumption)).1 (by assumption)).2.1 ?_
      show Go ((1311 - 1) - 1) 28 0 0 0 [.ref (ad 6 b1)] [] (mm M (mI M) (mJ M)) _
      refine go_blk 1 [] (pc' := 1) (vs' := [.ref (ad 6 b1)]) (st' := [.ref (ad 6 b1)]) (M' := mm M (mI M) (mJ M)) (ps := []) rfl trivial ?_
      refine go_callV rfl rfl rfl (by omega) rfl (by decide) (by decide) ((jR.1 b1 (by assumption)).1 (by assumption)).2.1 ?_
      show Go (((1311 - 1) - 1) - 1) 27 0 0 0 [.ref (ad 6 b1)] [] (mm M (mI M) (mJ M)) _
      refine go_blk 3 [some (.int ((mI M) (ad 9 38) (7 * w1 + c1)))] (pc' := 5) (vs' := [.ref (ad 6 b1)]) (st' := [.int (-1), .int ((mI M) (ad 9 38) (7 * w1 + c1))]) (M' := mm M (mI M) (mJ M)) (ps := [ob (mm M (mI M) (mJ M)) (ad 6 b1) 3, (Value.int ((mI M) (ad 6 b1) 8)) = .int ((mI M) (ad 9 38) (7 * w1 + c1))]) rfl ⟨((jR.1 b1 (by assumption)).1 (by assumption)).2.1, congrArg Value.int ((jO.1 b1 (by assumption) (by assumption) (7 * w1 + c1) (by assumption)).1.2.2.2.2.2.2.2.1), trivial⟩ ?_
      refine go_icmp rfl (fun (c21 : ((mI M) (ad 9 38) (7 * w1 + c1)) = (-1)) => ?_) (fun (c21 : ¬ (((mI M) (ad 9 38) (7 * w1 + c1)) = (-1))) => ?_)
      · -- ((mI M) (ad 9 38) (7 * w1 + c1)) = (-1)
        refine go_blk 1 [] (pc' := 13) (vs' := [.ref (ad 6 b1)]) (st' := [.int 0]) (M' := mm M (mI M) (mJ M)) (ps := []) rfl trivial ?_
        refine go_zret rfl rfl (Or.inl rfl) ?_
        refine ⟨ne_i, ?_⟩
        show Go ((1311 - 1) - 1) 28 0 0 4 [.ref (ad 6 b1)] [.int 0] (mm M (mI M) (mJ M)) _
        refine go_if rfl (fun _ => ?_) (fun (z : ¬ ((0 : Int32) = 0)) => absurd (show (0 : Int32) = 0 from (by decide)) z)
        refine go_blk 1 [] (pc' := 24) (vs' := [.ref (ad 6 b1)]) (st' := [.int (-1)]) (M' := mm M (mI M) (mJ M)) (ps := []) rfl trivial ?_
        refine go_iret rfl rfl ?_
        refine ⟨ne_i, ?_⟩
        show Go (1311 - 1) 29 0 0 90 [.ref (ad 6 b1), .int 6] [.int (-1)] (mm M (mI M) (mJ M)) _
        refine go_iret rfl rfl ?_
        refine ⟨ne_i, ?_⟩
        show Go 1311 138 0 0 23 [.ref (ad 0 0), .int (nI w1), .int (nI c1), .int 6, .ref (ad 6 b1)] [.int (-1)] (mm M (mI M) (mJ M)) R
        refine go_iret rfl rfl ?_
        refine K _ _ hM.1 rfl (fun R2 h2 => ?_)
        show Go 1311 230 0 0 0 [.ref (ad 10 0), .int (nI w1), .int (nI c1), .int 6, .retAddr 0] [] (mm M (mI M) (mJ M)) R2
        refine go_blk 6 [] (pc' := 8) (vs' := [.ref (ad 10 0), .int (nI w1), .int (nI c1), .int 6, .retAddr 0]) (st' := [.int (nI c1), .int (nI w1), .ref (ad 10 0)]) (M' := mm M (up2 (mI M) (ad 10 0) 0 0) (mJ M)) (ps := [ob (mm M (mI M) (mJ M)) (ad 10 0) 12]) rfl ⟨hM.1, trivial⟩ ?_
        refine go_callV rfl rfl rfl (by omega) rfl (by decide) (by decide) hM.1 ?_
        show Go (1311 - 1) 228 0 0 0 [.ref (ad 10 0), .int (nI w1), .int (nI c1)] [] (mm M (up2 (mI M) (ad 10 0) 0 0) (mJ M)) _
        refine go_blk 3 [] (pc' := 4) (vs' := [.ref (ad 10 0), .int (nI w1), .int (nI c1)]) (st' := [.int 51, .int 0, .int (nI w1)]) (M' := mm M (up2 (mI M) (ad 10 0) 0 0) (mJ M)) (ps := []) rfl trivial ?_
        refine go_callS rfl (by decide) rfl rfl (by omega) rfl (by decide) (by decide) ?_
        refine s_Mo_isInK 0 51 (by decide) (by decide) (fun j22 hl22 hj22 hx22 => ⟨ne_i, ?_⟩) (fun c22 => ⟨ne_i, ?_⟩)
        · -- 1
          show Go (1311 - 1) 228 0 0 7 [.ref (ad 10 0), .int (nI w1), .int (nI c1)] [.int 1] (mm M (up2 (mI M) (ad 10 0) 0 0) (mJ M)) _
          refine go_if rfl (fun (z : (1 : Int32) = 0) => absurd z (show ¬ ((1 : Int32) = 0) from (by decide))) (fun _ => ?_)
          refine go_blk 2 [] (pc' := 12) (vs' := [.ref (ad 10 0), .int (nI w1), .int (nI c1)]) (st' := [.int (nI c1), .ref (ad 10 0)]) (M' := mm M (up2 (mI M) (ad 10 0) 0 0) (mJ M)) (ps := []) rfl trivial ?_
          refine go_callV rfl rfl rfl (by omega) rfl (by decide) (by decide) hM.1 ?_
          refine s_Mo_isCottage hM (((up2_n _ _ (fun z => absurd z.2 (by decide))).trans (rfl)).trans nc2) (Nat.le_trans nc3 (by decide)) (fun j23 hj23 hx23 => ⟨ne_i, ?_⟩) (fun c23 => ⟨ne_i, ?_⟩)
          · -- 1
            show Go (1311 - 1) 228 0 0 15 [.ref (ad 10 0), .int (nI w1), .int (nI c1)] [.int 1] (mm M (up2 (mI M) (ad 10 0) 0 0) (mJ M)) _
            refine go_if rfl (fun (z : (1 : Int32) = 0) => absurd z (show ¬ ((1 : Int32) = 0) from (by decide))) (fun _ => ?_)
            refine go_blk 8 [some (.ref (ad 9 32)), some (.int 1)] (pc' := 29) (vs' := [.ref (ad 10 0), .int (nI w1), .int (nI c1)]) (st' := [.int 1]) (M' := mm M (up2 (mI M) (ad 10 0) 0 0) (mJ M)) (ps := [ob (mm M (up2 (mI M) (ad 10 0) 0 0) (mJ M)) (ad 10 0) 12, mR (mm M (up2 (mI M) (ad 10 0) 0 0) (mJ M)) (ad 10 0) 32 = some (ad 9 32), va_rf (some (ad 9 32)) = .ref (ad 9 32), ob (mm M (up2 (mI M) (ad 10 0) 0 0) (mJ M)) (ad 9 32) 13, 13 = 13 ∨ 13 = 14, vp_in ((7 * (nI w1)) + (nI c1)) (mN (mm M (up2 (mI M) (ad 10 0) 0 0) (mJ M)) (ad 9 32)), (Value.int ((up2 (mI M) (ad 10 0) 0 0) (ad 9 32) (((7 * (nI w1)) + (nI c1)).toNatClampNeg))) = .int 1]) rfl ⟨hM.1, (hM.r 32 13 364), rfl, (hM.o 32 13 364), (by decide), (vp_eq (eq_add (eq_mul (show (7 : Int32) = nI 7 from rfl) rfl) rfl) (vpi (hM.n 32 13 364) (by omega))), congrArg Value.int ((congrArg (fun z => (up2 (mI M) (ad 10 0) 0 0) (ad 9 32) z) (cl_of (eq_add (eq_mul (show (7 : Int32) = nI 7 from rfl) rfl) rfl) (by omega))).trans (((up2_n _ _ (fun z => absurd (hi _ _ _ _ z.1).1 (by decide))).trans (rfl)).trans (jO.1 b1 (by assumption) (by assumption) (7 * w1 + c1) (by assumption)).2.1.2.2)), trivial⟩ ?_
            refine go_if rfl (fun (z : (1 : Int32) = 0) => absurd z (show ¬ ((1 : Int32) = 0) from (by decide))) (fun _ => ?_)
            refine go_blk 2 [] (pc' := 37) (vs' := [.ref (ad 10 0), .int (nI w1), .int (nI c1)]) (st' := [.int 1]) (M' := mm M (up2 (mI M) (ad 10 0) 0 0) (mJ M)) (ps := []) rfl trivial ?_
            refine go_zret rfl rfl (Or.inr rfl) ?_
            refine ⟨ne_i, ?_⟩
            show Go 1311 230 0 0 11 [.ref (ad 10 0), .int (nI w1), .int (nI c1), .int 6, .retAddr 0] [.int 1] (mm M (up2 (mI M) (ad 10 0) 0 0) (mJ M)) R2
            refine go_if rfl (fun _ => ?_) (fun (z : ¬ (¬ (1 : Int32) = 0)) => absurd (show ¬ (1 : Int32) = 0 from (by decide)) z)
            refine go_blk 7 [] (pc' := 25) (vs' := [.ref (ad 10 0), .int (nI w1), .int (nI c1), .int 6, .int ((7 * (nI w1)) + (nI c1))]) (st' := [.int 6]) (M' := mm M (up2 (mI M) (ad 10 0) 0 0) (mJ M)) (ps := []) rfl trivial ?_
            refine go_tsw rfl ?_
            refine ⟨fun (z : (6 : Int32) = 0) => absurd z (by decide), fun _ => ?_⟩
            refine ⟨fun (z : (6 : Int32) = 1) => absurd z (by decide), fun _ => ?_⟩
            refine ⟨fun (z : (6 : Int32) = 2) => absurd z (by decide), fun _ => ?_⟩
            refine ⟨fun (z : (6 : Int32) = 3) => absurd z (by decide), fun _ => ?_⟩
            refine ⟨fun (z : (6 : Int32) = 4) => absurd z (by decide), fun _ => ?_⟩
            refine ⟨fun (z : (6 : Int32) = 5) => absurd z (by decide), fun _ => ?_⟩
            refine ⟨fun _ => ?_, fun z => absurd rfl z⟩
            show Go 1311 230 0 0 128 [.ref (ad 10 0), .int (nI w1), .int (nI c1), .int 6, .int ((7 * (nI w1)) + (nI c1))] [] (mm M (up2 (mI M) (ad 10 0) 0 0) (mJ M)) R2
            refine go_blk 2 [] (pc' := 131) (vs' := [.ref (ad 10 0), .int (nI w1), .int (nI c1), .int 6, .int ((7 * (nI w1)) + (nI c1))]) (st' := [.int ((7 * (nI w1)) + (nI c1)), .ref (ad 10 0)]) (M' := mm M (up2 (mI M) (ad 10 0) 0 0) (mJ M)) (ps := []) rfl trivial ?_
            refine go_callV rfl rfl rfl (by omega) rfl (by decide) (by decide) hM.1 ?_
            show Go (1311 - 1) 229 0 0 0 [.ref (ad 10 0), .int ((7 * (nI w1)) + (nI c1))] [] (mm M (up2 (mI M) (ad 10 0) 0 0) (mJ M)) _
            refine go_blk 5 [some (.ref (ad 9 38)), some (.int ((mI M) (ad 9 38) (7 * w1 + c1)))] (pc' := 7) (vs' := [.ref (ad 10 0), .int ((7 * (nI w1)) + (nI c1))]) (st' := [.int (-1), .int ((mI M) (ad 9 38) (7 * w1 + c1))]) (M' := mm M (up2 (mI M) (ad 10 0) 0 0) (mJ M)) (ps := [ob (mm M (up2 (mI M) (ad 10 0) 0 0) (mJ M)) (ad 10 0) 12, mR (mm M (up2 (mI M) (ad 10 0) 0 0) (mJ M)) (ad 10 0) 38 = some (ad 9 38), va_rf (some (ad 9 38)) = .ref (ad 9 38), ob (mm M (up2 (mI M) (ad 10 0) 0 0) (mJ M)) (ad 9 38) 15, vp_in ((7 * (nI w1)) + (nI c1)) (mN (mm M (up2 (mI M) (ad 10 0) 0 0) (mJ M)) (ad 9 38)), (Value.int ((up2 (mI M) (ad 10 0) 0 0) (ad 9 38) (((7 * (nI w1)) + (nI c1)).toNatClampNeg))) = .int ((mI M) (ad 9 38) (7 * w1 + c1))]) rfl ⟨hM.1, (hM.r 38 15 364), rfl, (hM.o 38 15 364), (vp_eq (eq_add (eq_mul (show (7 : Int32) = nI 7 from rfl) rfl) rfl) (vpi (hM.n 38 15 364) (by omega))), congrArg Value.int ((congrArg (fun z => (up2 (mI M) (ad 10 0) 0 0) (ad 9 38) z) (cl_of (eq_add (eq_mul (show (7 : Int32) = nI 7 from rfl) rfl) rfl) (by omega))).trans ((up2_n _ _ (fun z => absurd (hi _ _ _ _ z.1).1 (by decide))).trans (rfl))), trivial⟩ ?_
            refine go_icmp rfl (fun (z : ¬ ((mI M) (ad 9 38) (7 * w1 + c1)) = (-1)) => absurd z (show ¬ (¬ ((mI M) (ad 9 38) (7 * w1 + c1)) = (-1)) from (not_not_intro c21))) (fun _ => ?_)
            refine go_blk 2 [] (pc' := 31) (vs' := [.ref (ad 10 0), .int ((7 * (nI w1)) + (nI c1))]) (st' := [.int (-1)]) (M' := mm M (up2 (mI M) (ad 10 0) 0 0) (mJ M)) (ps := []) rfl trivial ?_
            refine go_iret rfl rfl ?_
            refine ⟨ne_i, ?_⟩
            show Go 1311 230 0 0 134 [.ref (ad 10 0), .int (nI w1), .int (nI c1), .int 6, .int ((7 * (nI w1)) + (nI c1))] [.int (-1)] (mm M (up2 (mI M) (ad 10 0) 0 0) (mJ M)) R2
            refine go_iret rfl rfl ?_
            exact h2 _ ⟨hsc, ad, nc, nb, nt, wk, nw, nx, nl, ne, nk, kd, op, rfl, rfl, rfl, hW.thr⟩
          · exact absurd ⟨c1, hc1, rfl⟩ c23
        · exact absurd ⟨w1, (Nat.zero_le _), (Nat.le_of_lt_succ hw1), rfl⟩ c22
      · -- ¬ (((mI M) (ad 9 38) (7 * w1 + c1)) = (-1))
        refine go_blk 2 [] (pc' := 13) (vs' := [.ref (ad 6 b1)]) (st' := [.int 1]) (M' := mm M (mI M) (mJ M)) (ps := []) rfl trivial ?_
        refine go_zret rfl rfl (Or.inr rfl) ?_
        refine ⟨ne_i, ?_⟩
        show Go ((1311 - 1) - 1) 28 0 0 4 [.ref (ad 6 b1)] [.int 1] (mm M (mI M) (mJ M)) _
        refine go_if rfl (fun (z : (1 : Int32) = 0) => absurd z (show ¬ ((1 : Int32) = 0) from (by decide))) (fun _ => ?_)
        refine go_blk 6 [some (.int ((mI M) (ad 9 38) (7 * w1 + c1))), some (.int ((mI M) (ad 9 34) (7 * w1 + c1)))] (pc' := 17) (vs' := [.ref (ad 6 b1)]) (st' := [.int (((mI M) (ad 9 38) (7 * w1 + c1)) - ((mI M) (ad 9 34) (7 * w1 + c1))), .int 0]) (M' := mm M (mI M) (mJ M)) (ps := [ob (mm M (mI M) (mJ M)) (ad 6 b1) 3, (Value.int ((mI M) (ad 6 b1) 8)) = .int ((mI M) (ad 9 38) (7 * w1 + c1)), ob (mm M (mI M) (mJ M)) (ad 6 b1) 3, (Value.int ((mI M) (ad 6 b1) 3)) = .int ((mI M) (ad 9 34) (7 * w1 + c1))]) rfl ⟨((jR.1 b1 (by assumption)).1 (by assumption)).2.1, congrArg Value.int ((jO.1 b1 (by assumption) (by assumption) (7 * w1 + c1) (by assumption)).1.2.2.2.2.2.2.2.1), ((jR.1 b1 (by assumption)).1 (by assumption)).2.1, congrArg Value.int ((jO.1 b1 (by assumption) (by assumption) (7 * w1 + c1) (by assumption)).1.2.2.1), trivial⟩ ?_
        refine go_callS rfl (by decide) rfl rfl (by omega) rfl (by decide) (by decide) ?_
        refine s_JM_max0 (by omega) ⟨ne_i, ?_⟩
        show Go ((1311 - 1) - 1) 28 0 0 20 [.ref (ad 6 b1)] [.int (if (0 : Int32) < (((mI M) (ad 9 38) (7 * w1 + c1)) - ((mI M) (ad 9 34) (7 * w1 + c1))) then (((mI M) (ad 9 38) (7 * w1 + c1)) - ((mI M) (ad 9 34) (7 * w1 + c1))) else 0)] (mm M (mI M) (mJ M)) _
        refine go_blk 1 [] (pc' := 24) (vs' := [.ref (ad 6 b1)]) (st' := [.int (if (0 : Int32) < (((mI M) (ad 9 38) (7 * w1 + c1)) - ((mI M) (ad 9 34) (7 * w1 + c1))) then (((mI M) (ad 9 38) (7 * w1 + c1)) - ((mI M) (ad 9 34) (7 * w1 + c1))) else 0)]) (M' := mm M (mI M) (mJ M)) (ps := []) rfl trivial ?_
        refine go_iret rfl rfl ?_
        refine ⟨ne_i, ?_⟩
        show Go (1311 - 1) 29 0 0 90 [.ref (ad 6 b1), .int 6] [.int (if (0 : Int32) < (((mI M) (ad 9 38) (7 * w1 + c1)) - ((mI M) (ad 9 34) (7 * w1 + c1))) then (((mI M) (ad 9 38) (7 * w1 + c1)) - ((mI M) (ad 9 34) (7 * w1 + c1))) else 0)] (mm M (mI M) (mJ M)) _
        refine go_iret rfl rfl ?_
        refine ⟨ne_i, ?_⟩
        show Go 1311 138 0 0 23 [.ref (ad 0 0), .int (nI w1), .int (nI c1), .int 6, .ref (ad 6 b1)] [.int (if (0 : Int32) < (((mI M) (ad 9 38) (7 * w1 + c1)) - ((mI M) (ad 9 34) (7 * w1 + c1))) then (((mI M) (ad 9 38) (7 * w1 + c1)) - ((mI M) (ad 9 34) (7 * w1 + c1))) else 0)] (mm M (mI M) (mJ M)) R
        refine go_iret rfl rfl ?_
        refine K _ _ hM.1 rfl (fun R2 h2 => ?_)
        show Go 1311 230 0 0 0 [.ref (ad 10 0), .int (nI w1), .int (nI c1), .int 6, .retAddr 0] [] (mm M (mI M) (mJ M)) R2
        refine go_blk 6 [] (pc' := 8) (vs' := [.ref (ad 10 0), .int (nI w1), .int (nI c1), .int 6, .retAddr 0]) (st' := [.int (nI c1), .int (nI w1), .ref (ad 10 0)]) (M' := mm M (up2 (mI M) (ad 10 0) 0 0) (mJ M)) (ps := [ob (mm M (mI M) (mJ M)) (ad 10 0) 12]) rfl ⟨hM.1, trivial⟩ ?_
        refine go_callV rfl rfl rfl (by omega) rfl (by decide) (by decide) hM.1 ?_
        show Go (1311 - 1) 228 0 0 0 [.ref (ad 10 0), .int (nI w1), .int (nI c1)] [] (mm M (up2 (mI M) (ad 10 0) 0 0) (mJ M)) _
        refine go_blk 3 [] (pc' := 4) (vs' := [.ref (ad 10 0), .int (nI w1), .int (nI c1)]) (st' := [.int 51, .int 0, .int (nI w1)]) (M' := mm M (up2 (mI M) (ad 10 0) 0 0) (mJ M)) (ps := []) rfl trivial ?_
        refine go_callS rfl (by decide) rfl rfl (by omega) rfl (by decide) (by decide) ?_
        refine s_Mo_isInK 0 51 (by decide) (by decide) (fun j24 hl24 hj24 hx24 => ⟨ne_i, ?_⟩) (fun c24 => ⟨ne_i, ?_⟩)
        · -- 1
          show Go (1311 - 1) 228 0 0 7 [.ref (ad 10 0), .int (nI w1), .int (nI c1)] [.int 1] (mm M (up2 (mI M) (ad 10 0) 0 0) (mJ M)) _
          refine go_if rfl (fun (z : (1 : Int32) = 0) => absurd z (show ¬ ((1 : Int32) = 0) from (by decide))) (fun _ => ?_)
          refine go_blk 2 [] (pc' := 12) (vs' := [.ref (ad 10 0), .int (nI w1), .int (nI c1)]) (st' := [.int (nI c1), .ref (ad 10 0)]) (M' := mm M (up2 (mI M) (ad 10 0) 0 0) (mJ M)) (ps := []) rfl trivial ?_
          refine go_callV rfl rfl rfl (by omega) rfl (by decide) (by decide) hM.1 ?_
          refine s_Mo_isCottage hM (((up2_n _ _ (fun z => absurd z.2 (by decide))).trans (rfl)).trans nc2) (Nat.le_trans nc3 (by decide)) (fun j25 hj25 hx25 => ⟨ne_i, ?_⟩) (fun c25 => ⟨ne_i, ?_⟩)
          · -- 1
            show Go (1311 - 1) 228 0 0 15 [.ref (ad 10 0), .int (nI w1), .int (nI c1)] [.int 1] (mm M (up2 (mI M) (ad 10 0) 0 0) (mJ M)) _
            refine go_if rfl (fun (z : (1 : Int32) = 0) => absurd z (show ¬ ((1 : Int32) = 0) from (by decide))) (fun _ => ?_)
            refine go_blk 8 [some (.ref (ad 9 32)), some (.int 1)] (pc' := 29) (vs' := [.ref (ad 10 0), .int (nI w1), .int (nI c1)]) (st' := [.int 1]) (M' := mm M (up2 (mI M) (ad 10 0) 0 0) (mJ M)) (ps := [ob (mm M (up2 (mI M) (ad 10 0) 0 0) (mJ M)) (ad 10 0) 12, mR (mm M (up2 (mI M) (ad 10 0) 0 0) (mJ M)) (ad 10 0) 32 = some (ad 9 32), va_rf (some (ad 9 32)) = .ref (ad 9 32), ob (mm M (up2 (mI M) (ad 10 0) 0 0) (mJ M)) (ad 9 32) 13, 13 = 13 ∨ 13 = 14, vp_in ((7 * (nI w1)) + (nI c1)) (mN (mm M (up2 (mI M) (ad 10 0) 0 0) (mJ M)) (ad 9 32)), (Value.int ((up2 (mI M) (ad 10 0) 0 0) (ad 9 32) (((7 * (nI w1)) + (nI c1)).toNatClampNeg))) = .int 1]) rfl ⟨hM.1, (hM.r 32 13 364), rfl, (hM.o 32 13 364), (by decide), (vp_eq (eq_add (eq_mul (show (7 : Int32) = nI 7 from rfl) rfl) rfl) (vpi (hM.n 32 13 364) (by omega))), congrArg Value.int ((congrArg (fun z => (up2 (mI M) (ad 10 0) 0 0) (ad 9 32) z) (cl_of (eq_add (eq_mul (show (7 : Int32) = nI 7 from rfl) rfl) rfl) (by omega))).trans (((up2_n _ _ (fun z => absurd (hi _ _ _ _ z.1).1 (by decide))).trans (rfl)).trans (jO.1 b1 (by assumption) (by assumption) (7 * w1 + c1) (by assumption)).2.1.2.2)), trivial⟩ ?_
            refine go_if rfl (fun (z : (1 : Int32) = 0) => absurd z (show ¬ ((1 : Int32) = 0) from (by decide))) (fun _ => ?_)
            refine go_blk 2 [] (pc' := 37) (vs' := [.ref (ad 10 0), .int (nI w1), .int (nI c1)]) (st' := [.int 1]) (M' := mm M (up2 (mI M) (ad 10 0) 0 0) (mJ M)) (ps := []) rfl trivial ?_
            refine go_zret rfl rfl (Or.inr rfl) ?_
            refine ⟨ne_i, ?_⟩
            show Go 1311 230 0 0 11 [.ref (ad 10 0), .int (nI w1), .int (nI c1), .int 6, .retAddr 0] [.int 1] (mm M (up2 (mI M) (ad 10 0) 0 0) (mJ M)) R2
            refine go_if rfl (fun _ => ?_) (fun (z : ¬ (¬ (1 : Int32) = 0)) => absurd (show ¬ (1 : Int32) = 0 from (by decide)) z)
            refine go_blk 7 [] (pc' := 25) (vs' := [.ref (ad 10 0), .int (nI w1), .int (nI c1), .int 6, .int ((7 * (nI w1)) + (nI c1))]) (st' := [.int 6]) (M' := mm M (up2 (mI M) (ad 10 0) 0 0) (mJ M)) (ps := []) rfl trivial ?_
            refine go_tsw rfl ?_
            refine ⟨fun (z : (6 : Int32) = 0) => absurd z (by decide), fun _ => ?_⟩
            refine ⟨fun (z : (6 : Int32) = 1) => absurd z (by decide), fun _ => ?_⟩
            refine ⟨fun (z : (6 : Int32) = 2) => absurd z (by decide), fun _ => ?_⟩
            refine ⟨fun (z : (6 : Int32) = 3) => absurd z (by decide), fun _ => ?_⟩
            refine ⟨fun (z : (6 : Int32) = 4) => absurd z (by decide), fun _ => ?_⟩
            refine ⟨fun (z : (6 : Int32) = 5) => absurd z (by decide), fun _ => ?_⟩
            refine ⟨fun _ => ?_, fun z => absurd rfl z⟩
            show Go 1311 230 0 0 128 [.ref (ad 10 0), .int (nI w1), .int (nI c1), .int 6, .int ((7 * (nI w1)) + (nI c1))] [] (mm M (up2 (mI M) (ad 10 0) 0 0) (mJ M)) R2
            refine go_blk 2 [] (pc' := 131) (vs' := [.ref (ad 10 0), .int (nI w1), .int (nI c1), .int 6, .int ((7 * (nI w1)) + (nI c1))]) (st' := [.int ((7 * (nI w1)) + (nI c1)), .ref (ad 10 0)]) (M' := mm M (up2 (mI M) (ad 10 0) 0 0) (mJ M)) (ps := []) rfl trivial ?_
            refine go_callV rfl rfl rfl (by omega) rfl (by decide) (by decide) hM.1 ?_
            show Go (1311 - 1) 229 0 0 0 [.ref (ad 10 0), .int ((7 * (nI w1)) + (nI c1))] [] (mm M (up2 (mI M) (ad 10 0) 0 0) (mJ M)) _
            refine go_blk 5 [some (.ref (ad 9 38)), some (.int ((mI M) (ad 9 38) (7 * w1 + c1)))] (pc' := 7) (vs' := [.ref (ad 10 0), .int ((7 * (nI w1)) + (nI c1))]) (st' := [.int (-1), .int ((mI M) (ad 9 38) (7 * w1 + c1))]) (M' := mm M (up2 (mI M) (ad 10 0) 0 0) (mJ M)) (ps := [ob (mm M (up2 (mI M) (ad 10 0) 0 0) (mJ M)) (ad 10 0) 12, mR (mm M (up2 (mI M) (ad 10 0) 0 0) (mJ M)) (ad 10 0) 38 = some (ad 9 38), va_rf (some (ad 9 38)) = .ref (ad 9 38), ob (mm M (up2 (mI M) (ad 10 0) 0 0) (mJ M)) (ad 9 38) 15, vp_in ((7 * (nI w1)) + (nI c1)) (mN (mm M (up2 (mI M) (ad 10 0) 0 0) (mJ M)) (ad 9 38)), (Value.int ((up2 (mI M) (ad 10 0) 0 0) (ad 9 38) (((7 * (nI w1)) + (nI c1)).toNatClampNeg))) = .int ((mI M) (ad 9 38) (7 * w1 + c1))]) rfl ⟨hM.1, (hM.r 38 15 364), rfl, (hM.o 38 15 364), (vp_eq (eq_add (eq_mul (show (7 : Int32) = nI 7 from rfl) rfl) rfl) (vpi (hM.n 38 15 364) (by omega))), congrArg Value.int ((congrArg (fun z => (up2 (mI M) (ad 10 0) 0 0) (ad 9 38) z) (cl_of (eq_add (eq_mul (show (7 : Int32) = nI 7 from rfl) rfl) rfl) (by omega))).trans ((up2_n _ _ (fun z => absurd (hi _ _ _ _ z.1).1 (by decide))).trans (rfl))), trivial⟩ ?_
            refine go_icmp rfl (fun _ => ?_) (fun (z : ¬ (¬ ((mI M) (ad 9 38) (7 * w1 + c1)) = (-1))) => absurd (show ¬ ((mI M) (ad 9 38) (7 * w1 + c1)) = (-1) from c21) z)
            refine go_blk 10 [some (.ref (ad 9 38)), some (.int ((mI M) (ad 9 38) (7 * w1 + c1))), some (.ref (ad 9 34)), some (.int ((mI M) (ad 9 34) (7 * w1 + c1)))] (pc' := 28) (vs' := [.ref (ad 10 0), .int ((7 * (nI w1)) + (nI c1))]) (st' := [.int (((mI M) (ad 9 38) (7 * w1 + c1)) - ((mI M) (ad 9 34) (7 * w1 + c1))), .int 0]) (M' := mm M (up2 (mI M) (ad 10 0) 0 0) (mJ M)) (ps := [ob (mm M (up2 (mI M) (ad 10 0) 0 0) (mJ M)) (ad 10 0) 12, mR (mm M (up2 (mI M) (ad 10 0) 0 0) (mJ M)) (ad 10 0) 38 = some (ad 9 38), va_rf (some (ad 9 38)) = .ref (ad 9 38), ob (mm M (up2 (mI M) (ad 10 0) 0 0) (mJ M)) (ad 9 38) 15, vp_in ((7 * (nI w1)) + (nI c1)) (mN (mm M (up2 (mI M) (ad 10 0) 0 0) (mJ M)) (ad 9 38)), (Value.int ((up2 (mI M) (ad 10 0) 0 0) (ad 9 38) (((7 * (nI w1)) + (nI c1)).toNatClampNeg))) = .int ((mI M) (ad 9 38) (7 * w1 + c1)), ob (mm M (up2 (mI M) (ad 10 0) 0 0) (mJ M)) (ad 10 0) 12, mR (mm M (up2 (mI M) (ad 10 0) 0 0) (mJ M)) (ad 10 0) 34 = some (ad 9 34), va_rf (some (ad 9 34)) = .ref (ad 9 34), ob (mm M (up2 (mI M) (ad 10 0) 0 0) (mJ M)) (ad 9 34) 15, vp_in ((7 * (nI w1)) + (nI c1)) (mN (mm M (up2 (mI M) (ad 10 0) 0 0) (mJ M)) (ad 9 34)), (Value.int ((up2 (mI M) (ad 10 0) 0 0) (ad 9 34) (((7 * (nI w1)) + (nI c1)).toNatClampNeg))) = .int ((mI M) (ad 9 34) (7 * w1 + c1))]) rfl ⟨hM.1, (hM.r 38 15 364), rfl, (hM.o 38 15 364), (vp_eq (eq_add (eq_mul (show (7 : Int32) = nI 7 from rfl) rfl) rfl) (vpi (hM.n 38 15 364) (by omega))), congrArg Value.int ((congrArg (fun z => (up2 (mI M) (ad 10 0) 0 0) (ad 9 38) z) (cl_of (eq_add (eq_mul (show (7 : Int32) = nI 7 from rfl) rfl) rfl) (by omega))).trans ((up2_n _ _ (fun z => absurd (hi _ _ _ _ z.1).1 (by decide))).trans (rfl))), hM.1, (hM.r 34 15 364), rfl, (hM.o 34 15 364), (vp_eq (eq_add (eq_mul (show (7 : Int32) = nI 7 from rfl) rfl) rfl) (vpi (hM.n 34 15 364) (by omega))), congrArg Value.int ((congrArg (fun z => (up2 (mI M) (ad 10 0) 0 0) (ad 9 34) z) (cl_of (eq_add (eq_mul (show (7 : Int32) = nI 7 from rfl) rfl) rfl) (by omega))).trans ((up2_n _ _ (fun z => absurd (hi _ _ _ _ z.1).1 (by decide))).trans (rfl))), trivial⟩ ?_
            refine go_callS rfl (by decide) rfl rfl (by omega) rfl (by decide) (by decide) ?_
            refine s_JM_max0 (by omega) ⟨ne_i, ?_⟩
            show Go (1311 - 1) 229 0 0 31 [.ref (ad 10 0), .int ((7 * (nI w1)) + (nI c1))] [.int (if (0 : Int32) < (((mI M) (ad 9 38) (7 * w1 + c1)) - ((mI M) (ad 9 34) (7 * w1 + c1))) then (((mI M) (ad 9 38) (7 * w1 + c1)) - ((mI M) (ad 9 34) (7 * w1 + c1))) else 0)] (mm M (up2 (mI M) (ad 10 0) 0 0) (mJ M)) _
            refine go_iret rfl rfl ?_
            refine ⟨ne_i, ?_⟩
            show Go 1311 230 0 0 134 [.ref (ad 10 0), .int (nI w1), .int (nI c1), .int 6, .int ((7 * (nI w1)) + (nI c1))] [.int (if (0 : Int32) < (((mI M) (ad 9 38) (7 * w1 + c1)) - ((mI M) (ad 9 34) (7 * w1 + c1))) then (((mI M) (ad 9 38) (7 * w1 + c1)) - ((mI M) (ad 9 34) (7 * w1 + c1))) else 0)] (mm M (up2 (mI M) (ad 10 0) 0 0) (mJ M)) R2
            refine go_iret rfl rfl ?_
            exact h2 _ ⟨hsc, ad, nc, nb, nt, wk, nw, nx, nl, ne, nk, kd, op, rfl, rfl, rfl, hW.thr⟩
          · exact absurd ⟨c1, hc1, rfl⟩ c25
        · exact absurd ⟨w1, (Nat.zero_le _), (Nat.le_of_lt_succ hw1), rfl⟩ c24
    refine ⟨fun (c26 : a3 = 7) => ?_, fun (c26n : ¬ (a3 = 7)) => ?_⟩
    · -- a3 = 7
      subst c26
      show Go (1311 - 1) 29 0 0 91 [.ref (ad 6 b1), .int 7] [] (mm M (mI M) (mJ M)) _
      refine go_blk 2 [some (.int ((mI M) (ad 9 39) (7 * w1 + c1)))] (pc' := 95) (vs' := [.ref (ad 6 b1), .int 7]) (st' := [.int ((mI M) (ad 9 39) (7 * w1 + c1))]) (M' := mm M (mI M) (mJ M)) (ps := [ob (mm M (mI M) (mJ M)) (ad 6 b1) 3, (Value.int ((mI M) (ad 6 b1) 9)) = .int ((mI M) (ad 9 39) (7 * w1 + c1))]) rfl ⟨((jR.1 b1 (by assumption)).1 (by assumption)).2.1, congrArg Value.int ((jO.1 b1 (by assumption) (by assumption) (7 * w1 + c1) (by assumption)).1.2.2.2.2.2.2.2.2.1), trivial⟩ ?_
      refine go_iret rfl rfl ?_
      refine ⟨ne_i, ?_⟩
      show Go 1311 138 0 0 23 [.ref (ad 0 0), .int (nI w1), .int (nI c1), .int 7, .ref (ad 6 b1)] [.int ((mI M) (ad 9 39) (7 * w1 + c1))] (mm M (mI M) (mJ M)) R
      refine go_iret rfl rfl ?_
      refine K _ _ hM.1 rfl (fun R2 h2 => ?_)
      show Go 1311 230 0 0 0 [.ref (ad 10 0), .int (nI w1), .int (nI c1), .int 7, .retAddr 0] [] (mm M (mI M) (mJ M)) R2
      refine go_blk 6 [] (pc' := 8) (vs' := [.ref (ad 10 0), .int (nI w1), .int (nI c1), .int 7, .retAddr 0]) (st' := [.int (nI c1), .int (nI w1), .ref (ad 10 0)]) (M' := mm M (up2 (mI M) (ad 10 0) 0 0) (mJ M)) (ps := [ob (mm M (mI M) (mJ M)) (ad 10 0) 12]) rfl ⟨hM.1, trivial⟩ ?_
      refine go_callV rfl rfl rfl (by omega) rfl (by decide) (by decide) hM.1 ?_
      show Go (1311 - 1) 228 0 0 0 [.ref (ad 10 0), .int (nI w1), .int (nI c1)] [] (mm M (up2 (mI M) (ad 10 0) 0 0) (mJ M)) _
      refine go_blk 3 [] (pc' := 4) (vs' := [.ref (ad 10 0), .int (nI w1), .int (nI c1)]) (st' := [.int 51, .int 0, .int (nI w1)]) (M' := mm M (up2 (mI M) (ad 10 0) 0 0) (mJ M)) (ps := []) rfl trivial ?_
      refine go_callS rfl (by decide) rfl rfl (by omega) rfl (by decide) (by decide) ?_
      refine s_Mo_isInK 0 51 (by decide) (by decide) (fun j27 hl27 hj27 hx27 => ⟨ne_i, ?_⟩) (fun c27 => ⟨ne_i, ?_⟩)
      · -- 1
        show Go (1311 - 1) 228 0 0 7 [.ref (ad 10 0), .int (nI w1), .int (nI c1)] [.int 1] (mm M (up2 (mI M) (ad 10 0) 0 0) (mJ M)) _
        refine go_if rfl (fun (z : (1 : Int32) = 0) => absurd z (show ¬ ((1 : Int32) = 0) from (by decide))) (fun _ => ?_)
        refine go_blk 2 [] (pc' := 12) (vs' := [.ref (ad 10 0), .int (nI w1), .int (nI c1)]) (st' := [.int (nI c1), .ref (ad 10 0)]) (M' := mm M (up2 (mI M) (ad 10 0) 0 0) (mJ M)) (ps := []) rfl trivial ?_
        refine go_callV rfl rfl rfl (by omega) rfl (by decide) (by decide) hM.1 ?_
        refine s_Mo_isCottage hM (((up2_n _ _ (fun z => absurd z.2 (by decide))).trans (rfl)).trans nc2) (Nat.le_trans nc3 (by decide)) (fun j28 hj28 hx28 => ⟨ne_i, ?_⟩) (fun c28 => ⟨ne_i, ?_⟩)
        · -- 1
          show Go (1311 - 1) 228 0 0 15 [.ref (ad 10 0), .int (nI w1), .int (nI c1)] [.int 1] (mm M (up2 (mI M) (ad 10 0) 0 0) (mJ M)) _
          refine go_if rfl (fun (z : (1 : Int32) = 0) => absurd z (show ¬ ((1 : Int32) = 0) from (by decide))) (fun _ => ?_)
          refine go_blk 8 [some (.ref (ad 9 32)), some (.int 1)] (pc' := 29) (vs' := [.ref (ad 10 0), .int (nI w1), .int (nI c1)]) (st' := [.int 1]) (M' := mm M (up2 (mI M) (ad 10 0) 0 0) (mJ M)) (ps := [ob (mm M (up2 (mI M) (ad 10 0) 0 0) (mJ M)) (ad 10 0) 12, mR (mm M (up2 (mI M) (ad 10 0) 0 0) (mJ M)) (ad 10 0) 32 = some (ad 9 32), va_rf (some (ad 9 32)) = .ref (ad 9 32), ob (mm M (up2 (mI M) (ad 10 0) 0 0) (mJ M)) (ad 9 32) 13, 13 = 13 ∨ 13 = 14, vp_in ((7 * (nI w1)) + (nI c1)) (mN (mm M (up2 (mI M) (ad 10 0) 0 0) (mJ M)) (ad 9 32)), (Value.int ((up2 (mI M) (ad 10 0) 0 0) (ad 9 32) (((7 * (nI w1)) + (nI c1)).toNatClampNeg))) = .int 1]) rfl ⟨hM.1, (hM.r 32 13 364), rfl, (hM.o 32 13 364), (by decide), (vp_eq (eq_add (eq_mul (show (7 : Int32) = nI 7 from rfl) rfl) rfl) (vpi (hM.n 32 13 364) (by omega))), congrArg Value.int ((congrArg (fun z => (up2 (mI M) (ad 10 0) 0 0) (ad 9 32) z) (cl_of (eq_add (eq_mul (show (7 : Int32) = nI 7 from rfl) rfl) rfl) (by omega))).trans (((up2_n _ _ (fun z => absurd (hi _ _ _ _ z.1).1 (by decide))).trans (rfl)).trans (jO.1 b1 (by assumption) (by assumption) (7 * w1 + c1) (by assumption)).2.1.2.2)), trivial⟩ ?_
          refine go_if rfl (fun (z : (1 : Int32) = 0) => absurd z (show ¬ ((1 : Int32) = 0) from (by decide))) (fun _ => ?_)
          refine go_blk 2 [] (pc' := 37) (vs' := [.ref (ad 10 0), .int (nI w1), .int (nI c1)]) (st' := [.int 1]) (M' := mm M (up2 (mI M) (ad 10 0) 0 0) (mJ M)) (ps := []) rfl trivial ?_
          refine go_zret rfl rfl (Or.inr rfl) ?_
          refine ⟨ne_i, ?_⟩
          show Go 1311 230 0 0 11 [.ref (ad 10 0), .int (nI w1), .int (nI c1), .int 7, .retAddr 0] [.int 1] (mm M (up2 (mI M) (ad 10 0) 0 0) (mJ M)) R2
          refine go_if rfl (fun _ => ?_) (fun (z : ¬ (¬ (1 : Int32) = 0)) => absurd (show ¬ (1 : Int32) = 0 from (by decide)) z)
          refine go_blk 7 [] (pc' := 25) (vs' := [.ref (ad 10 0), .int (nI w1), .int (nI c1), .int 7, .int ((7 * (nI w1)) + (nI c1))]) (st' := [.int 7]) (M' := mm M (up2 (mI M) (ad 10 0) 0 0) (mJ M)) (ps := []) rfl trivial ?_
          refine go_tsw rfl ?_
          refine ⟨fun (z : (7 : Int32) = 0) => absurd z (by decide), fun _ => ?_⟩
          refine ⟨fun (z : (7 : Int32) = 1) => absurd z (by decide), fun _ => ?_⟩
          refine ⟨fun (z : (7 : Int32) = 2) => absurd z (by decide), fun _ => ?_⟩
          refine ⟨fun (z : (7 : Int32) = 3) => absurd z (by decide), fun _ => ?_⟩
          refine ⟨fun (z : (7 : Int32) = 4) => absurd z (by decide), fun _ => ?_⟩
          refine ⟨fun (z : (7 : Int32) = 5) => absurd z (by decide), fun _ => ?_⟩
          refine ⟨fun (z : (7 : Int32) = 6) => absurd z (by decide), fun _ => ?_⟩
          refine ⟨fun _ => ?_, fun z => absurd rfl z⟩
          show Go 1311 230 0 0 135 [.ref (ad 10 0), .int (nI w1), .int (nI c1), .int 7, .int ((7 * (nI w1)) + (nI c1))] [] (mm M (up2 (mI M) (ad 10 0) 0 0) (mJ M)) R2
          refine go_blk 4 [some (.ref (ad 9 39)), some (.int ((mI M) (ad 9 39) (7 * w1 + c1)))] (pc' := 142) (vs' := [.ref (ad 10 0), .int (nI w1), .int (nI c1), .int 7, .int ((7 * (nI w1)) + (nI c1))]) (st' := [.int ((mI M) (ad 9 39) (7 * w1 + c1))]) (M' := mm M (up2 (mI M) (ad 10 0) 0 0) (mJ M)) (ps := [ob (mm M (up2 (mI M) (ad 10 0) 0 0) (mJ M)) (ad 10 0) 12, mR (mm M (up2 (mI M) (ad 10 0) 0 0) (mJ M)) (ad 10 0) 39 = some (ad 9 39), va_rf (some (ad 9 39)) = .ref (ad 9 39), ob (mm M (up2 (mI M) (ad 10 0) 0 0) (mJ M)) (ad 9 39) 15, vp_in ((7 * (nI w1)) + (nI c1)) (mN (mm M (up2 (mI M) (ad 10 0) 0 0) (mJ M)) (ad 9 39)), (Value.int ((up2 (mI M) (ad 10 0) 0 0) (ad 9 39) (((7 * (nI w1)) + (nI c1)).toNatClampNeg))) = .int ((mI M) (ad 9 39) (7 * w1 + c1))]) rfl ⟨hM.1, (hM.r 39 15 364), rfl, (hM.o 39 15 364), (vp_eq (eq_add (eq_mul (show (7 : Int32) = nI 7 from rfl) rfl) rfl) (vpi (hM.n 39 15 364) (by omega))), congrArg Value.int ((congrArg (fun z => (up2 (mI M) (ad 10 0) 0 0) (ad 9 39) z) (cl_of (eq_add (eq_mul (show (7 : Int32) = nI 7 from rfl) rfl) rfl) (by omega))).trans ((up2_n _ _ (fun z => absurd (hi _ _ _ _ z.1).1 (by decide))).trans (rfl))), trivial⟩ ?_
          refine go_iret rfl rfl ?_
          exact h2 _ ⟨hsc, ad, nc, nb, nt, wk, nw, nx, nl, ne, nk, kd, op, rfl, rfl, rfl, hW.thr⟩
        · exact absurd ⟨c1, hc1, rfl⟩ c28
      · exact absurd ⟨w1, (Nat.zero_le _), (Nat.le_of_lt_succ hw1), rfl⟩ c27
    refine ⟨fun (c29 : a3 = 8) => ?_, fun (c29n : ¬ (a3 = 8)) => ?_⟩
    · -- a3 = 8
      subst c29
      show Go (1311 - 1) 29 0 0 96 [.ref (ad 6 b1), .int 8] [] (mm M (mI M) (mJ M)) _
      refine go_blk 2 [some (.int ((mI M) (ad 9 40) (7 * w1 + c1)))] (pc' := 100) (vs' := [.ref (ad 6 b1), .int 8]) (st' := [.int ((mI M) (ad 9 40) (7 * w1 + c1))]) (M' := mm M (mI M) (mJ M)) (ps := [ob (mm M (mI M) (mJ M)) (ad 6 b1) 3, (Value.int ((mI M) (ad 6 b1) 10)) = .int ((mI M) (ad 9 40) (7 * w1 + c1))]) rfl ⟨((jR.1 b1 (by assumption)).1 (by assumption)).2.1, congrArg Value.int ((jO.1 b1 (by assumption) (by assumption) (7 * w1 + c1) (by assumption)).1.2.2.2.2.2.2.2.2.2.1), trivial⟩ ?_
      refine go_iret rfl rfl ?_
      refine ⟨ne_i, ?_⟩
      show Go 1311 138 0 0 23 [.ref (ad 0 0), .int (nI w1), .int (nI c1), .int 8, .ref (ad 6 b1)] [.int ((mI M) (ad 9 40) (7 * w1 + c1))] (mm M (mI M) (mJ M)) R
      refine go_iret rfl rfl ?_
      refine K _ _ hM.1 rfl (fun R2 h2 => ?_)
      show Go 1311 230 0 0 0 [.ref (ad 10 0), .int (nI w1), .int (nI c1), .int 8, .retAddr 0] [] (mm M (mI M) (mJ M)) R2
      refine go_blk 6 [] (pc' := 8) (vs' := [.ref (ad 10 0), .int (nI w1), .int (nI c1), .int 8, .retAddr 0]) (st' := [.int (nI c1), .int (nI w1), .ref (ad 10 0)]) (M' := mm M (up2 (mI M) (ad 10 0) 0 0) (mJ M)) (ps := [ob (mm M (mI M) (mJ M)) (ad 10 0) 12]) rfl ⟨hM.1, trivial⟩ ?_
      refine go_callV rfl rfl rfl (by omega) rfl (by decide) (by decide) hM.1 ?_
      show Go (1311 - 1) 228 0 0 0 [.ref (ad 10 0), .int (nI w1), .int (nI c1)] [] (mm M (up2 (mI M) (ad 10 0) 0 0) (mJ M)) _
      refine go_blk 3 [] (pc' := 4) (vs' := [.ref (ad 10 0), .int (nI w1), .int (nI c1)]) (st' := [.int 51, .int 0, .int (nI w1)]) (M' := mm M (up2 (mI M) (ad 10 0) 0 0) (mJ M)) (ps := []) rfl trivial ?_
      refine go_callS rfl (by decide) rfl rfl (by omega) rfl (by decide) (by decide) ?_
      refine s_Mo_isInK 0 51 (by decide) (by decide) (fun j30 hl30 hj30 hx30 => ⟨ne_i, ?_⟩) (fun c30 => ⟨ne_i, ?_⟩)
      · -- 1
        show Go (1311 - 1) 228 0 0 7 [.ref (ad 10 0), .int (nI w1), .int (nI c1)] [.int 1] (mm M (up2 (mI M) (ad 10 0) 0 0) (mJ M)) _
        refine go_if rfl (fun (z : (1 : Int32) = 0) => absurd z (show ¬ ((1 : Int32) = 0) from (by decide))) (fun _ => ?_)
        refine go_blk 2 [] (pc' := 12) (vs' := [.ref (ad 10 0), .int (nI w1), .int (nI c1)]) (st' := [.int (nI c1), .ref (ad 10 0)]) (M' := mm M (up2 (mI M) (ad 10 0) 0 0) (mJ M)) (ps := []) rfl trivial ?_
        refine go_callV rfl rfl rfl (by omega) rfl (by decide) (by decide) hM.1 ?_
        refine s_Mo_isCottage hM (((up2_n _ _ (fun z => absurd z.2 (by decide))).trans (rfl)).trans nc2) (Nat.le_trans nc3 (by decide)) (fun j31 hj31 hx31 => ⟨ne_i, ?_⟩) (fun c31 => ⟨ne_i, ?_⟩)
        · -- 1
          show Go (1311 - 1) 228 0 0 15 [.ref (ad 10 0), .int (nI w1), .int (nI c1)] [.int 1] (mm M (up2 (mI M) (ad 10 0) 0 0) (mJ M)) _
          refine go_if rfl (fun (z : (1 : Int32) = 0) => absurd z (show ¬ ((1 : Int32) = 0) from (by decide))) (fun _ => ?_)
          refine go_blk 8 [some (.ref (ad 9 32)), some (.int 1)] (pc' := 29) (vs' := [.ref (ad 10 0), .int (nI w1), .int (nI c1)]) (st' := [.int 1]) (M' := mm M (up2 (mI M) (ad 10 0) 0 0) (mJ M)) (ps := [ob (mm M (up2 (mI M) (ad 10 0) 0 0) (mJ M)) (ad 10 0) 12, mR (mm M (up2 (mI M) (ad 10 0) 0 0) (mJ M)) (ad 10 0) 32 = some (ad 9 32), va_rf (some (ad 9 32)) = .ref (ad 9 32), ob (mm M (up2 (mI M) (ad 10 0) 0 0) (mJ M)) (ad 9 32) 13, 13 = 13 ∨ 13 = 14, vp_in ((7 * (nI w1)) + (nI c1)) (mN (mm M (up2 (mI M) (ad 10 0) 0 0) (mJ M)) (ad 9 32)), (Value.int ((up2 (mI M) (ad 10 0) 0 0) (ad 9 32) (((7 * (nI w1)) + (nI c1)).toNatClampNeg))) = .int 1]) rfl ⟨hM.1, (hM.r 32 13 364), rfl, (hM.o 32 13 364), (by decide), (vp_eq (eq_add (eq_mul (show (7 : Int32) = nI 7 from rfl) rfl) rfl) (vpi (hM.n 32 13 364) (by omega))), congrArg Value.int ((congrArg (fun z => (up2 (mI M) (ad 10 0) 0 0) (ad 9 32) z) (cl_of (eq_add (eq_mul (show (7 : Int32) = nI 7 from rfl) rfl) rfl) (by omega))).trans (((up2_n _ _ (fun z => absurd (hi _ _ _ _ z.1).1 (by decide))).trans (rfl)).trans (jO.1 b1 (by assumption) (by assumption) (7 * w1 + c1) (by assumption)).2.1.2.2)), trivial⟩ ?_
          refine go_if rfl (fun (z : (1 : Int32) = 0) => absurd z (show ¬ ((1 : Int32) = 0) from (by decide))) (fun _ => ?_)
          refine go_blk 2 [] (pc' := 37) (vs' := [.ref (ad 10 0), .int (nI w1), .int (nI c1)]) (st' := [.int 1]) (M' := mm M (up2 (mI M) (ad 10 0) 0 0) (mJ M)) (ps := []) rfl trivial ?_
          refine go_zret rfl rfl (Or.inr rfl) ?_
          refine ⟨ne_i, ?_⟩
          show Go 1311 230 0 0 11 [.ref (ad 10 0), .int (nI w1), .int (nI c1), .int 8, .retAddr 0] [.int 1] (mm M (up2 (mI M) (ad 10 0) 0 0) (mJ M)) R2
          refine go_if rfl (fun _ => ?_) (fun (z : ¬ (¬ (1 : Int32) = 0)) => absurd (show ¬ (1 : Int32) = 0 from (by decide)) z)
          refine go_blk 7 [] (pc' := 25) (vs' := [.ref (ad 10 0), .int (nI w1), .int (nI c1), .int 8, .int ((7 * (nI w1)) + (nI c1))]) (st' := [.int 8]) (M' := mm M (up2 (mI M) (ad 10 0) 0 0) (mJ M)) (ps := []) rfl trivial ?_
          refine go_tsw rfl ?_
          refine ⟨fun (z : (8 : Int32) = 0) => absurd z (by decide), fun _ => ?_⟩
          refine ⟨fun (z : (8 : Int32) = 1) => absurd z (by decide), fun _ => ?_⟩
          refine ⟨fun (z : (8 : Int32) = 2) => absurd z (by decide), fun _ => ?_⟩
          refine ⟨fun (z : (8 : Int32) = 3) => absurd z (by decide), fun _ => ?_⟩
          refine ⟨fun (z : (8 : Int32) = 4) => absurd z (by decide), fun _ => ?_⟩
          refine ⟨fun (z : (8 : Int32) = 5) => absurd z (by decide), fun _ => ?_⟩
          refine ⟨fun (z : (8 : Int32) = 6) => absurd z (by decide), fun _ => ?_⟩
          refine ⟨fun (z : (8 : Int32) = 7) => absurd z (by decide), fun _ => ?_⟩
          refine ⟨fun _ => ?_, fun z => absurd rfl z⟩
          show Go 1311 230 0 0 143 [.ref (ad 10 0), .int (nI w1), .int (nI c1), .int 8, .int ((7 * (nI w1)) + (nI c1))] [] (mm M (up2 (mI M) (ad 10 0) 0 0) (mJ M)) R2
          refine go_blk 4 [some (.ref (ad 9 40)), some (.int ((mI M) (ad 9 40) (7 * w1 + c1)))] (pc' := 150) (vs' := [.ref (ad 10 0), .int (nI w1), .int (nI c1), .int 8, .int ((7 * (nI w1)) + (nI c1))]) (st' := [.int ((mI M) (ad 9 40) (7 * w1 + c1))]) (M' := mm M (up2 (mI M) (ad 10 0) 0 0) (mJ M)) (ps := [ob (mm M (up2 (mI M) (ad 10 0) 0 0) (mJ M)) (ad 10 0) 12, mR (mm M (up2 (mI M) (ad 10 0) 0 0) (mJ M)) (ad 10 0) 40 = some (ad 9 40), va_rf (some (ad 9 40)) = .ref (ad 9 40), ob (mm M (up2 (mI M) (ad 10 0) 0 0) (mJ M)) (ad 9 40) 15, vp_in ((7 * (nI w1)) + (nI c1)) (mN (mm M (up2 (mI M) (ad 10 0) 0 0) (mJ M)) (ad 9 40)), (Value.int ((up2 (mI M) (ad 10 0) 0 0) (ad 9 40) (((7 * (nI w1)) + (nI c1)).toNatClampNeg))) = .int ((mI M) (ad 9 40) (7 * w1 + c1))]) rfl ⟨hM.1, (hM.r 40 15 364), rfl, (hM.o 40 15 364), (vp_eq (eq_add (eq_mul (show (7 : Int32) = nI 7 from rfl) rfl) rfl) (vpi (hM.n 40 15 364) (by omega))), congrArg Value.int ((congrArg (fun z => (up2 (mI M) (ad 10 0) 0 0) (ad 9 40) z) (cl_of (eq_add (eq_mul (show (7 : Int32) = nI 7 from rfl) rfl) rfl) (by omega))).trans ((up2_n _ _ (fun z => absurd (hi _ _ _ _ z.1).1 (by decide))).trans (rfl))), trivial⟩ ?_
          refine go_iret rfl rfl ?_
          exact h2 _ ⟨hsc, ad, nc, nb, nt, wk, nw, nx, nl, ne, nk, kd, op, rfl, rfl, rfl, hW.thr⟩
        · exact absurd ⟨c1, hc1, rfl⟩ c31
      · exact absurd ⟨w1, (Nat.zero_le _), (Nat.le_of_lt_succ hw1), rfl⟩ c30
    refine ⟨fun (c32 : a3 = 9) => ?_, fun (c32n : ¬ (a3 = 9)) => ?_⟩
    · -- a3 = 9
      subst c32
      show Go (1311 - 1) 29 0 0 101 [.ref (ad 6 b1), .int 9] [] (mm M (mI M) (mJ M)) _
      refine go_blk 2 [some (.int ((mI M) (ad 9 41) (7 * w1 + c1)))] (pc' := 105) (vs' := [.ref (ad 6 b1), .int 9]) (st' := [.int ((mI M) (ad 9 41) (7 * w1 + c1))]) (M' := mm M (mI M) (mJ M)) (ps := [ob (mm M (mI M) (mJ M)) (ad 6 b1) 3, (Value.int ((mI M) (ad 6 b1) 11)) = .int ((mI M) (ad 9 41) (7 * w1 + c1))]) rfl ⟨((jR.1 b1 (by assumption)).1 (by assumption)).2.1, congrArg Value.int ((jO.1 b1 (by assumption) (by assumption) (7 * w1 + c1) (by assumption)).1.2.2.2.2.2.2.2.2.2.2), trivial⟩ ?_
      refine go_iret rfl rfl ?_
      refine ⟨ne_i, ?_⟩
      show Go 1311 138 0 0 23 [.ref (ad 0 0), .int (nI w1), .int (nI c1), .int 9, .ref (ad 6 b1)] [.int ((mI M) (ad 9 41) (7 * w1 + c1))] (mm M (mI M) (mJ M)) R
      refine go_iret rfl rfl ?_
      refine K _ _ hM.1 rfl (fun R2 h2 => ?_)
      show Go 1311 230 0 0 0 [.ref (ad 10 0), .int (nI w1), .int (nI c1), .int 9, .retAddr 0] [] (mm M (mI M) (mJ M)) R2
      refine go_blk 6 [] (pc' := 8) (vs' := [.ref (ad 10 0), .int (nI w1), .int (nI c1), .int 9, .retAddr 0]) (st' := [.int (nI c1), .int (nI w1), .ref (ad 10 0)]) (M' := mm M (up2 (mI M) (ad 10 0) 0 0) (mJ M)) (ps := [ob (mm M (mI M) (mJ M)) (ad 10 0) 12]) rfl ⟨hM.1, trivial⟩ ?_
      refine go_callV rfl rfl rfl (by omega) rfl (by decide) (by decide) hM.1 ?_
      show Go (1311 - 1) 228 0 0 0 [.ref (ad 10 0), .int (nI w1), .int (nI c1)] [] (mm M (up2 (mI M) (ad 10 0) 0 0) (mJ M)) _
      refine go_blk 3 [] (pc' := 4) (vs' := [.ref (ad 10 0), .int (nI w1), .int (nI c1)]) (st' := [.int 51, .int 0, .int (nI w1)]) (M' := mm M (up2 (mI M) (ad 10 0) 0 0) (mJ M)) (ps := []) rfl trivial ?_
      refine go_callS rfl (by decide) rfl rfl (by omega) rfl (by decide) (by decide) ?_
      refine s_Mo_isInK 0 51 (by decide) (by decide) (fun j33 hl33 hj33 hx33 => ⟨ne_i, ?_⟩) (fun c33 => ⟨ne_i, ?_⟩)
      · -- 1
        show Go (1311 - 1) 228 0 0 7 [.ref (ad 10 0), .int (nI w1), .int (nI c1)] [.int 1] (mm M (up2 (mI M) (ad 10 0) 0 0) (mJ M)) _
        refine go_if rfl (fun (z : (1 : Int32) = 0) => absurd z (show ¬ ((1 : Int32) = 0) from (by decide))) (fun _ => ?_)
        refine go_blk 2 [] (pc' := 12) (vs' := [.ref (ad 10 0), .int (nI w1), .int (nI c1)]) (st' := [.int (nI c1), .ref (ad 10 0)]) (M' := mm M (up2 (mI M) (ad 10 0) 0 0) (mJ M)) (ps := []) rfl trivial ?_
        refine go_callV rfl rfl rfl (by omega) rfl (by decide) (by decide) hM.1 ?_
        refine s_Mo_isCottage hM (((up2_n _ _ (fun z => absurd z.2 (by decide))).trans (rfl)).trans nc2) (Nat.le_trans nc3 (by decide)) (fun j34 hj34 hx34 => ⟨ne_i, ?_⟩) (fun c34 => ⟨ne_i, ?_⟩)
        · -- 1
          show Go (1311 - 1) 228 0 0 15 [.ref (ad 10 0), .int (nI w1), .int (nI c1)] [.int 1] (mm M (up2 (mI M) (ad 10 0) 0 0) (mJ M)) _
          refine go_if rfl (fun (z : (1 : Int32) = 0) => absurd z (show ¬ ((1 : Int32) = 0) from (by decide))) (fun _ => ?_)
          refine go_blk 8 [some (.ref (ad 9 32)), some (.int 1)] (pc' := 29) (vs' := [.ref (ad 10 0), .int (nI w1), .int (nI c1)]) (st' := [.int 1]) (M' := mm M (up2 (mI M) (ad 10 0) 0 0) (mJ M)) (ps := [ob (mm M (up2 (mI M) (ad 10 0) 0 0) (mJ M)) (ad 10 0) 12, mR (mm M (up2 (mI M) (ad 10 0) 0 0) (mJ M)) (ad 10 0) 32 = some (ad 9 32), va_rf (some (ad 9 32)) = .ref (ad 9 32), ob (mm M (up2 (mI M) (ad 10 0) 0 0) (mJ M)) (ad 9 32) 13, 13 = 13 ∨ 13 = 14, vp_in ((7 * (nI w1)) + (nI c1)) (mN (mm M (up2 (mI M) (ad 10 0) 0 0) (mJ M)) (ad 9 32)), (Value.int ((up2 (mI M) (ad 10 0) 0 0) (ad 9 32) (((7 * (nI w1)) + (nI c1)).toNatClampNeg))) = .int 1]) rfl ⟨hM.1, (hM.r 32 13 364), rfl, (hM.o 32 13 364), (by decide), (vp_eq (eq_add (eq_mul (show (7 : Int32) = nI 7 from rfl) rfl) rfl) (vpi (hM.n 32 13 364) (by omega))), congrArg Value.int ((congrArg (fun z => (up2 (mI M) (ad 10 0) 0 0) (ad 9 32) z) (cl_of (eq_add (eq_mul (show (7 : Int32) = nI 7 from rfl) rfl) rfl) (by omega))).trans (((up2_n _ _ (fun z => absurd (hi _ _ _ _ z.1).1 (by decide))).trans (rfl)).trans (jO.1 b1 (by assumption) (by assumption) (7 * w1 + c1) (by assumption)).2.1.2.2)), trivial⟩ ?_
          refine go_if rfl (fun (z : (1 : Int32) = 0) => absurd z (show ¬ ((1 : Int32) = 0) from (by decide))) (fun _ => ?_)
          refine go_blk 2 [] (pc' := 37) (vs' := [.ref (ad 10 0), .int (nI w1), .int (nI c1)]) (st' := [.int 1]) (M' := mm M (up2 (mI M) (ad 10 0) 0 0) (mJ M)) (ps := []) rfl trivial ?_
          refine go_zret rfl rfl (Or.inr rfl) ?_
          refine ⟨ne_i, ?_⟩
          show Go 1311 230 0 0 11 [.ref (ad 10 0), .int (nI w1), .int (nI c1), .int 9, .retAddr 0] [.int 1] (mm M (up2 (mI M) (ad 10 0) 0 0) (mJ M)) R2
          refine go_if rfl (fun _ => ?_) (fun (z : ¬ (¬ (1 : Int32) = 0)) => absurd (show ¬ (1 : Int32) = 0 from (by decide)) z)
          refine go_blk 7 [] (pc' := 25) (vs' := [.ref (ad 10 0), .int (nI w1), .int (nI c1), .int 9, .int ((7 * (nI w1)) + (nI c1))]) (st' := [.int 9]) (M' := mm M (up2 (mI M) (ad 10 0) 0 0) (mJ M)) (ps := []) rfl trivial ?_
          refine go_tsw rfl ?_
          refine ⟨fun (z : (9 : Int32) = 0) => absurd z (by decide), fun _ => ?_⟩
          refine ⟨fun (z : (9 : Int32) = 1) => absurd z (by decide), fun _ => ?_⟩
          refine ⟨fun (z : (9 : Int32) = 2) => absurd z (by decide), fun _ => ?_⟩
          refine ⟨fun (z : (9 : Int32) = 3) => absurd z (by decide), fun _ => ?_⟩
          refine ⟨fun (z : (9 : Int32) = 4) => absurd z (by decide), fun _ => ?_⟩
          refine ⟨fun (z : (9 : Int32) = 5) => absurd z (by decide), fun _ => ?_⟩
          refine ⟨fun (z : (9 : Int32) = 6) => absurd z (by decide), fun _ => ?_⟩
          refine ⟨fun (z : (9 : Int32) = 7) => absurd z (by decide), fun _ => ?_⟩
          refine ⟨fun (z : (9 : Int32) = 8) => absurd z (by decide), fun _ => ?_⟩
          refine ⟨fun _ => ?_, fun z => absurd rfl z⟩
          show Go 1311 230 0 0 151 [.ref (ad 10 0), .int (nI w1), .int (nI c1), .int 9, .int ((7 * (nI w1)) + (nI c1))] [] (mm M (up2 (mI M) (ad 10 0) 0 0) (mJ M)) R2
          refine go_blk 4 [some (.ref (ad 9 41)), some (.int ((mI M) (ad 9 41) (7 * w1 + c1)))] (pc' := 158) (vs' := [.ref (ad 10 0), .int (nI w1), .int (nI c1), .int 9, .int ((7 * (nI w1)) + (nI c1))]) (st' := [.int ((mI M) (ad 9 41) (7 * w1 + c1))]) (M' := mm M (up2 (mI M) (ad 10 0) 0 0) (mJ M)) (ps := [ob (mm M (up2 (mI M) (ad 10 0) 0 0) (mJ M)) (ad 10 0) 12, mR (mm M (up2 (mI M) (ad 10 0) 0 0) (mJ M)) (ad 10 0) 41 = some (ad 9 41), va_rf (some (ad 9 41)) = .ref (ad 9 41), ob (mm M (up2 (mI M) (ad 10 0) 0 0) (mJ M)) (ad 9 41) 15, vp_in ((7 * (nI w1)) + (nI c1)) (mN (mm M (up2 (mI M) (ad 10 0) 0 0) (mJ M)) (ad 9 41)), (Value.int ((up2 (mI M) (ad 10 0) 0 0) (ad 9 41) (((7 * (nI w1)) + (nI c1)).toNatClampNeg))) = .int ((mI M) (ad 9 41) (7 * w1 + c1))]) rfl ⟨hM.1, (hM.r 41 15 364), rfl, (hM.o 41 15 364), (vp_eq (eq_add (eq_mul (show (7 : Int32) = nI 7 from rfl) rfl) rfl) (vpi (hM.n 41 15 364) (by omega))), congrArg Value.int ((congrArg (fun z => (up2 (mI M) (ad 10 0) 0 0) (ad 9 41) z) (cl_of (eq_add (eq_mul (show (7 : Int32) = nI 7 from rfl) rfl) rfl) (by omega))).trans ((up2_n _ _ (fun z => absurd (hi _ _ _ _ z.1).1 (by decide))).trans (rfl))), trivial⟩ ?_
          refine go_iret rfl rfl ?_
          exact h2 _ ⟨hsc, ad, nc, nb, nt, wk, nw, nx, nl, ne, nk, kd, op, rfl, rfl, rfl, hW.thr⟩
        · exact absurd ⟨c1, hc1, rfl⟩ c34
      · exact absurd ⟨w1, (Nat.zero_le _), (Nat.le_of_lt_succ hw1), rfl⟩ c33
    show Go (1311 - 1) 29 0 0 106 [.ref (ad 6 b1), .int a3] [] (mm M (mI M) (mJ M)) _
    refine go_blk 1 [] (pc' := 107) (vs' := [.ref (ad 6 b1), .int a3]) (st' := [.int (-1)]) (M' := mm M (mI M) (mJ M)) (ps := []) rfl trivial ?_
    refine go_iret rfl rfl ?_
    refine ⟨ne_i, ?_⟩
    show Go 1311 138 0 0 23 [.ref (ad 0 0), .int (nI w1), .int (nI c1), .int a3, .ref (ad 6 b1)] [.int (-1)] (mm M (mI M) (mJ M)) R
    refine go_iret rfl rfl ?_
    refine K _ _ hM.1 rfl (fun R2 h2 => ?_)
    show Go 1311 230 0 0 0 [.ref (ad 10 0), .int (nI w1), .int (nI c1), .int a3, .retAddr 0] [] (mm M (mI M) (mJ M)) R2
    refine go_blk 6 [] (pc' := 8) (vs' := [.ref (ad 10 0), .int (nI w1), .int (nI c1), .int a3, .retAddr 0]) (st' := [.int (nI c1), .int (nI w1), .ref (ad 10 0)]) (M' := mm M (up2 (mI M) (ad 10 0) 0 0) (mJ M)) (ps := [ob (mm M (mI M) (mJ M)) (ad 10 0) 12]) rfl ⟨hM.1, trivial⟩ ?_
    refine go_callV rfl rfl rfl (by omega) rfl (by decide) (by decide) hM.1 ?_
    show Go (1311 - 1) 228 0 0 0 [.ref (ad 10 0), .int (nI w1), .int (nI c1)] [] (mm M (up2 (mI M) (ad 10 0) 0 0) (mJ M)) _
    refine go_blk 3 [] (pc' := 4) (vs' := [.ref (ad 10 0), .int (nI w1), .int (nI c1)]) (st' := [.int 51, .int 0, .int (nI w1)]) (M' := mm M (up2 (mI M) (ad 10 0) 0 0) (mJ M)) (ps := []) rfl trivial ?_
    refine go_callS rfl (by decide) rfl rfl (by omega) rfl (by decide) (by decide) ?_
    refine s_Mo_isInK 0 51 (by decide) (by decide) (fun j35 hl35 hj35 hx35 => ⟨ne_i, ?_⟩) (fun c35 => ⟨ne_i, ?_⟩)
    · -- 1
      show Go (1311 - 1) 228 0 0 7 [.ref (ad 10 0), .int (nI w1), .int (nI c1)] [.int 1] (mm M (up2 (mI M) (ad 10 0) 0 0) (mJ M)) _
      refine go_if rfl (fun (z : (1 : Int32) = 0) => absurd z (show ¬ ((1 : Int32) = 0) from (by decide))) (fun _ => ?_)
      refine go_blk 2 [] (pc' := 12) (vs' := [.ref (ad 10 0), .int (nI w1), .int (nI c1)]) (st' := [.int (nI c1), .ref (ad 10 0)]) (M' := mm M (up2 (mI M) (ad 10 0) 0 0) (mJ M)) (ps := []) rfl trivial ?_
      refine go_callV rfl rfl rfl (by omega) rfl (by decide) (by decide) hM.1 ?_
      refine s_Mo_isCottage hM (((up2_n _ _ (fun z => absurd z.2 (by decide))).trans (rfl)).trans nc2) (Nat.le_trans nc3 (by decide)) (fun j36 hj36 hx36 => ⟨ne_i, ?_⟩) (fun c36 => ⟨ne_i, ?_⟩)
      · -- 1
        show Go (1311 - 1) 228 0 0 15 [.ref (ad 10 0), .int (nI w1), .int (nI c1)] [.int 1] (mm M (up2 (mI M) (ad 10 0) 0 0) (mJ M)) _
        refine go_if rfl (fun (z : (1 : Int32) = 0) => absurd z (show ¬ ((1 : Int32) = 0) from (by decide))) (fun _ => ?_)
        refine go_blk 8 [some (.ref (ad 9 32)), some (.int 1)] (pc' := 29) (vs' := [.ref (ad 10 0), .int (nI w1), .int (nI c1)]) (st' := [.int 1]) (M' := mm M (up2 (mI M) (ad 10 0) 0 0) (mJ M)) (ps := [ob (mm M (up2 (mI M) (ad 10 0) 0 0) (mJ M)) (ad 10 0) 12, mR (mm M (up2 (mI M) (ad 10 0) 0 0) (mJ M)) (ad 10 0) 32 = some (ad 9 32), va_rf (some (ad 9 32)) = .ref (ad 9 32), ob (mm M (up2 (mI M) (ad 10 0) 0 0) (mJ M)) (ad 9 32) 13, 13 = 13 ∨ 13 = 14, vp_in ((7 * (nI w1)) + (nI c1)) (mN (mm M (up2 (mI M) (ad 10 0) 0 0) (mJ M)) (ad 9 32)), (Value.int ((up2 (mI M) (ad 10 0) 0 0) (ad 9 32) (((7 * (nI w1)) + (nI c1)).toNatClampNeg))) = .int 1]) rfl ⟨hM.1, (hM.r 32 13 364), rfl, (hM.o 32 13 364), (by decide), (vp_eq (eq_add (eq_mul (show (7 : Int32) = nI 7 from rfl) rfl) rfl) (vpi (hM.n 32 13 364) (by omega))), congrArg Value.int ((congrArg (fun z => (up2 (mI M) (ad 10 0) 0 0) (ad 9 32) z) (cl_of (eq_add (eq_mul (show (7 : Int32) = nI 7 from rfl) rfl) rfl) (by omega))).trans (((up2_n _ _ (fun z => absurd (hi _ _ _ _ z.1).1 (by decide))).trans (rfl)).trans (jO.1 b1 (by assumption) (by assumption) (7 * w1 + c1) (by assumption)).2.1.2.2)), trivial⟩ ?_
        refine go_if rfl (fun (z : (1 : Int32) = 0) => absurd z (show ¬ ((1 : Int32) = 0) from (by decide))) (fun _ => ?_)
        refine go_blk 2 [] (pc' := 37) (vs' := [.ref (ad 10 0), .int (nI w1), .int (nI c1)]) (st' := [.int 1]) (M' := mm M (up2 (mI M) (ad 10 0) 0 0) (mJ M)) (ps := []) rfl trivial ?_
        refine go_zret rfl rfl (Or.inr rfl) ?_
        refine ⟨ne_i, ?_⟩
        show Go 1311 230 0 0 11 [.ref (ad 10 0), .int (nI w1), .int (nI c1), .int a3, .retAddr 0] [.int 1] (mm M (up2 (mI M) (ad 10 0) 0 0) (mJ M)) R2
        refine go_if rfl (fun _ => ?_) (fun (z : ¬ (¬ (1 : Int32) = 0)) => absurd (show ¬ (1 : Int32) = 0 from (by decide)) z)
        refine go_blk 7 [] (pc' := 25) (vs' := [.ref (ad 10 0), .int (nI w1), .int (nI c1), .int a3, .int ((7 * (nI w1)) + (nI c1))]) (st' := [.int a3]) (M' := mm M (up2 (mI M) (ad 10 0) 0 0) (mJ M)) (ps := []) rfl trivial ?_
        refine go_tsw rfl ?_
        refine ⟨fun (z : a3 = 0) => absurd z c2n, fun _ => ?_⟩
        refine ⟨fun (z : a3 = 1) => absurd z c5n, fun _ => ?_⟩
        refine ⟨fun (z : a3 = 2) => absurd z c8n, fun _ => ?_⟩
        refine ⟨fun (z : a3 = 3) => absurd z c11n, fun _ => ?_⟩
        refine ⟨fun (z : a3 = 4) => absurd z c14n, fun _ => ?_⟩
        refine ⟨fun (z : a3 = 5) => absurd z c17n, fun _ => ?_⟩
        refine ⟨fun (z : a3 = 6) => absurd z c20n, fun _ => ?_⟩
        refine ⟨fun (z : a3 = 7) => absurd z c26n, fun _ => ?_⟩
        refine ⟨fun (z : a3 = 8) => absurd z c29n, fun _ => ?_⟩
        refine ⟨fun (z : a3 = 9) => absurd z c32n, fun _ => ?_⟩
        show Go 1311 230 0 0 159 [.ref (ad 10 0), .int (nI w1), .int (nI c1), .int a3, .int ((7 * (nI w1)) + (nI c1))] [] (mm M (up2 (mI M) (ad 10 0) 0 0) (mJ M)) R2
        refine go_blk 1 [] (pc' := 160) (vs' := [.ref (ad 10 0), .int (nI w1), .int (nI c1), .int a3, .int ((7 * (nI w1)) + (nI c1))]) (st' := [.int (-1)]) (M' := mm M (up2 (mI M) (ad 10 0) 0 0) (mJ M)) (ps := []) rfl trivial ?_
        refine go_iret rfl rfl ?_
        exact h2 _ ⟨hsc, ad, nc, nb, nt, wk, nw, nx, nl, ne, nk, kd, op, rfl, rfl, rfl, hW.thr⟩
      · exact absurd ⟨c1, hc1, rfl⟩ c36
    · exact absurd ⟨w1, (Nat.zero_le _), (Nat.le_of_lt_succ hw1), rfl⟩ c35
  · -- ('n',)
    show Go 1311 138 0 0 6 [.ref (ad 0 0), .int a1, .int a2, .int a3, .retAddr 0] [.null] (mm M (mI M) (mJ M)) R
    refine go_blk 2 [] (pc' := 10) (vs' := [.ref (ad 0 0), .int a1, .int a2, .int a3, .null]) (st' := [.null]) (M' := mm M (mI M) (mJ M)) (ps := []) rfl trivial ?_
    refine go_ifnon0 rfl ?_
    refine go_blk 2 [] (pc' := 23) (vs' := [.ref (ad 0 0), .int a1, .int a2, .int a3, .null]) (st' := [.int (-1)]) (M' := mm M (mI M) (mJ M)) (ps := []) rfl trivial ?_
    refine go_iret rfl rfl ?_
    refine K _ _ hM.1 rfl (fun R2 h2 => ?_)
    show Go 1311 230 0 0 0 [.ref (ad 10 0), .int a1, .int a2, .int a3, .retAddr 0] [] (mm M (mI M) (mJ M)) R2
    refine go_blk 6 [] (pc' := 8) (vs' := [.ref (ad 10 0), .int a1, .int a2, .int a3, .retAddr 0]) (st' := [.int a2, .int a1, .ref (ad 10 0)]) (M' := mm M (up2 (mI M) (ad 10 0) 0 0) (mJ M)) (ps := [ob (mm M (mI M) (mJ M)) (ad 10 0) 12]) rfl ⟨hM.1, trivial⟩ ?_
    refine go_callV rfl rfl rfl (by omega) rfl (by decide) (by decide) hM.1 ?_
    show Go (1311 - 1) 228 0 0 0 [.ref (ad 10 0), .int a1, .int a2] [] (mm M (up2 (mI M) (ad 10 0) 0 0) (mJ M)) _
    refine go_blk 3 [] (pc' := 4) (vs' := [.ref (ad 10 0), .int a1, .int a2]) (st' := [.int 51, .int 0, .int a1]) (M' := mm M (up2 (mI M) (ad 10 0) 0 0) (mJ M)) (ps := []) rfl trivial ?_
    refine go_callS rfl (by decide) rfl rfl (by omega) rfl (by decide) (by decide) ?_
    refine s_Mo_isInK 0 51 (by decide) (by decide) (fun j37 hl37 hj37 hx37 => ⟨ne_i, ?_⟩) (fun c37 => ⟨ne_i, ?_⟩)
    · -- 1
      subst hx37
      show Go (1311 - 1) 228 0 0 7 [.ref (ad 10 0), .int (nI j37), .int a2] [.int 1] (mm M (up2 (mI M) (ad 10 0) 0 0) (mJ M)) _
      refine go_if rfl (fun (z : (1 : Int32) = 0) => absurd z (show ¬ ((1 : Int32) = 0) from (by decide))) (fun _ => ?_)
      refine go_blk 2 [] (pc' := 12) (vs' := [.ref (ad 10 0), .int (nI j37), .int a2]) (st' := [.int a2, .ref (ad 10 0)]) (M' := mm M (up2 (mI M) (ad 10 0) 0 0) (mJ M)) (ps := []) rfl trivial ?_
      refine go_callV rfl rfl rfl (by omega) rfl (by decide) (by decide) hM.1 ?_
      refine s_Mo_isCottage hM (((up2_n _ _ (fun z => absurd z.2 (by decide))).trans (rfl)).trans nc2) (Nat.le_trans nc3 (by decide)) (fun j38 hj38 hx38 => ⟨ne_i, ?_⟩) (fun c38 => ⟨ne_i, ?_⟩)
      · -- 1
        subst hx38
        show Go (1311 - 1) 228 0 0 15 [.ref (ad 10 0), .int (nI j37), .int (nI j38)] [.int 1] (mm M (up2 (mI M) (ad 10 0) 0 0) (mJ M)) _
        refine go_if rfl (fun (z : (1 : Int32) = 0) => absurd z (show ¬ ((1 : Int32) = 0) from (by decide))) (fun _ => ?_)
        refine go_blk 8 [some (.ref (ad 9 32)), some (.int 0)] (pc' := 29) (vs' := [.ref (ad 10 0), .int (nI j37), .int (nI j38)]) (st' := [.int 0]) (M' := mm M (up2 (mI M) (ad 10 0) 0 0) (mJ M)) (ps := [ob (mm M (up2 (mI M) (ad 10 0) 0 0) (mJ M)) (ad 10 0) 12, mR (mm M (up2 (mI M) (ad 10 0) 0 0) (mJ M)) (ad 10 0) 32 = some (ad 9 32), va_rf (some (ad 9 32)) = .ref (ad 9 32), ob (mm M (up2 (mI M) (ad 10 0) 0 0) (mJ M)) (ad 9 32) 13, 13 = 13 ∨ 13 = 14, vp_in ((7 * (nI j37)) + (nI j38)) (mN (mm M (up2 (mI M) (ad 10 0) 0 0) (mJ M)) (ad 9 32)), (Value.int ((up2 (mI M) (ad 10 0) 0 0) (ad 9 32) (((7 * (nI j37)) + (nI j38)).toNatClampNeg))) = .int 0]) rfl ⟨hM.1, (hM.r 32 13 364), rfl, (hM.o 32 13 364), (by decide), (vp_eq (eq_add (eq_mul (show (7 : Int32) = nI 7 from rfl) rfl) rfl) (vpi (hM.n 32 13 364) (by omega))), congrArg Value.int ((congrArg (fun z => (up2 (mI M) (ad 10 0) 0 0) (ad 9 32) z) (cl_of (eq_add (eq_mul (show (7 : Int32) = nI 7 from rfl) rfl) rfl) (by omega))).trans (((up2_n _ _ (fun z => absurd (hi _ _ _ _ z.1).1 (by decide))).trans (rfl)).trans (nojob0 jO hn1 (by omega) (by omega) nc3))), trivial⟩ ?_
        refine go_if rfl (fun _ => ?_) (fun (z : ¬ ((0 : Int32) = 0)) => absurd (show (0 : Int32) = 0 from (by decide)) z)
        refine go_blk 1 [] (pc' := 37) (vs' := [.ref (ad 10 0), .int (nI j37), .int (nI j38)]) (st' := [.int 0]) (M' := mm M (up2 (mI M) (ad 10 0) 0 0) (mJ M)) (ps := []) rfl trivial ?_
        refine go_zret rfl rfl (Or.inl rfl) ?_
        refine ⟨ne_i, ?_⟩
        show Go 1311 230 0 0 11 [.ref (ad 10 0), .int (nI j37), .int (nI j38), .int a3, .retAddr 0] [.int 0] (mm M (up2 (mI M) (ad 10 0) 0 0) (mJ M)) R2
        refine go_if rfl (fun (z : ¬ (0 : Int32) = 0) => absurd z (show ¬ (¬ (0 : Int32) = 0) from (by decide))) (fun _ => ?_)
        refine go_blk 1 [] (pc' := 15) (vs' := [.ref (ad 10 0), .int (nI j37), .int (nI j38), .int a3, .retAddr 0]) (st' := [.int (-1)]) (M' := mm M (up2 (mI M) (ad 10 0) 0 0) (mJ M)) (ps := []) rfl trivial ?_
        refine go_iret rfl rfl ?_
        exact h2 _ ⟨hsc, ad, nc, nb, nt, wk, nw, nx, nl, ne, nk, kd, op, rfl, rfl, rfl, hW.thr⟩
      · -- 0
        show Go (1311 - 1) 228 0 0 15 [.ref (ad 10 0), .int (nI j37), .int a2] [.int 0] (mm M (up2 (mI M) (ad 10 0) 0 0) (mJ M)) _
        refine go_if rfl (fun _ => ?_) (fun (z : ¬ ((0 : Int32) = 0)) => absurd (show (0 : Int32) = 0 from (by decide)) z)
        refine go_blk 1 [] (pc' := 37) (vs' := [.ref (ad 10 0), .int (nI j37), .int a2]) (st' := [.int 0]) (M' := mm M (up2 (mI M) (ad 10 0) 0 0) (mJ M)) (ps := []) rfl trivial ?_
        refine go_zret rfl rfl (Or.inl rfl) ?_
        refine ⟨ne_i, ?_⟩
        show Go 1311 230 0 0 11 [.ref (ad 10 0), .int (nI j37), .int a2, .int a3, .retAddr 0] [.int 0] (mm M (up2 (mI M) (ad 10 0) 0 0) (mJ M)) R2
        refine go_if rfl (fun (z : ¬ (0 : Int32) = 0) => absurd z (show ¬ (¬ (0 : Int32) = 0) from (by decide))) (fun _ => ?_)
        refine go_blk 1 [] (pc' := 15) (vs' := [.ref (ad 10 0), .int (nI j37), .int a2, .int a3, .retAddr 0]) (st' := [.int (-1)]) (M' := mm M (up2 (mI M) (ad 10 0) 0 0) (mJ M)) (ps := []) rfl trivial ?_
        refine go_iret rfl rfl ?_
        exact h2 _ ⟨hsc, ad, nc, nb, nt, wk, nw, nx, nl, ne, nk, kd, op, rfl, rfl, rfl, hW.thr⟩
    · -- 0
      show Go (1311 - 1) 228 0 0 7 [.ref (ad 10 0), .int a1, .int a2] [.int 0] (mm M (up2 (mI M) (ad 10 0) 0 0) (mJ M)) _
      refine go_if rfl (fun _ => ?_) (fun (z : ¬ ((0 : Int32) = 0)) => absurd (show (0 : Int32) = 0 from (by decide)) z)
      refine go_blk 1 [] (pc' := 37) (vs' := [.ref (ad 10 0), .int a1, .int a2]) (st' := [.int 0]) (M' := mm M (up2 (mI M) (ad 10 0) 0 0) (mJ M)) (ps := []) rfl trivial ?_
      refine go_zret rfl rfl (Or.inl rfl) ?_
      refine ⟨ne_i, ?_⟩
      show Go 1311 230 0 0 11 [.ref (ad 10 0), .int a1, .int a2, .int a3, .retAddr 0] [.int 0] (mm M (up2 (mI M) (ad 10 0) 0 0) (mJ M)) R2
      refine go_if rfl (fun (z : ¬ (0 : Int32) = 0) => absurd z (show ¬ (¬ (0 : Int32) = 0) from (by decide))) (fun _ => ?_)
      refine go_blk 1 [] (pc' := 15) (vs' := [.ref (ad 10 0), .int a1, .int a2, .int a3, .retAddr 0]) (st' := [.int (-1)]) (M' := mm M (up2 (mI M) (ad 10 0) 0 0) (mJ M)) (ps := []) rfl trivial ?_
      refine go_iret rfl rfl ?_
      exact h2 _ ⟨hsc, ad, nc, nb, nt, wk, nw, nx, nl, ne, nk, kd, op, rfl, rfl, rfl, hW.thr⟩

set_option maxHeartbeats 20000000 in
set_option maxRecDepth 100000 in
theorem op19 {x o u : Nat} {sc : Nat × Nat × (Nat → Int32)} : Op19 (II x o u sc) x o := by
  intro M a1 a2 hI R K
  obtain ⟨hsc, ad, nc, nb, nt, wk, nw, nx, nl, ne, nk, kd, op, rfl, rfl, rfl, hW⟩ := hI
  obtain ⟨hi, ⟨hF, hM, hC, hB, hT, hX⟩, ⟨iS, iC, iB, iR, iL, iT⟩, ⟨jO, jR, jB, jX, jL⟩, kO, kC, kD, kP, kX⟩ := id hW
  obtain ⟨⟨nc1, nc2, nc3⟩, ⟨nb1, nb2, nb3⟩, ⟨nt1, nt2, nt3⟩, ⟨wk1, wk2, wk3⟩, ⟨nw1, nw2, nw3⟩, ⟨op1, op2, op3⟩, ncm, ncm1, ncm2, ncm3⟩ := id iS
  simp only [vw] at nc1 nc2 nb1 nb2 nt1 nt2 wk1 wk2 nw1 nw2 op1 op2 ncm2 ncm3
  obtain ⟨nn, nn3, nn1, nn2, nnb⟩ := jX.2.1
  simp only [vw] at nn1 nn2
  have nl3 := jL.1.2.2.1
  have nx3 := jX.1.2.2
  have nk3 := jB.1.2.2.2.2.1
  have ne3 := jB.1.2.2.2.2.2
  rcases op with _ | _
  · replace op1 : mI M (ad 0 0) 8 = 0 := op1
    replace op2 : mI M (ad 10 0) 21 = 0 := op2
    show Go 1311 135 0 0 0 [.ref (ad 0 0), .int a1, .int a2, .retAddr 0] [] (mm M (mI M) (mJ M)) R
    refine go_blk 2 [] (pc' := 2) (vs' := [.ref (ad 0 0), .int a1, .int a2, .retAddr 0]) (st' := [.int a1, .ref (ad 0 0)]) (M' := mm M (mI M) (mJ M)) (ps := []) rfl trivial ?_
    refine go_callV rfl rfl rfl (by omega) rfl (by decide) (by decide) (hF.o 0) ?_
    refine s_CY_teamAt (by omega) hF hT nt1 nt3 (fun j1 hj1 hx1 => ⟨ne_a, ?_⟩) (fun c1 => ⟨ne_0, ?_⟩)
    · -- ('r', 'ad 3 j1')
      subst hx1
      obtain ⟨rn1, ra1, re1, rr1⟩ := (iT.1 j1 (by assumption)).2.2.2
      show Go 1311 135 0 0 5 [.ref (ad 0 0), .int (nI j1), .int a2, .retAddr 0] [.ref (ad 3 j1)] (mm M (mI M) (mJ M)) R
      refine go_blk 3 [some (.int 0)] (pc' := 10) (vs' := [.ref (ad 0 0), .int (nI j1), .int a2, .ref (ad 3 j1)]) (st' := [.int 0]) (M' := mm M (mI M) (mJ M)) (ps := [ob (mm M (mI M) (mJ M)) (ad 0 0) 11, (Value.int ((mI M) (ad 0 0) 8)) = .int 0]) rfl ⟨(hF.o 0), congrArg Value.int op1, trivial⟩ ?_
      refine go_if rfl (fun _ => ?_) (fun (z : ¬ ((0 : Int32) = 0)) => absurd (show (0 : Int32) = 0 from (by decide)) z)
      refine go_blk 1 [] (pc' := 26) (vs' := [.ref (ad 0 0), .int (nI j1), .int a2, .ref (ad 3 j1)]) (st' := [.int (-1)]) (M' := mm M (mI M) (mJ M)) (ps := []) rfl trivial ?_
      refine go_iret rfl rfl ?_
      refine K _ _ hM.1 rfl (fun R2 h2 => ?_)
      show Go 1311 224 0 0 0 [.ref (ad 10 0), .int (nI j1), .int a2] [] (mm M (mI M) (mJ M)) R2
      refine go_blk 5 [some (.int 0)] (pc' := 9) (vs' := [.ref (ad 10 0), .int (nI j1), .int a2]) (st' := [.int 0]) (M' := mm M (up2 (mI M) (ad 10 0) 0 0) (mJ M)) (ps := [ob (mm M (mI M) (mJ M)) (ad 10 0) 12, ob (mm M (up2 (mI M) (ad 10 0) 0 0) (mJ M)) (ad 10 0) 12, (Value.int ((up2 (mI M) (ad 10 0) 0 0) (ad 10 0) 21)) = .int 0]) rfl ⟨hM.1, hM.1, congrArg Value.int (((up2_n _ _ (fun z => absurd z.2 (by decide))).trans (rfl)).trans op2), trivial⟩ ?_
      refine go_if rfl (fun _ => ?_) (fun (z : ¬ ((0 : Int32) = 0)) => absurd (show (0 : Int32) = 0 from (by decide)) z)
      refine go_blk 1 [] (pc' := 51) (vs' := [.ref (ad 10 0), .int (nI j1), .int a2]) (st' := [.int (-1)]) (M' := mm M (up2 (mI M) (ad 10 0) 0 0) (mJ M)) (ps := []) rfl trivial ?_
      refine go_iret rfl rfl ?_
      exact h2 _ ⟨hsc, ad, nc, nb, nt, wk, nw, nx, nl, ne, nk, kd, false, rfl, rfl, rfl, hW.thr⟩
    · -- ('n',)
      show Go 1311 135 0 0 5 [.ref (ad 0 0), .int a1, .int a2, .retAddr 0] [.null] (mm M (mI M) (mJ M)) R
      refine go_blk 3 [some (.int 0)] (pc' := 10) (vs' := [.ref (ad 0 0), .int a1, .int a2, .null]) (st' := [.int 0]) (M' := mm M (mI M) (mJ M)) (ps := [ob (mm M (mI M) (mJ M)) (ad 0 0) 11, (Value.int ((mI M) (ad 0 0) 8)) = .int 0]) rfl ⟨(hF.o 0), congrArg Value.int op1, trivial⟩ ?_
      refine go_if rfl (fun _ => ?_) (fun (z : ¬ ((0 : Int32) = 0)) => absurd (show (0 : Int32) = 0 from (by decide)) z)
      refine go_blk 1 [] (pc' := 26) (vs' := [.ref (ad 0 0), .int a1, .int a2, .null]) (st' := [.int (-1)]) (M' := mm M (mI M) (mJ M)) (ps := []) rfl trivial ?_
      refine go_iret rfl rfl ?_
      refine K _ _ hM.1 rfl (fun R2 h2 => ?_)
      show Go 1311 224 0 0 0 [.ref (ad 10 0), .int a1, .int a2] [] (mm M (mI M) (mJ M)) R2
      refine go_blk 5 [some (.int 0)] (pc' := 9) (vs' := [.ref (ad 10 0), .int a1, .int a2]) (st' := [.int 0]) (M' := mm M (up2 (mI M) (ad 10 0) 0 0) (mJ M)) (ps := [ob (mm M (mI M) (mJ M)) (ad 10 0) 12, ob (mm M (up2 (mI M) (ad 10 0) 0 0) (mJ M)) (ad 10 0) 12, (Value.int ((up2 (mI M) (ad 10 0) 0 0) (ad 10 0) 21)) = .int 0]) rfl ⟨hM.1, hM.1, congrArg Value.int (((up2_n _ _ (fun z => absurd z.2 (by decide))).trans (rfl)).trans op2), trivial⟩ ?_
      refine go_if rfl (fun _ => ?_) (fun (z : ¬ ((0 : Int32) = 0)) => absurd (show (0 : Int32) = 0 from (by decide)) z)
      refine go_blk 1 [] (pc' := 51) (vs' := [.ref (ad 10 0), .int a1, .int a2]) (st' := [.int (-1)]) (M' := mm M (up2 (mI M) (ad 10 0) 0 0) (mJ M)) (ps := []) rfl trivial ?_
      refine go_iret rfl rfl ?_
      exact h2 _ ⟨hsc, ad, nc, nb, nt, wk, nw, nx, nl, ne, nk, kd, false, rfl, rfl, rfl, hW.thr⟩
  · replace op1 : mI M (ad 0 0) 8 = 1 := op1
    replace op2 : mI M (ad 10 0) 21 = 1 := op2
    replace op3 : wk < 52 := op3 rfl
    show Go 1311 135 0 0 0 [.ref (ad 0 0), .int a1, .int a2, .retAddr 0] [] (mm M (mI M) (mJ M)) R
    refine go_blk 2 [] (pc' := 2) (vs' := [.ref (ad 0 0), .int a1, .int a2, .retAddr 0]) (st' := [.int a1, .ref (ad 0 0)]) (M' := mm M (mI M) (mJ M)) (ps := []) rfl trivial ?_
    refine go_callV rfl rfl rfl (by omega) rfl (by decide) (by decide) (hF.o 0) ?_
    refine s_CY_teamAt (by omega) hF hT nt1 nt3 (fun j1 hj1 hx1 => ⟨ne_a, ?_⟩) (fun c1 => ⟨ne_0, ?_⟩)
    · -- ('r', 'ad 3 j1')
      subst hx1
      obtain ⟨rn1, ra1, re1, rr1⟩ := (iT.1 j1 (by assumption)).2.2.2
      show Go 1311 135 0 0 5 [.ref (ad 0 0), .int (nI j1), .int a2, .retAddr 0] [.ref (ad 3 j1)] (mm M (mI M) (mJ M)) R
      refine go_blk 3 [some (.int 1)] (pc' := 10) (vs' := [.ref (ad 0 0), .int (nI j1), .int a2, .ref (ad 3 j1)]) (st' := [.int 1]) (M' := mm M (mI M) (mJ M)) (ps := [ob (mm M (mI M) (mJ M)) (ad 0 0) 11, (Value.int ((mI M) (ad 0 0) 8)) = .int 1]) rfl ⟨(hF.o 0), congrArg Value.int op1, trivial⟩ ?_
      refine go_if rfl (fun (z : (1 : Int32) = 0) => absurd z (show ¬ ((1 : Int32) = 0) from (by decide))) (fun _ => ?_)
      refine go_blk 1 [] (pc' := 14) (vs' := [.ref (ad 0 0), .int (nI j1), .int a2, .ref (ad 3 j1)]) (st' := [.ref (ad 3 j1)]) (M' := mm M (mI M) (mJ M)) (ps := []) rfl trivial ?_
      refine go_ifnull1 rfl ?_
      refine go_blk 2 [] (pc' := 19) (vs' := [.ref (ad 0 0), .int (nI j1), .int a2, .ref (ad 3 j1)]) (st' := [.int a2, .ref (ad 3 j1)]) (M' := mm M (mI M) (mJ M)) (ps := []) rfl trivial ?_
      refine go_callV rfl rfl rfl (by omega) rfl (by decide) (by decide) (hT j1 (by assumption)).2.1 ?_
      show Go (1311 - 1) 73 0 0 0 [.ref (ad 3 j1), .int a2] [] (mm M (mI M) (mJ M)) _
      refine go_blk 1 [] (pc' := 1) (vs' := [.ref (ad 3 j1), .int a2]) (st' := [.int a2]) (M' := mm M (mI M) (mJ M)) (ps := []) rfl trivial ?_
      refine go_if rfl (fun (c2 : a2 < 0) => ?_) (fun (c2 : ¬ (a2 < 0)) => ?_)
      · -- a2 < 0
        refine go_blk 1 [] (pc' := 22) (vs' := [.ref (ad 3 j1), .int a2]) (st' := [.int (-1)]) (M' := mm M (mI M) (mJ M)) (ps := []) rfl trivial ?_
        refine go_iret rfl rfl ?_
        refine ⟨ne_i, ?_⟩
        show Go 1311 135 0 0 22 [.ref (ad 0 0), .int (nI j1), .int a2, .ref (ad 3 j1)] [.int (-1)] (mm M (mI M) (mJ M)) R
        refine go_blk 1 [] (pc' := 26) (vs' := [.ref (ad 0 0), .int (nI j1), .int a2, .ref (ad 3 j1)]) (st' := [.int (-1)]) (M' := mm M (mI M) (mJ M)) (ps := []) rfl trivial ?_
        refine go_iret rfl rfl ?_
        refine K _ _ hM.1 rfl (fun R2 h2 => ?_)
        show Go 1311 224 0 0 0 [.ref (ad 10 0), .int (nI j1), .int a2] [] (mm M (mI M) (mJ M)) R2
        refine go_blk 5 [some (.int 1)] (pc' := 9) (vs' := [.ref (ad 10 0), .int (nI j1), .int a2]) (st' := [.int 1]) (M' := mm M (up2 (mI M) (ad 10 0) 0 0) (mJ M)) (ps := [ob (mm M (mI M) (mJ M)) (ad 10 0) 12, ob (mm M (up2 (mI M) (ad 10 0) 0 0) (mJ M)) (ad 10 0) 12, (Value.int ((up2 (mI M) (ad 10 0) 0 0) (ad 10 0) 21)) = .int 1]) rfl ⟨hM.1, hM.1, congrArg Value.int (((up2_n _ _ (fun z => absurd z.2 (by decide))).trans (rfl)).trans op2), trivial⟩ ?_
        refine go_if rfl (fun (z : (1 : Int32) = 0) => absurd z (show ¬ ((1 : Int32) = 0) from (by decide))) (fun _ => ?_)
        refine go_blk 2 [] (pc' := 14) (vs' := [.ref (ad 10 0), .int (nI j1), .int a2]) (st' := [.int (nI j1), .ref (ad 10 0)]) (M' := mm M (up2 (mI M) (ad 10 0) 0 0) (mJ M)) (ps := []) rfl trivial ?_
        refine go_callV rfl rfl rfl (by omega) rfl (by decide) (by decide) hM.1 ?_
        refine s_Mo_isTeam hM (((up2_n _ _ (fun z => absurd z.2 (by decide))).trans (rfl)).trans nt2) (Nat.le_trans nt3 (by decide)) (fun j3 hj3 hx3 => ⟨ne_i, ?_⟩) (fun c3 => ⟨ne_i, ?_⟩)
        · -- 1
          show Go 1311 224 0 0 17 [.ref (ad 10 0), .int (nI j1), .int a2] [.int 1] (mm M (up2 (mI M) (ad 10 0) 0 0) (mJ M)) R2
          refine go_if rfl (fun (z : (1 : Int32) = 0) => absurd z (show ¬ ((1 : Int32) = 0) from (by decide))) (fun _ => ?_)
          refine go_blk 8 [some (.ref (ad 9 51)), some (.int (nI rn1))] (pc' := 30) (vs' := [.ref (ad 10 0), .int (nI j1), .int a2]) (st' := [.int ((nI rn1) - 1), .int 0, .int a2]) (M' := mm M (up2 (mI M) (ad 10 0) 0 0) (mJ M)) (ps := [ob (mm M (up2 (mI M) (ad 10 0) 0 0) (mJ M)) (ad 10 0) 12, mR (mm M (up2 (mI M) (ad 10 0) 0 0) (mJ M)) (ad 10 0) 51 = some (ad 9 51), va_rf (some (ad 9 51)) = .ref (ad 9 51), ob (mm M (up2 (mI M) (ad 10 0) 0 0) (mJ M)) (ad 9 51) 15, vp_in (nI j1) (mN (mm M (up2 (mI M) (ad 10 0) 0 0) (mJ M)) (ad 9 51)), (Value.int ((up2 (mI M) (ad 10 0) 0 0) (ad 9 51) ((nI j1).toNatClampNeg))) = .int (nI rn1)]) rfl ⟨hM.1, (hM.r 51 15 3), rfl, (hM.o 51 15 3), (vpi (hM.n 51 15 3) (by omega)), congrArg Value.int ((congrArg (fun z => (up2 (mI M) (ad 10 0) 0 0) (ad 9 51) z) (nI_clamp (by omega))).trans (((up2_n _ _ (fun z => absurd (hi _ _ _ _ z.1).1 (by decide))).trans (rfl)).trans re1)), trivial⟩ ?_
          refine go_callS rfl (by decide) rfl rfl (by omega) rfl (by decide) (by decide) ?_
          refine s_Mo_isInP rn1 (by omega) (fun j4 hj4 hx4 => ⟨ne_i, ?_⟩) (fun c4 => ⟨ne_i, ?_⟩)
          · exact absurd ⟨j4, hj4, hx4⟩ (nolt1 (by omega) (Int32.not_le.mpr c2))
          · -- 0
            show Go 1311 224 0 0 33 [.ref (ad 10 0), .int (nI j1), .int a2] [.int 0] (mm M (up2 (mI M) (ad 10 0) 0 0) (mJ M)) R2
            refine go_if rfl (fun _ => ?_) (fun (z : ¬ ((0 : Int32) = 0)) => absurd (show (0 : Int32) = 0 from (by decide)) z)
            refine go_blk 1 [] (pc' := 51) (vs' := [.ref (ad 10 0), .int (nI j1), .int a2]) (st' := [.int (-1)]) (M' := mm M (up2 (mI M) (ad 10 0) 0 0) (mJ M)) (ps := []) rfl trivial ?_
            refine go_iret rfl rfl ?_
            exact h2 _ ⟨hsc, ad, nc, nb, nt, wk, nw, nx, nl, ne, nk, kd, true, rfl, rfl, rfl, hW.thr⟩
        · exact absurd ⟨j1, hj1, rfl⟩ c3
      · -- ¬ (a2 < 0)
        refine go_blk 3 [some (.int (nI rn1))] (pc' := 9) (vs' := [.ref (ad 3 j1), .int a2]) (st' := [.int (nI rn1), .int a2]) (M' := mm M (mI M) (mJ M)) (ps := [ob (mm M (mI M) (mJ M)) (ad 3 j1) 8, (Value.int ((mI M) (ad 3 j1) 4)) = .int (nI rn1)]) rfl ⟨(hT j1 (by assumption)).2.1, congrArg Value.int ((iT.1 j1 (by assumption)).1.2.2.1.trans re1), trivial⟩ ?_
        refine go_icmp rfl (fun (c5 : nI rn1 ≤ a2) => ?_) (fun (c5 : ¬ (nI rn1 ≤ a2)) => ?_)
        · -- nI rn1 ≤ a2
          refine go_blk 1 [] (pc' := 22) (vs' := [.ref (ad 3 j1), .int a2]) (st' := [.int (-1)]) (M' := mm M (mI M) (mJ M)) (ps := []) rfl trivial ?_
          refine go_iret rfl rfl ?_
          refine ⟨ne_i, ?_⟩
          show Go 1311 135 0 0 22 [.ref (ad 0 0), .int (nI j1), .int a2, .ref (ad 3 j1)] [.int (-1)] (mm M (mI M) (mJ M)) R
          refine go_blk 1 [] (pc' := 26) (vs' := [.ref (ad 0 0), .int (nI j1), .int a2, .ref (ad 3 j1)]) (st' := [.int (-1)]) (M' := mm M (mI M) (mJ M)) (ps := []) rfl trivial ?_
          refine go_iret rfl rfl ?_
          refine K _ _ hM.1 rfl (fun R2 h2 => ?_)
          show Go 1311 224 0 0 0 [.ref (ad 10 0), .int (nI j1), .int a2] [] (mm M (mI M) (mJ M)) R2
          refine go_blk 5 [some (.int 1)] (pc' := 9) (vs' := [.ref (ad 10 0), .int (nI j1), .int a2]) (st' := [.int 1]) (M' := mm M (up2 (mI M) (ad 10 0) 0 0) (mJ M)) (ps := [ob (mm M (mI M) (mJ M)) (ad 10 0) 12, ob (mm M (up2 (mI M) (ad 10 0) 0 0) (mJ M)) (ad 10 0) 12, (Value.int ((up2 (mI M) (ad 10 0) 0 0) (ad 10 0) 21)) = .int 1]) rfl ⟨hM.1, hM.1, congrArg Value.int (((up2_n _ _ (fun z => absurd z.2 (by decide))).trans (rfl)).trans op2), trivial⟩ ?_
          refine go_if rfl (fun (z : (1 : Int32) = 0) => absurd z (show ¬ ((1 : Int32) = 0) from (by decide))) (fun _ => ?_)
          refine go_blk 2 [] (pc' := 14) (vs' := [.ref (ad 10 0), .int (nI j1), .int a2]) (st' := [.int (nI j1), .ref (ad 10 0)]) (M' := mm M (up2 (mI M) (ad 10 0) 0 0) (mJ M)) (ps := []) rfl trivial ?_
          refine go_callV rfl rfl rfl (by omega) rfl (by decide) (by decide) hM.1 ?_
          refine s_Mo_isTeam hM (((up2_n _ _ (fun z => absurd z.2 (by decide))).trans (rfl)).trans nt2) (Nat.le_trans nt3 (by decide)) (fun j6 hj6 hx6 => ⟨ne_i, ?_⟩) (fun c6 => ⟨ne_i, ?_⟩)
          · -- 1
            show Go 1311 224 0 0 17 [.ref (ad 10 0), .int (nI j1), .int a2] [.int 1] (mm M (up2 (mI M) (ad 10 0) 0 0) (mJ M)) R2
            refine go_if rfl (fun (z : (1 : Int32) = 0) => absurd z (show ¬ ((1 : Int32) = 0) from (by decide))) (fun _ => ?_)
            refine go_blk 8 [some (.ref (ad 9 51)), some (.int (nI rn1))] (pc' := 30) (vs' := [.ref (ad 10 0), .int (nI j1), .int a2]) (st' := [.int ((nI rn1) - 1), .int 0, .int a2]) (M' := mm M (up2 (mI M) (ad 10 0) 0 0) (mJ M)) (ps := [ob (mm M (up2 (mI M) (ad 10 0) 0 0) (mJ M)) (ad 10 0) 12, mR (mm M (up2 (mI M) (ad 10 0) 0 0) (mJ M)) (ad 10 0) 51 = some (ad 9 51), va_rf (some (ad 9 51)) = .ref (ad 9 51), ob (mm M (up2 (mI M) (ad 10 0) 0 0) (mJ M)) (ad 9 51) 15, vp_in (nI j1) (mN (mm M (up2 (mI M) (ad 10 0) 0 0) (mJ M)) (ad 9 51)), (Value.int ((up2 (mI M) (ad 10 0) 0 0) (ad 9 51) ((nI j1).toNatClampNeg))) = .int (nI rn1)]) rfl ⟨hM.1, (hM.r 51 15 3), rfl, (hM.o 51 15 3), (vpi (hM.n 51 15 3) (by omega)), congrArg Value.int ((congrArg (fun z => (up2 (mI M) (ad 10 0) 0 0) (ad 9 51) z) (nI_clamp (by omega))).trans (((up2_n _ _ (fun z => absurd (hi _ _ _ _ z.1).1 (by decide))).trans (rfl)).trans re1)), trivial⟩ ?_
            refine go_callS rfl (by decide) rfl rfl (by omega) rfl (by decide) (by decide) ?_
            refine s_Mo_isInP rn1 (by omega) (fun j7 hj7 hx7 => ⟨ne_i, ?_⟩) (fun c7 => ⟨ne_i, ?_⟩)
            · exact absurd ⟨j7, hj7, hx7⟩ (nolt2 (by omega) (Int32.not_lt.mpr c5))
            · -- 0
              show Go 1311 224 0 0 33 [.ref (ad 10 0), .int (nI j1), .int a2] [.int 0] (mm M (up2 (mI M) (ad 10 0) 0 0) (mJ M)) R2
              refine go_if rfl (fun _ => ?_) (fun (z : ¬ ((0 : Int32) = 0)) => absurd (show (0 : Int32) = 0 from (by decide)) z)
              refine go_blk 1 [] (pc' := 51) (vs' := [.ref (ad 10 0), .int (nI j1), .int a2]) (st' := [.int (-1)]) (M' := mm M (up2 (mI M) (ad 10 0) 0 0) (mJ M)) (ps := []) rfl trivial ?_
              refine go_iret rfl rfl ?_
              exact h2 _ ⟨hsc, ad, nc, nb, nt, wk, nw, nx, nl, ne, nk, kd, true, rfl, rfl, rfl, hW.thr⟩
          · exact absurd ⟨j1, hj1, rfl⟩ c6
        · -- ¬ (nI rn1 ≤ a2)
          obtain ⟨k8, hk8, rfl⟩ := (in_lt2 (n := rn1) (by omega)).mp ⟨(Int32.not_lt.mp c2), (Int32.not_le.mp c5)⟩
          show Go (1311 - 1) 73 0 0 12 [.ref (ad 3 j1), .int (nI k8)] [] (mm M (mI M) (mJ M)) _
          refine go_blk 5 [some (.ref (ad 5 j1)), some (.int ((mI M) (ad 9 50) (7 * j1 + k8)))] (pc' := 22) (vs' := [.ref (ad 3 j1), .int (nI k8)]) (st' := [.int ((mI M) (ad 9 50) (7 * j1 + k8))]) (M' := mm M (mI M) (mJ M)) (ps := [ob (mm M (mI M) (mJ M)) (ad 3 j1) 8, mR (mm M (mI M) (mJ M)) (ad 3 j1) 3 = some (ad 5 j1), va_rf (some (ad 5 j1)) = .ref (ad 5 j1), ob (mm M (mI M) (mJ M)) (ad 5 j1) 15, vp_in (nI k8) (mN (mm M (mI M) (mJ M)) (ad 5 j1)), (Value.int ((mI M) (ad 5 j1) ((nI k8).toNatClampNeg))) = .int ((mI M) (ad 9 50) (7 * j1 + k8))]) rfl ⟨(hT j1 (by assumption)).2.1, (hT j1 (by assumption)).2.2.2.1, rfl, (hT j1 (by assumption)).2.2.2.2.1, (vpi (hT j1 (by assumption)).2.2.2.2.2 (by omega)), congrArg Value.int ((congrArg (fun z => (mI M) (ad 5 j1) z) (nI_clamp (by omega))).trans (rr1 k8 (by omega)).1), trivial⟩ ?_
          refine go_iret rfl rfl ?_
          refine ⟨ne_i, ?_⟩
          show Go 1311 135 0 0 22 [.ref (ad 0 0), .int (nI j1), .int (nI k8), .ref (ad 3 j1)] [.int ((mI M) (ad 9 50) (7 * j1 + k8))] (mm M (mI M) (mJ M)) R
          refine go_blk 1 [] (pc' := 26) (vs' := [.ref (ad 0 0), .int (nI j1), .int (nI k8), .ref (ad 3 j1)]) (st' := [.int ((mI M) (ad 9 50) (7 * j1 + k8))]) (M' := mm M (mI M) (mJ M)) (ps := []) rfl trivial ?_
          refine go_iret rfl rfl ?_
          refine K _ _ hM.1 rfl (fun R2 h2 => ?_)
          show Go 1311 224 0 0 0 [.ref (ad 10 0), .int (nI j1), .int (nI k8)] [] (mm M (mI M) (mJ M)) R2
          refine go_blk 5 [some (.int 1)] (pc' := 9) (vs' := [.ref (ad 10 0), .int (nI j1), .int (nI k8)]) (st' := [.int 1]) (M' := mm M (up2 (mI M) (ad 10 0) 0 0) (mJ M)) (ps := [ob (mm M (mI M) (mJ M)) (ad 10 0) 12, ob (mm M (up2 (mI M) (ad 10 0) 0 0) (mJ M)) (ad 10 0) 12, (Value.int ((up2 (mI M) (ad 10 0) 0 0) (ad 10 0) 21)) = .int 1]) rfl ⟨hM.1, hM.1, congrArg Value.int (((up2_n _ _ (fun z => absurd z.2 (by decide))).trans (rfl)).trans op2), trivial⟩ ?_
          refine go_if rfl (fun (z : (1 : Int32) = 0) => absurd z (show ¬ ((1 : Int32) = 0) from (by decide))) (fun _ => ?_)
          refine go_blk 2 [] (pc' := 14) (vs' := [.ref (ad 10 0), .int (nI j1), .int (nI k8)]) (st' := [.int (nI j1), .ref (ad 10 0)]) (M' := mm M (up2 (mI M) (ad 10 0) 0 0) (mJ M)) (ps := []) rfl trivial ?_
          refine go_callV rfl rfl rfl (by omega) rfl (by decide) (by decide) hM.1 ?_
          refine s_Mo_isTeam hM (((up2_n _ _ (fun z => absurd z.2 (by decide))).trans (rfl)).trans nt2) (Nat.le_trans nt3 (by decide)) (fun j9 hj9 hx9 => ⟨ne_i, ?_⟩) (fun c9 => ⟨ne_i, ?_⟩)
          · -- 1
            show Go 1311 224 0 0 17 [.ref (ad 10 0), .int (nI j1), .int (nI k8)] [.int 1] (mm M (up2 (mI M) (ad 10 0) 0 0) (mJ M)) R2
            refine go_if rfl (fun (z : (1 : Int32) = 0) => absurd z (show ¬ ((1 : Int32) = 0) from (by decide))) (fun _ => ?_)
            refine go_blk 8 [some (.ref (ad 9 51)), some (.int (nI rn1))] (pc' := 30) (vs' := [.ref (ad 10 0), .int (nI j1), .int (nI k8)]) (st' := [.int ((nI rn1) - 1), .int 0, .int (nI k8)]) (M' := mm M (up2 (mI M) (ad 10 0) 0 0) (mJ M)) (ps := [ob (mm M (up2 (mI M) (ad 10 0) 0 0) (mJ M)) (ad 10 0) 12, mR (mm M (up2 (mI M) (ad 10 0) 0 0) (mJ M)) (ad 10 0) 51 = some (ad 9 51), va_rf (some (ad 9 51)) = .ref (ad 9 51), ob (mm M (up2 (mI M) (ad 10 0) 0 0) (mJ M)) (ad 9 51) 15, vp_in (nI j1) (mN (mm M (up2 (mI M) (ad 10 0) 0 0) (mJ M)) (ad 9 51)), (Value.int ((up2 (mI M) (ad 10 0) 0 0) (ad 9 51) ((nI j1).toNatClampNeg))) = .int (nI rn1)]) rfl ⟨hM.1, (hM.r 51 15 3), rfl, (hM.o 51 15 3), (vpi (hM.n 51 15 3) (by omega)), congrArg Value.int ((congrArg (fun z => (up2 (mI M) (ad 10 0) 0 0) (ad 9 51) z) (nI_clamp (by omega))).trans (((up2_n _ _ (fun z => absurd (hi _ _ _ _ z.1).1 (by decide))).trans (rfl)).trans re1)), trivial⟩ ?_
            refine go_callS rfl (by decide) rfl rfl (by omega) rfl (by decide) (by decide) ?_
            refine s_Mo_isInP rn1 (by omega) (fun j10 hj10 hx10 => ⟨ne_i, ?_⟩) (fun c10 => ⟨ne_i, ?_⟩)
            · -- 1
              show Go 1311 224 0 0 33 [.ref (ad 10 0), .int (nI j1), .int (nI k8)] [.int 1] (mm M (up2 (mI M) (ad 10 0) 0 0) (mJ M)) R2
              refine go_if rfl (fun (z : (1 : Int32) = 0) => absurd z (show ¬ ((1 : Int32) = 0) from (by decide))) (fun _ => ?_)
              refine go_blk 9 [some (.ref (ad 9 50)), some (.int ((mI M) (ad 9 50) (7 * j1 + k8)))] (pc' := 51) (vs' := [.ref (ad 10 0), .int (nI j1), .int (nI k8)]) (st' := [.int ((mI M) (ad 9 50) (7 * j1 + k8))]) (M' := mm M (up2 (mI M) (ad 10 0) 0 0) (mJ M)) (ps := [ob (mm M (up2 (mI M) (ad 10 0) 0 0) (mJ M)) (ad 10 0) 12, mR (mm M (up2 (mI M) (ad 10 0) 0 0) (mJ M)) (ad 10 0) 50 = some (ad 9 50), va_rf (some (ad 9 50)) = .ref (ad 9 50), ob (mm M (up2 (mI M) (ad 10 0) 0 0) (mJ M)) (ad 9 50) 15, vp_in ((7 * (nI j1)) + (nI k8)) (mN (mm M (up2 (mI M) (ad 10 0) 0 0) (mJ M)) (ad 9 50)), (Value.int ((up2 (mI M) (ad 10 0) 0 0) (ad 9 50) (((7 * (nI j1)) + (nI k8)).toNatClampNeg))) = .int ((mI M) (ad 9 50) (7 * j1 + k8))]) rfl ⟨hM.1, (hM.r 50 15 21), rfl, (hM.o 50 15 21), (vp_eq (eq_add (eq_mul (show (7 : Int32) = nI 7 from rfl) rfl) rfl) (vpi (hM.n 50 15 21) (by omega))), congrArg Value.int ((congrArg (fun z => (up2 (mI M) (ad 10 0) 0 0) (ad 9 50) z) (cl_of (eq_add (eq_mul (show (7 : Int32) = nI 7 from rfl) rfl) rfl) (by omega))).trans ((up2_n _ _ (fun z => absurd (hi _ _ _ _ z.1).1 (by decide))).trans (rfl))), trivial⟩ ?_
              refine go_iret rfl rfl ?_
              exact h2 _ ⟨hsc, ad, nc, nb, nt, wk, nw, nx, nl, ne, nk, kd, true, rfl, rfl, rfl, hW.thr⟩
            · exact absurd ⟨k8, hk8, rfl⟩ c10
          · exact absurd ⟨j1, hj1, rfl⟩ c9
    · -- ('n',)
      show Go 1311 135 0 0 5 [.ref (ad 0 0), .int a1, .int a2, .retAddr 0] [.null] (mm M (mI M) (mJ M)) R
      refine go_blk 3 [some (.int 1)] (pc' := 10) (vs' := [.ref (ad 0 0), .int a1, .int a2, .null]) (st' := [.int 1]) (M' := mm M (mI M) (mJ M)) (ps := [ob (mm M (mI M) (mJ M)) (ad 0 0) 11, (Value.int ((mI M) (ad 0 0) 8)) = .int 1]) rfl ⟨(hF.o 0), congrArg Value.int op1, trivial⟩ ?_
      refine go_if rfl (fun (z : (1 : Int32) = 0) => absurd z (show ¬ ((1 : Int32) = 0) from (by decide))) (fun _ => ?_)
      refine go_blk 1 [] (pc' := 14) (vs' := [.ref (ad 0 0), .int a1, .int a2, .null]) (st' := [.null]) (M' := mm M (mI M) (mJ M)) (ps := []) rfl trivial ?_
      refine go_ifnull0 rfl ?_
      refine go_blk 1 [] (pc' := 26) (vs' := [.ref (ad 0 0), .int a1, .int a2, .null]) (st' := [.int (-1)]) (M' := mm M (mI M) (mJ M)) (ps := []) rfl trivial ?_
      refine go_iret rfl rfl ?_
      refine K _ _ hM.1 rfl (fun R2 h2 => ?_)
      show Go 1311 224 0 0 0 [.ref (ad 10 0), .int a1, .int a2] [] (mm M (mI M) (mJ M)) R2
      refine go_blk 5 [some (.int 1)] (pc' := 9) (vs' := [.ref (ad 10 0), .int a1, .int a2]) (st' := [.int 1]) (M' := mm M (up2 (mI M) (ad 10 0) 0 0) (mJ M)) (ps := [ob (mm M (mI M) (mJ M)) (ad 10 0) 12, ob (mm M (up2 (mI M) (ad 10 0) 0 0) (mJ M)) (ad 10 0) 12, (Value.int ((up2 (mI M) (ad 10 0) 0 0) (ad 10 0) 21)) = .int 1]) rfl ⟨hM.1, hM.1, congrArg Value.int (((up2_n _ _ (fun z => absurd z.2 (by decide))).trans (rfl)).trans op2), trivial⟩ ?_
      refine go_if rfl (fun (z : (1 : Int32) = 0) => absurd z (show ¬ ((1 : Int32) = 0) from (by decide))) (fun _ => ?_)
      refine go_blk 2 [] (pc' := 14) (vs' := [.ref (ad 10 0), .int a1, .int a2]) (st' := [.int a1, .ref (ad 10 0)]) (M' := mm M (up2 (mI M) (ad 10 0) 0 0) (mJ M)) (ps := []) rfl trivial ?_
      refine go_callV rfl rfl rfl (by omega) rfl (by decide) (by decide) hM.1 ?_
      refine s_Mo_isTeam hM (((up2_n _ _ (fun z => absurd z.2 (by decide))).trans (rfl)).trans nt2) (Nat.le_trans nt3 (by decide)) (fun j11 hj11 hx11 => ⟨ne_i, ?_⟩) (fun c11 => ⟨ne_i, ?_⟩)
      · exact absurd ⟨j11, hj11, hx11⟩ c1
      · -- 0
        show Go 1311 224 0 0 17 [.ref (ad 10 0), .int a1, .int a2] [.int 0] (mm M (up2 (mI M) (ad 10 0) 0 0) (mJ M)) R2
        refine go_if rfl (fun _ => ?_) (fun (z : ¬ ((0 : Int32) = 0)) => absurd (show (0 : Int32) = 0 from (by decide)) z)
        refine go_blk 1 [] (pc' := 51) (vs' := [.ref (ad 10 0), .int a1, .int a2]) (st' := [.int (-1)]) (M' := mm M (up2 (mI M) (ad 10 0) 0 0) (mJ M)) (ps := []) rfl trivial ?_
        refine go_iret rfl rfl ?_
        exact h2 _ ⟨hsc, ad, nc, nb, nt, wk, nw, nx, nl, ne, nk, kd, true, rfl, rfl, rfl, hW.thr⟩

set_option maxHeartbeats 20000000 in
set_option maxRecDepth 100000 in
theorem op32 {x o u : Nat} {sc : Nat × Nat × (Nat → Int32)} : Op32 (II x o u sc) x o := by
  intro M a1 a2 hI R K
  obtain ⟨hsc, ad, nc, nb, nt, wk, nw, nx, nl, ne, nk, kd, op, rfl, rfl, rfl, hW⟩ := hI
  obtain ⟨hi, ⟨hF, hM, hC, hB, hT, hX⟩, ⟨iS, iC, iB, iR, iL, iT⟩, ⟨jO, jR, jB, jX, jL⟩, kO, kC, kD, kP, kX⟩ := id hW
  obtain ⟨⟨nc1, nc2, nc3⟩, ⟨nb1, nb2, nb3⟩, ⟨nt1, nt2, nt3⟩, ⟨wk1, wk2, wk3⟩, ⟨nw1, nw2, nw3⟩, ⟨op1, op2, op3⟩, ncm, ncm1, ncm2, ncm3⟩ := id iS
  simp only [vw] at nc1 nc2 nb1 nb2 nt1 nt2 wk1 wk2 nw1 nw2 op1 op2 ncm2 ncm3
  obtain ⟨nn, nn3, nn1, nn2, nnb⟩ := jX.2.1
  simp only [vw] at nn1 nn2
  have nl3 := jL.1.2.2.1
  have nx3 := jX.1.2.2
  have nk3 := jB.1.2.2.2.2.1
  have ne3 := jB.1.2.2.2.2.2
  show Go 1311 148 0 0 0 [.ref (ad 0 0), .int a1, .int a2] [] (mm M (mI M) (mJ M)) R
  refine go_blk 4 [some (.ref (ad 0 10))] (pc' := 6) (vs' := [.ref (ad 0 0), .int a1, .int a2]) (st' := [.int a2, .int a1, .ref (ad 0 10)]) (M' := mm M (mI M) (mJ M)) (ps := [ob (mm M (mI M) (mJ M)) (ad 0 0) 11, mR (mm M (mI M) (mJ M)) (ad 0 0) 17 = some (ad 0 10), va_rf (some (ad 0 10)) = .ref (ad 0 10)]) rfl ⟨(hF.o 0), (hF.r 0 17 10), rfl, trivial⟩ ?_
  refine go_callV rfl rfl rfl (by omega) rfl (by decide) (by decide) (hF.o 10) ?_
  show Go (1311 - 1) 114 0 0 0 [.ref (ad 0 10), .int a1, .int a2] [] (mm M (mI M) (mJ M)) _
  refine go_blk 1 [] (pc' := 1) (vs' := [.ref (ad 0 10), .int a1, .int a2]) (st' := [.int a1]) (M' := mm M (mI M) (mJ M)) (ps := []) rfl trivial ?_
  refine go_if rfl (fun (c1 : a1 < 0) => ?_) (fun (c1 : ¬ (a1 < 0)) => ?_)
  · -- a1 < 0
    refine go_blk 1 [] (pc' := 14) (vs' := [.ref (ad 0 10), .int a1, .int a2]) (st' := [.int (-1000000)]) (M' := mm M (mI M) (mJ M)) (ps := []) rfl trivial ?_
    refine go_iret rfl rfl ?_
    refine ⟨ne_i, ?_⟩
    show Go 1311 148 0 0 9 [.ref (ad 0 0), .int a1, .int a2] [.int (-1000000)] (mm M (mI M) (mJ M)) R
    refine go_iret rfl rfl ?_
    refine K _ _ hM.1 rfl (fun R2 h2 => ?_)
    show Go 1311 236 0 0 0 [.ref (ad 10 0), .int a1, .int a2] [] (mm M (mI M) (mJ M)) R2
    refine go_blk 9 [some (.int (nI nl))] (pc' := 13) (vs' := [.ref (ad 10 0), .int a1, .int a2]) (st' := [.int ((nI nl) - 1), .int 0, .int a1]) (M' := mm M (up2 (mI M) (ad 10 0) 0 0) (mJ M)) (ps := [ob (mm M (mI M) (mJ M)) (ad 10 0) 12, ob (mm M (up2 (mI M) (ad 10 0) 0 0) (mJ M)) (ad 10 0) 12, (Value.int ((up2 (mI M) (ad 10 0) 0 0) (ad 10 0) 73)) = .int (nI nl)]) rfl ⟨hM.1, hM.1, congrArg Value.int (((up2_n _ _ (fun z => absurd z.2 (by decide))).trans (rfl)).trans jL.1.2.1), trivial⟩ ?_
    refine go_callS rfl (by decide) rfl rfl (by omega) rfl (by decide) (by decide) ?_
    refine s_Mo_isInP nl (by omega) (fun j2 hj2 hx2 => ⟨ne_i, ?_⟩) (fun c2 => ⟨ne_i, ?_⟩)
    · exact absurd ⟨j2, hj2, hx2⟩ (nolt1 (by omega) (Int32.not_le.mpr c1))
    · -- 0
      show Go 1311 236 0 0 16 [.ref (ad 10 0), .int a1, .int a2] [.int 0] (mm M (up2 (mI M) (ad 10 0) 0 0) (mJ M)) R2
      refine go_if rfl (fun _ => ?_) (fun (z : ¬ ((0 : Int32) = 0)) => absurd (show (0 : Int32) = 0 from (by decide)) z)
      refine go_blk 1 [] (pc' := 44) (vs' := [.ref (ad 10 0), .int a1, .int a2]) (st' := [.int (-1000000)]) (M' := mm M (up2 (mI M) (ad 10 0) 0 0) (mJ M)) (ps := []) rfl trivial ?_
      refine go_iret rfl rfl ?_
      exact h2 _ ⟨hsc, ad, nc, nb, nt, wk, nw, nx, nl, ne, nk, kd, op, rfl, rfl, rfl, hW.thr⟩
  · -- ¬ (a1 < 0)
    refine go_blk 3 [some (.int (nI nl))] (pc' := 9) (vs' := [.ref (ad 0 10), .int a1, .int a2]) (st' := [.int (nI nl), .int a1]) (M' := mm M (mI M) (mJ M)) (ps := [ob (mm M (mI M) (mJ M)) (ad 0 10) 10, (Value.int ((mI M) (ad 0 10) 6)) = .int (nI nl)]) rfl ⟨(hF.o 10), congrArg Value.int jL.1.1, trivial⟩ ?_
    refine go_icmp rfl (fun (c3 : a1 < nI nl) => ?_) (fun (c3 : ¬ (a1 < nI nl)) => ?_)
    · -- a1 < nI nl
      obtain ⟨k4, hk4, rfl⟩ := (in_lt2 (n := nl) (by omega)).mp ⟨(Int32.not_lt.mp c1), c3⟩
      show Go (1311 - 1) 114 0 0 15 [.ref (ad 0 10), .int (nI k4), .int a2] [] (mm M (mI M) (mJ M)) _
      refine go_blk 1 [] (pc' := 16) (vs' := [.ref (ad 0 10), .int (nI k4), .int a2]) (st' := [.int a2]) (M' := mm M (mI M) (mJ M)) (ps := []) rfl trivial ?_
      refine go_tsw rfl ?_
      refine ⟨fun (c5 : a2 = 0) => ?_, fun (c5n : ¬ (a2 = 0)) => ?_⟩
      · -- a2 = 0
        subst c5
        show Go (1311 - 1) 114 0 0 52 [.ref (ad 0 10), .int (nI k4), .int 0] [] (mm M (mI M) (mJ M)) _
        refine go_blk 4 [some (.ref (ad 0 37)), some (.int ((mI M) (ad 9 72) (5 * k4 + 0)))] (pc' := 58) (vs' := [.ref (ad 0 10), .int (nI k4), .int 0]) (st' := [.int ((mI M) (ad 9 72) (5 * k4 + 0))]) (M' := mm M (mI M) (mJ M)) (ps := [ob (mm M (mI M) (mJ M)) (ad 0 10) 10, mR (mm M (mI M) (mJ M)) (ad 0 10) 3 = some (ad 0 37), va_rf (some (ad 0 37)) = .ref (ad 0 37), ob (mm M (mI M) (mJ M)) (ad 0 37) 15, vp_in (nI k4) (mN (mm M (mI M) (mJ M)) (ad 0 37)), (Value.int ((mI M) (ad 0 37) ((nI k4).toNatClampNeg))) = .int ((mI M) (ad 9 72) (5 * k4 + 0))]) rfl ⟨(hF.o 10), (hF.r 10 3 37), rfl, (hF.o 37), (vpi (hF.n 37) (show _ < 3000 by omega)), congrArg Value.int ((congrArg (fun z => (mI M) (ad 0 37) z) (nI_clamp (by omega))).trans (jL.2 k4 (by assumption)).1), trivial⟩ ?_
        refine go_iret rfl rfl ?_
        refine ⟨ne_i, ?_⟩
        show Go 1311 148 0 0 9 [.ref (ad 0 0), .int (nI k4), .int 0] [.int ((mI M) (ad 9 72) (5 * k4 + 0))] (mm M (mI M) (mJ M)) R
        refine go_iret rfl rfl ?_
        refine K _ _ hM.1 rfl (fun R2 h2 => ?_)
        show Go 1311 236 0 0 0 [.ref (ad 10 0), .int (nI k4), .int 0] [] (mm M (mI M) (mJ M)) R2
        refine go_blk 9 [some (.int (nI nl))] (pc' := 13) (vs' := [.ref (ad 10 0), .int (nI k4), .int 0]) (st' := [.int ((nI nl) - 1), .int 0, .int (nI k4)]) (M' := mm M (up2 (mI M) (ad 10 0) 0 0) (mJ M)) (ps := [ob (mm M (mI M) (mJ M)) (ad 10 0) 12, ob (mm M (up2 (mI M) (ad 10 0) 0 0) (mJ M)) (ad 10 0) 12, (Value.int ((up2 (mI M) (ad 10 0) 0 0) (ad 10 0) 73)) = .int (nI nl)]) rfl ⟨hM.1, hM.1, congrArg Value.int (((up2_n _ _ (fun z => absurd z.2 (by decide))).trans (rfl)).trans jL.1.2.1), trivial⟩ ?_
        refine go_callS rfl (by decide) rfl rfl (by omega) rfl (by decide) (by decide) ?_
        refine s_Mo_isInP nl (by omega) (fun j6 hj6 hx6 => ⟨ne_i, ?_⟩) (fun c6 => ⟨ne_i, ?_⟩)
        · -- 1
          show Go 1311 236 0 0 16 [.ref (ad 10 0), .int (nI k4), .int 0] [.int 1] (mm M (up2 (mI M) (ad 10 0) 0 0) (mJ M)) R2
          refine go_if rfl (fun (z : (1 : Int32) = 0) => absurd z (show ¬ ((1 : Int32) = 0) from (by decide))) (fun _ => ?_)
          refine go_blk 3 [] (pc' := 22) (vs' := [.ref (ad 10 0), .int (nI k4), .int 0]) (st' := [.int 4, .int 0, .int 0]) (M' := mm M (up2 (mI M) (ad 10 0) 0 0) (mJ M)) (ps := []) rfl trivial ?_
          refine go_callS rfl (by decide) rfl rfl (by omega) rfl (by decide) (by decide) ?_
          refine s_Mo_isInK 0 4 (by decide) (by decide) (fun j7 hl7 hj7 hx7 => ⟨ne_i, ?_⟩) (fun c7 => ⟨ne_i, ?_⟩)
          · -- 1
            show Go 1311 236 0 0 25 [.ref (ad 10 0), .int (nI k4), .int 0] [.int 1] (mm M (up2 (mI M) (ad 10 0) 0 0) (mJ M)) R2
            refine go_if rfl (fun (z : (1 : Int32) = 0) => absurd z (show ¬ ((1 : Int32) = 0) from (by decide))) (fun _ => ?_)
            refine go_blk 9 [some (.ref (ad 9 72)), some (.int ((mI M) (ad 9 72) (5 * k4 + 0)))] (pc' := 44) (vs' := [.ref (ad 10 0), .int (nI k4), .int 0]) (st' := [.int ((mI M) (ad 9 72) (5 * k4 + 0))]) (M' := mm M (up2 (mI M) (ad 10 0) 0 0) (mJ M)) (ps := [ob (mm M (up2 (mI M) (ad 10 0) 0 0) (mJ M)) (ad 10 0) 12, mR (mm M (up2 (mI M) (ad 10 0) 0 0) (mJ M)) (ad 10 0) 72 = some (ad 9 72), va_rf (some (ad 9 72)) = .ref (ad 9 72), ob (mm M (up2 (mI M) (ad 10 0) 0 0) (mJ M)) (ad 9 72) 15, vp_in ((5 * (nI k4)) + 0) (mN (mm M (up2 (mI M) (ad 10 0) 0 0) (mJ M)) (ad 9 72)), (Value.int ((up2 (mI M) (ad 10 0) 0 0) (ad 9 72) (((5 * (nI k4)) + 0).toNatClampNeg))) = .int ((mI M) (ad 9 72) (5 * k4 + 0))]) rfl ⟨hM.1, (hM.r 72 15 15000), rfl, (hM.o 72 15 15000), (vp_eq (eq_add (eq_mul (show (5 : Int32) = nI 5 from rfl) rfl) (show (0 : Int32) = nI 0 from rfl)) (vpi (hM.n 72 15 15000) (by omega))), congrArg Value.int ((congrArg (fun z => (up2 (mI M) (ad 10 0) 0 0) (ad 9 72) z) (cl_of (eq_add (eq_mul (show (5 : Int32) = nI 5 from rfl) rfl) (show (0 : Int32) = nI 0 from rfl)) (by omega))).trans ((up2_n _ _ (fun z => absurd (hi _ _ _ _ z.1).1 (by decide))).trans (rfl))), trivial⟩ ?_
            refine go_iret rfl rfl ?_
            exact h2 _ ⟨hsc, ad, nc, nb, nt, wk, nw, nx, nl, ne, nk, kd, op, rfl, rfl, rfl, hW.thr⟩
          · exact absurd ⟨0, by decide, by decide, rfl⟩ c7
        · exact absurd ⟨k4, hk4, rfl⟩ c6
      refine ⟨fun (c8 : a2 = 1) => ?_, fun (c8n : ¬ (a2 = 1)) => ?_⟩
      · -- a2 = 1
        subst c8
        show Go (1311 - 1) 114 0 0 59 [.ref (ad 0 10), .int (nI k4), .int 1] [] (mm M (mI M) (mJ M)) _
        refine go_blk 3 [some (.ref (ad 0 38))] (pc' := 64) (vs' := [.ref (ad 0 10), .int (nI k4), .int 1]) (st' := [.int (nI k4), .ref (ad 0 38)]) (M' := mm M (mI M) (mJ M)) (ps := [ob (mm M (mI M) (mJ M)) (ad 0 10) 10, mR (mm M (mI M) (mJ M)) (ad 0 10) 4 = some (ad 0 38), va_rf (some (ad 0 38)) = .ref (ad 0 38)]) rfl ⟨(hF.o 10), (hF.r 10 4 38), rfl, trivial⟩ ?_
        obtain ⟨l19, l29, b9, hb9, hJ9, hr9, l59, l69, l79, l89⟩ := jL.2 k4 (by assumption)
        show Go (1311 - 1) 114 0 0 64 [.ref (ad 0 10), .int (nI k4), .int 1] [.int (nI k4), .ref (ad 0 38)] (mm M (mI M) (mJ M)) _
        refine go_blk 2 [some (.ref (ad 6 b9)), some (.int ((mI M) (ad 9 72) (5 * k4 + 1)))] (pc' := 68) (vs' := [.ref (ad 0 10), .int (nI k4), .int 1]) (st' := [.int ((mI M) (ad 9 72) (5 * k4 + 1))]) (M' := mm M (mI M) (mJ M)) (ps := [ob (mm M (mI M) (mJ M)) (ad 0 38) 19, 17 ≤ 19 ∧ 19 < 22, vp_in (nI k4) (mN (mm M (mI M) (mJ M)) (ad 0 38)), mR (mm M (mI M) (mJ M)) (ad 0 38) ((nI k4).toNatClampNeg) = some (ad 6 b9), va_rf (some (ad 6 b9)) = .ref (ad 6 b9), ob (mm M (mI M) (mJ M)) (ad 6 b9) 3, (Value.int ((mI M) (ad 6 b9) 2)) = .int ((mI M) (ad 9 72) (5 * k4 + 1))]) rfl ⟨(hF.o 38), (by decide), (vpi (hF.n 38) (show _ < 3000 by omega)), (cl_rf rfl (by omega) hr9), rfl, ((jR.1 b9 (by assumption)).1 (by assumption)).2.1, congrArg Value.int l59, trivial⟩ ?_
        refine go_iret rfl rfl ?_
        refine ⟨ne_i, ?_⟩
        show Go 1311 148 0 0 9 [.ref (ad 0 0), .int (nI k4), .int 1] [.int ((mI M) (ad 9 72) (5 * k4 + 1))] (mm M (mI M) (mJ M)) R
        refine go_iret rfl rfl ?_
        refine K _ _ hM.1 rfl (fun R2 h2 => ?_)
        show Go 1311 236 0 0 0 [.ref (ad 10 0), .int (nI k4), .int 1] [] (mm M (mI M) (mJ M)) R2
        refine go_blk 9 [some (.int (nI nl))] (pc' := 13) (vs' := [.ref (ad 10 0), .int (nI k4), .int 1]) (st' := [.int ((nI nl) - 1), .int 0, .int (nI k4)]) (M' := mm M (up2 (mI M) (ad 10 0) 0 0) (mJ M)) (ps := [ob (mm M (mI M) (mJ M)) (ad 10 0) 12, ob (mm M (up2 (mI M) (ad 10 0) 0 0) (mJ M)) (ad 10 0) 12, (Value.int ((up2 (mI M) (ad 10 0) 0 0) (ad 10 0) 73)) = .int (nI nl)]) rfl ⟨hM.1, hM.1, congrArg Value.int (((up2_n _ _ (fun z => absurd z.2 (by decide))).trans (rfl)).trans jL.1.2.1), trivial⟩ ?_
        refine go_callS rfl (by decide) rfl rfl (by omega) rfl (by decide) (by decide) ?_
        refine s_Mo_isInP nl (by omega) (fun j10 hj10 hx10 => ⟨ne_i, ?_⟩) (fun c10 => ⟨ne_i, ?_⟩)
        · -- 1
          show Go 1311 236 0 0 16 [.ref (ad 10 0), .int (nI k4), .int 1] [.int 1] (mm M (up2 (mI M) (ad 10 0) 0 0) (mJ M)) R2
          refine go_if rfl (fun (z : (1 : Int32) = 0) => absurd z (show ¬ ((1 : Int32) = 0) from (by decide))) (fun _ => ?_)
          refine go_blk 3 [] (pc' := 22) (vs' := [.ref (ad 10 0), .int (nI k4), .int 1]) (st' := [.int 4, .int 0, .int 1]) (M' := mm M (up2 (mI M) (ad 10 0) 0 0) (mJ M)) (ps := []) rfl trivial ?_
          refine go_callS rfl (by decide) rfl rfl (by omega) rfl (by decide) (by decide) ?_
          refine s_Mo_isInK 0 4 (by decide) (by decide) (fun j11 hl11 hj11 hx11 => ⟨ne_i, ?_⟩) (fun c11 => ⟨ne_i, ?_⟩)
          · -- 1
            show Go 1311 236 0 0 25 [.ref (ad 10 0), .int (nI k4), .int 1] [.int 1] (mm M (up2 (mI M) (ad 10 0) 0 0) (mJ M)) R2
            refine go_if rfl (fun (z : (1 : Int32) = 0) => absurd z (show ¬ ((1 : Int32) = 0) from (by decide))) (fun _ => ?_)
            refine go_blk 9 [some (.ref (ad 9 72)), some (.int ((mI M) (ad 9 72) (5 * k4 + 1)))] (pc' := 44) (vs' := [.ref (ad 10 0), .int (nI k4), .int 1]) (st' := [.int ((mI M) (ad 9 72) (5 * k4 + 1))]) (M' := mm M (up2 (mI M) (ad 10 0) 0 0) (mJ M)) (ps := [ob (mm M (up2 (mI M) (ad 10 0) 0 0) (mJ M)) (ad 10 0) 12, mR (mm M (up2 (mI M) (ad 10 0) 0 0) (mJ M)) (ad 10 0) 72 = some (ad 9 72), va_rf (some (ad 9 72)) = .ref (ad 9 72), ob (mm M (up2 (mI M) (ad 10 0) 0 0) (mJ M)) (ad 9 72) 15, vp_in ((5 * (nI k4)) + 1) (mN (mm M (up2 (mI M) (ad 10 0) 0 0) (mJ M)) (ad 9 72)), (Value.int ((up2 (mI M) (ad 10 0) 0 0) (ad 9 72) (((5 * (nI k4)) + 1).toNatClampNeg))) = .int ((mI M) (ad 9 72) (5 * k4 + 1))]) rfl ⟨hM.1, (hM.r 72 15 15000), rfl, (hM.o 72 15 15000), (vp_eq (eq_add (eq_mul (show (5 : Int32) = nI 5 from rfl) rfl) (show (1 : Int32) = nI 1 from rfl)) (vpi (hM.n 72 15 15000) (by omega))), congrArg Value.int ((congrArg (fun z => (up2 (mI M) (ad 10 0) 0 0) (ad 9 72) z) (cl_of (eq_add (eq_mul (show (5 : Int32) = nI 5 from rfl) rfl) (show (1 : Int32) = nI 1 from rfl)) (by omega))).trans ((up2_n _ _ (fun z => absurd (hi _ _ _ _ z.1).1 (by decide))).trans (rfl))), trivial⟩ ?_
            refine go_iret rfl rfl ?_
            exact h2 _ ⟨hsc, ad, nc, nb, nt, wk, nw, nx, nl, ne, nk, kd, op, rfl, rfl, rfl, hW.thr⟩
          · exact absurd ⟨1, by decide, by decide, rfl⟩ c11
        · exact absurd ⟨k4, hk4, rfl⟩ c10
      refine ⟨fun (c12 : a2 = 2) => ?_, fun (c12n : ¬ (a2 = 2)) => ?_⟩
      · -- a2 = 2
        subst c12
        show Go (1311 - 1) 114 0 0 69 [.ref (ad 0 10), .int (nI k4), .int 2] [] (mm M (mI M) (mJ M)) _
        refine go_blk 3 [some (.ref (ad 0 38))] (pc' := 74) (vs' := [.ref (ad 0 10), .int (nI k4), .int 2]) (st' := [.int (nI k4), .ref (ad 0 38)]) (M' := mm M (mI M) (mJ M)) (ps := [ob (mm M (mI M) (mJ M)) (ad 0 10) 10, mR (mm M (mI M) (mJ M)) (ad 0 10) 4 = some (ad 0 38), va_rf (some (ad 0 38)) = .ref (ad 0 38)]) rfl ⟨(hF.o 10), (hF.r 10 4 38), rfl, trivial⟩ ?_
        obtain ⟨l113, l213, b13, hb13, hJ13, hr13, l513, l613, l713, l813⟩ := jL.2 k4 (by assumption)
        show Go (1311 - 1) 114 0 0 74 [.ref (ad 0 10), .int (nI k4), .int 2] [.int (nI k4), .ref (ad 0 38)] (mm M (mI M) (mJ M)) _
        refine go_blk 2 [some (.ref (ad 6 b13)), some (.int ((mI M) (ad 9 72) (5 * k4 + 2)))] (pc' := 78) (vs' := [.ref (ad 0 10), .int (nI k4), .int 2]) (st' := [.int ((mI M) (ad 9 72) (5 * k4 + 2))]) (M' := mm M (mI M) (mJ M)) (ps := [ob (mm M (mI M) (mJ M)) (ad 0 38) 19, 17 ≤ 19 ∧ 19 < 22, vp_in (nI k4) (mN (mm M (mI M) (mJ M)) (ad 0 38)), mR (mm M (mI M) (mJ M)) (ad 0 38) ((nI k4).toNatClampNeg) = some (ad 6 b13), va_rf (some (ad 6 b13)) = .ref (ad 6 b13), ob (mm M (mI M) (mJ M)) (ad 6 b13) 3, (Value.int ((mI M) (ad 6 b13) 1)) = .int ((mI M) (ad 9 72) (5 * k4 + 2))]) rfl ⟨(hF.o 38), (by decide), (vpi (hF.n 38) (show _ < 3000 by omega)), (cl_rf rfl (by omega) hr13), rfl, ((jR.1 b13 (by assumption)).1 (by assumption)).2.1, congrArg Value.int l613, trivial⟩ ?_
        refine go_iret rfl rfl ?_
        refine ⟨ne_i, ?_⟩
        show Go 1311 148 0 0 9 [.ref (ad 0 0), .int (nI k4), .int 2] [.int ((mI M) (ad 9 72) (5 * k4 + 2))] (mm M (mI M) (mJ M)) R
        refine go_iret rfl rfl ?_
        refine K _ _ hM.1 rfl (fun R2 h2 => ?_)
        show Go 1311 236 0 0 0 [.ref (ad 10 0), .int (nI k4), .int 2] [] (mm M (mI M) (mJ M)) R2
        refine go_blk 9 [some (.int (nI nl))] (pc' := 13) (vs' := [.ref (ad 10 0), .int (nI k4), .int 2]) (st' := [.int ((nI nl) - 1), .int 0, .int (nI k4)]) (M' := mm M (up2 (mI M) (ad 10 0) 0 0) (mJ M)) (ps := [ob (mm M (mI M) (mJ M)) (ad 10 0) 12, ob (mm M (up2 (mI M) (ad 10 0) 0 0) (mJ M)) (ad 10 0) 12, (Value.int ((up2 (mI M) (ad 10 0) 0 0) (ad 10 0) 73)) = .int (nI nl)]) rfl ⟨hM.1, hM.1, congrArg Value.int (((up2_n _ _ (fun z => absurd z.2 (by decide))).trans (rfl)).trans jL.1.2.1), trivial⟩ ?_
        refine go_callS rfl (by decide) rfl rfl (by omega) rfl (by decide) (by decide) ?_
        refine s_Mo_isInP nl (by omega) (fun j14 hj14 hx14 => ⟨ne_i, ?_⟩) (fun c14 => ⟨ne_i, ?_⟩)
        · -- 1
          show Go 1311 236 0 0 16 [.ref (ad 10 0), .int (nI k4), .int 2] [.int 1] (mm M (up2 (mI M) (ad 10 0) 0 0) (mJ M)) R2
          refine go_if rfl (fun (z : (1 : Int32) = 0) => absurd z (show ¬ ((1 : Int32) = 0) from (by decide))) (fun _ => ?_)
          refine go_blk 3 [] (pc' := 22) (vs' := [.ref (ad 10 0), .int (nI k4), .int 2]) (st' := [.int 4, .int 0, .int 2]) (M' := mm M (up2 (mI M) (ad 10 0) 0 0) (mJ M)) (ps := []) rfl trivial ?_
          refine go_callS rfl (by decide) rfl rfl (by omega) rfl (by decide) (by decide) ?_
          refine s_Mo_isInK 0 4 (by decide) (by decide) (fun j15 hl15 hj15 hx15 => ⟨ne_i, ?_⟩) (fun c15 => ⟨ne_i, ?_⟩)
          · -- 1
            show Go 1311 236 0 0 25 [.ref (ad 10 0), .int (nI k4), .int 2] [.int 1] (mm M (up2 (mI M) (ad 10 0) 0 0) (mJ M)) R2
            refine go_if rfl (fun (z : (1 : Int32) = 0) => absurd z (show ¬ ((1 : Int32) = 0) from (by decide))) (fun _ => ?_)
            refine go_blk 9 [some (.ref (ad 9 72)), some (.int ((mI M) (ad 9 72) (5 * k4 + 2)))] (pc' := 44) (vs' := [.ref (ad 10 0), .int (nI k4), .int 2]) (st' := [.int ((mI M) (ad 9 72) (5 * k4 + 2))]) (M' := mm M (up2 (mI M) (ad 10 0) 0 0) (mJ M)) (ps := [ob (mm M (up2 (mI M) (ad 10 0) 0 0) (mJ M)) (ad 10 0) 12, mR (mm M (up2 (mI M) (ad 10 0) 0 0) (mJ M)) (ad 10 0) 72 = some (ad 9 72), va_rf (some (ad 9 72)) = .ref (ad 9 72), ob (mm M (up2 (mI M) (ad 10 0) 0 0) (mJ M)) (ad 9 72) 15, vp_in ((5 * (nI k4)) + 2) (mN (mm M (up2 (mI M) (ad 10 0) 0 0) (mJ M)) (ad 9 72)), (Value.int ((up2 (mI M) (ad 10 0) 0 0) (ad 9 72) (((5 * (nI k4)) + 2).toNatClampNeg))) = .int ((mI M) (ad 9 72) (5 * k4 + 2))]) rfl ⟨hM.1, (hM.r 72 15 15000), rfl, (hM.o 72 15 15000), (vp_eq (eq_add (eq_mul (show (5 : Int32) = nI 5 from rfl) rfl) (show (2 : Int32) = nI 2 from rfl)) (vpi (hM.n 72 15 15000) (by omega))), congrArg Value.int ((congrArg (fun z => (up2 (mI M) (ad 10 0) 0 0) (ad 9 72) z) (cl_of (eq_add (eq_mul (show (5 : Int32) = nI 5 from rfl) rfl) (show (2 : Int32) = nI 2 from rfl)) (by omega))).trans ((up2_n _ _ (fun z => absurd (hi _ _ _ _ z.1).1 (by decide))).trans (rfl))), trivial⟩ ?_
            refine go_iret rfl rfl ?_
            exact h2 _ ⟨hsc, ad, nc, nb, nt, wk, nw, nx, nl, ne, nk, kd, op, rfl, rfl, rfl, hW.thr⟩
          · exact absurd ⟨2, by decide, by decide, rfl⟩ c15
        · exact absurd ⟨k4, hk4, rfl⟩ c14
      refine ⟨fun (c16 : a2 = 3) => ?_, fun (c16n : ¬ (a2 = 3)) => ?_⟩
      · -- a2 = 3
        subst c16
        show Go (1311 - 1) 114 0 0 79 [.ref (ad 0 10), .int (nI k4), .int 3] [] (mm M (mI M) (mJ M)) _
        refine go_blk 3 [some (.ref (ad 0 38))] (pc' := 84) (vs' := [.ref (ad 0 10), .int (nI k4), .int 3]) (st' := [.int (nI k4), .ref (ad 0 38)]) (M' := mm M (mI M) (mJ M)) (ps := [ob (mm M (mI M) (mJ M)) (ad 0 10) 10, mR (mm M (mI M) (mJ M)) (ad 0 10) 4 = some (ad 0 38), va_rf (some (ad 0 38)) = .ref (ad 0 38)]) rfl ⟨(hF.o 10), (hF.r 10 4 38), rfl, trivial⟩ ?_
        obtain ⟨l117, l217, b17, hb17, hJ17, hr17, l517, l617, l717, l817⟩ := jL.2 k4 (by assumption)
        show Go (1311 - 1) 114 0 0 84 [.ref (ad 0 10), .int (nI k4), .int 3] [.int (nI k4), .ref (ad 0 38)] (mm M (mI M) (mJ M)) _
        refine go_blk 2 [some (.ref (ad 6 b17)), some (.int ((mI M) (ad 9 72) (5 * k4 + 3)))] (pc' := 88) (vs' := [.ref (ad 0 10), .int (nI k4), .int 3]) (st' := [.int ((mI M) (ad 9 72) (5 * k4 + 3))]) (M' := mm M (mI M) (mJ M)) (ps := [ob (mm M (mI M) (mJ M)) (ad 0 38) 19, 17 ≤ 19 ∧ 19 < 22, vp_in (nI k4) (mN (mm M (mI M) (mJ M)) (ad 0 38)), mR (mm M (mI M) (mJ M)) (ad 0 38) ((nI k4).toNatClampNeg) = some (ad 6 b17), va_rf (some (ad 6 b17)) = .ref (ad 6 b17), ob (mm M (mI M) (mJ M)) (ad 6 b17) 3, (Value.int ((mI M) (ad 6 b17) 9)) = .int ((mI M) (ad 9 72) (5 * k4 + 3))]) rfl ⟨(hF.o 38), (by decide), (vpi (hF.n 38) (show _ < 3000 by omega)), (cl_rf rfl (by omega) hr17), rfl, ((jR.1 b17 (by assumption)).1 (by assumption)).2.1, congrArg Value.int l717, trivial⟩ ?_
        refine go_iret rfl rfl ?_
        refine ⟨ne_i, ?_⟩
        show Go 1311 148 0 0 9 [.ref (ad 0 0), .int (nI k4), .int 3] [.int ((mI M) (ad 9 72) (5 * k4 + 3))] (mm M (mI M) (mJ M)) R
        refine go_iret rfl rfl ?_
        refine K _ _ hM.1 rfl (fun R2 h2 => ?_)
        show Go 1311 236 0 0 0 [.ref (ad 10 0), .int (nI k4), .int 3] [] (mm M (mI M) (mJ M)) R2
        refine go_blk 9 [some (.int (nI nl))] (pc' := 13) (vs' := [.ref (ad 10 0), .int (nI k4), .int 3]) (st' := [.int ((nI nl) - 1), .int 0, .int (nI k4)]) (M' := mm M (up2 (mI M) (ad 10 0) 0 0) (mJ M)) (ps := [ob (mm M (mI M) (mJ M)) (ad 10 0) 12, ob (mm M (up2 (mI M) (ad 10 0) 0 0) (mJ M)) (ad 10 0) 12, (Value.int ((up2 (mI M) (ad 10 0) 0 0) (ad 10 0) 73)) = .int (nI nl)]) rfl ⟨hM.1, hM.1, congrArg Value.int (((up2_n _ _ (fun z => absurd z.2 (by decide))).trans (rfl)).trans jL.1.2.1), trivial⟩ ?_
        refine go_callS rfl (by decide) rfl rfl (by omega) rfl (by decide) (by decide) ?_
        refine s_Mo_isInP nl (by omega) (fun j18 hj18 hx18 => ⟨ne_i, ?_⟩) (fun c18 => ⟨ne_i, ?_⟩)
        · -- 1
          show Go 1311 236 0 0 16 [.ref (ad 10 0), .int (nI k4), .int 3] [.int 1] (mm M (up2 (mI M) (ad 10 0) 0 0) (mJ M)) R2
          refine go_if rfl (fun (z : (1 : Int32) = 0) => absurd z (show ¬ ((1 : Int32) = 0) from (by decide))) (fun _ => ?_)
          refine go_blk 3 [] (pc' := 22) (vs' := [.ref (ad 10 0), .int (nI k4), .int 3]) (st' := [.int 4, .int 0, .int 3]) (M' := mm M (up2 (mI M) (ad 10 0) 0 0) (mJ M)) (ps := []) rfl trivial ?_
          refine go_callS rfl (by decide) rfl rfl (by omega) rfl (by decide) (by decide) ?_
          refine s_Mo_isInK 0 4 (by decide) (by decide) (fun j19 hl19 hj19 hx19 => ⟨ne_i, ?_⟩) (fun c19 => ⟨ne_i, ?_⟩)
          · -- 1
            show Go 1311 236 0 0 25 [.ref (ad 10 0), .int (nI k4), .int 3] [.int 1] (mm M (up2 (mI M) (ad 10 0) 0 0) (mJ M)) R2
            refine go_if rfl (fun (z : (1 : Int32) = 0) => absurd z (show ¬ ((1 : Int32) = 0) from (by decide))) (fun _ => ?_)
            refine go_blk 9 [some (.ref (ad 9 72)), some (.int ((mI M) (ad 9 72) (5 * k4 + 3)))] (pc' := 44) (vs' := [.ref (ad 10 0), .int (nI k4), .int 3]) (st' := [.int ((mI M) (ad 9 72) (5 * k4 + 3))]) (M' := mm M (up2 (mI M) (ad 10 0) 0 0) (mJ M)) (ps := [ob (mm M (up2 (mI M) (ad 10 0) 0 0) (mJ M)) (ad 10 0) 12, mR (mm M (up2 (mI M) (ad 10 0) 0 0) (mJ M)) (ad 10 0) 72 = some (ad 9 72), va_rf (some (ad 9 72)) = .ref (ad 9 72), ob (mm M (up2 (mI M) (ad 10 0) 0 0) (mJ M)) (ad 9 72) 15, vp_in ((5 * (nI k4)) + 3) (mN (mm M (up2 (mI M) (ad 10 0) 0 0) (mJ M)) (ad 9 72)), (Value.int ((up2 (mI M) (ad 10 0) 0 0) (ad 9 72) (((5 * (nI k4)) + 3).toNatClampNeg))) = .int ((mI M) (ad 9 72) (5 * k4 + 3))]) rfl ⟨hM.1, (hM.r 72 15 15000), rfl, (hM.o 72 15 15000), (vp_eq (eq_add (eq_mul (show (5 : Int32) = nI 5 from rfl) rfl) (show (3 : Int32) = nI 3 from rfl)) (vpi (hM.n 72 15 15000) (by omega))), congrArg Value.int ((congrArg (fun z => (up2 (mI M) (ad 10 0) 0 0) (ad 9 72) z) (cl_of (eq_add (eq_mul (show (5 : Int32) = nI 5 from rfl) rfl) (show (3 : Int32) = nI 3 from rfl)) (by omega))).trans ((up2_n _ _ (fun z => absurd (hi _ _ _ _ z.1).1 (by decide))).trans (rfl))), trivial⟩ ?_
            refine go_iret rfl rfl ?_
            exact h2 _ ⟨hsc, ad, nc, nb, nt, wk, nw, nx, nl, ne, nk, kd, op, rfl, rfl, rfl, hW.thr⟩
          · exact absurd ⟨3, by decide, by decide, rfl⟩ c19
        · exact absurd ⟨k4, hk4, rfl⟩ c18
      refine ⟨fun (c20 : a2 = 4) => ?_, fun (c20n : ¬ (a2 = 4)) => ?_⟩
      · -- a2 = 4
        subst c20
        show Go (1311 - 1) 114 0 0 89 [.ref (ad 0 10), .int (nI k4), .int 4] [] (mm M (mI M) (mJ M)) _
        refine go_blk 4 [some (.ref (ad 0 39)), some (.int ((mI M) (ad 9 72) (5 * k4 + 4)))] (pc' := 95) (vs' := [.ref (ad 0 10), .int (nI k4), .int 4]) (st' := [.int ((mI M) (ad 9 72) (5 * k4 + 4))]) (M' := mm M (mI M) (mJ M)) (ps := [ob (mm M (mI M) (mJ M)) (ad 0 10) 10, mR (mm M (mI M) (mJ M)) (ad 0 10) 5 = some (ad 0 39), va_rf (some (ad 0 39)) = .ref (ad 0 39), ob (mm M (mI M) (mJ M)) (ad 0 39) 15, vp_in (nI k4) (mN (mm M (mI M) (mJ M)) (ad 0 39)), (Value.int ((mI M) (ad 0 39) ((nI k4).toNatClampNeg))) = .int ((mI M) (ad 9 72) (5 * k4 + 4))]) rfl ⟨(hF.o 10), (hF.r 10 5 39), rfl, (hF.o 39), (vpi (hF.n 39) (show _ < 3000 by omega)), congrArg Value.int ((congrArg (fun z => (mI M) (ad 0 39) z) (nI_clamp (by omega))).trans (jL.2 k4 (by assumption)).2.1), trivial⟩ ?_
        refine go_iret rfl rfl ?_
        refine ⟨ne_i, ?_⟩
        show Go 1311 148 0 0 9 [.ref (ad 0 0), .int (nI k4), .int 4] [.int ((mI M) (ad 9 72) (5 * k4 + 4))] (mm M (mI M) (mJ M)) R
        refine go_iret rfl rfl ?_
        refine K _ _ hM.1 rfl (fun R2 h2 => ?_)
        show Go 1311 236 0 0 0 [.ref (ad 10 0), .int (nI k4), .int 4] [] (mm M (mI M) (mJ M)) R2
        refine go_blk 9 [some (.int (nI nl))] (pc' := 13) (vs' := [.ref (ad 10 0), .int (nI k4), .int 4]) (st' := [.int ((nI nl) - 1), .int 0, .int (nI k4)]) (M' := mm M (up2 (mI M) (ad 10 0) 0 0) (mJ M)) (ps := [ob (mm M (mI M) (mJ M)) (ad 10 0) 12, ob (mm M (up2 (mI M) (ad 10 0) 0 0) (mJ M)) (ad 10 0) 12, (Value.int ((up2 (mI M) (ad 10 0) 0 0) (ad 10 0) 73)) = .int (nI nl)]) rfl ⟨hM.1, hM.1, congrArg Value.int (((up2_n _ _ (fun z => absurd z.2 (by decide))).trans (rfl)).trans jL.1.2.1), trivial⟩ ?_
        refine go_callS rfl (by decide) rfl rfl (by omega) rfl (by decide) (by decide) ?_
        refine s_Mo_isInP nl (by omega) (fun j21 hj21 hx21 => ⟨ne_i, ?_⟩) (fun c21 => ⟨ne_i, ?_⟩)
        · -- 1
          show Go 1311 236 0 0 16 [.ref (ad 10 0), .int (nI k4), .int 4] [.int 1] (mm M (up2 (mI M) (ad 10 0) 0 0) (mJ M)) R2
          refine go_if rfl (fun (z : (1 : Int32) = 0) => absurd z (show ¬ ((1 : Int32) = 0) from (by decide))) (fun _ => ?_)
          refine go_blk 3 [] (pc' := 22) (vs' := [.ref (ad 10 0), .int (nI k4), .int 4]) (st' := [.int 4, .int 0, .int 4]) (M' := mm M (up2 (mI M) (ad 10 0) 0 0) (mJ M)) (ps := []) rfl trivial ?_
          refine go_callS rfl (by decide) rfl rfl (by omega) rfl (by decide) (by decide) ?_
          refine s_Mo_isInK 0 4 (by decide) (by decide) (fun j22 hl22 hj22 hx22 => ⟨ne_i, ?_⟩) (fun c22 => ⟨ne_i, ?_⟩)
          · -- 1
            show Go 1311 236 0 0 25 [.ref (ad 10 0), .int (nI k4), .int 4] [.int 1] (mm M (up2 (mI M) (ad 10 0) 0 0) (mJ M)) R2
            refine go_if rfl (fun (z : (1 : Int32) = 0) => absurd z (show ¬ ((1 : Int32) = 0) from (by decide))) (fun _ => ?_)
            refine go_blk 9 [some (.ref (ad 9 72)), some (.int ((mI M) (ad 9 72) (5 * k4 + 4)))] (pc' := 44) (vs' := [.ref (ad 10 0), .int (nI k4), .int 4]) (st' := [.int ((mI M) (ad 9 72) (5 * k4 + 4))]) (M' := mm M (up2 (mI M) (ad 10 0) 0 0) (mJ M)) (ps := [ob (mm M (up2 (mI M) (ad 10 0) 0 0) (mJ M)) (ad 10 0) 12, mR (mm M (up2 (mI M) (ad 10 0) 0 0) (mJ M)) (ad 10 0) 72 = some (ad 9 72), va_rf (some (ad 9 72)) = .ref (ad 9 72), ob (mm M (up2 (mI M) (ad 10 0) 0 0) (mJ M)) (ad 9 72) 15, vp_in ((5 * (nI k4)) + 4) (mN (mm M (up2 (mI M) (ad 10 0) 0 0) (mJ M)) (ad 9 72)), (Value.int ((up2 (mI M) (ad 10 0) 0 0) (ad 9 72) (((5 * (nI k4)) + 4).toNatClampNeg))) = .int ((mI M) (ad 9 72) (5 * k4 + 4))]) rfl ⟨hM.1, (hM.r 72 15 15000), rfl, (hM.o 72 15 15000), (vp_eq (eq_add (eq_mul (show (5 : Int32) = nI 5 from rfl) rfl) (show (4 : Int32) = nI 4 from rfl)) (vpi (hM.n 72 15 15000) (by omega))), congrArg Value.int ((congrArg (fun z => (up2 (mI M) (ad 10 0) 0 0) (ad 9 72) z) (cl_of (eq_add (eq_mul (show (5 : Int32) = nI 5 from rfl) rfl) (show (4 : Int32) = nI 4 from rfl)) (by omega))).trans ((up2_n _ _ (fun z => absurd (hi _ _ _ _ z.1).1 (by decide))).trans (rfl))), trivial⟩ ?_
            refine go_iret rfl rfl ?_
            exact h2 _ ⟨hsc, ad, nc, nb, nt, wk, nw, nx, nl, ne, nk, kd, op, rfl, rfl, rfl, hW.thr⟩
          · exact absurd ⟨4, by decide, by decide, rfl⟩ c22
        · exact absurd ⟨k4, hk4, rfl⟩ c21
      show Go (1311 - 1) 114 0 0 96 [.ref (ad 0 10), .int (nI k4), .int a2] [] (mm M (mI M) (mJ M)) _
      refine go_blk 1 [] (pc' := 98) (vs' := [.ref (ad 0 10), .int (nI k4), .int a2]) (st' := [.int (-1000000)]) (M' := mm M (mI M) (mJ M)) (ps := []) rfl trivial ?_
      refine go_iret rfl rfl ?_
      refine ⟨ne_i, ?_⟩
      show Go 1311 148 0 0 9 [.ref (ad 0 0), .int (nI k4), .int a2] [.int (-1000000)] (mm M (mI M) (mJ M)) R
      refine go_iret rfl rfl ?_
      refine K _ _ hM.1 rfl (fun R2 h2 => ?_)
      show Go 1311 236 0 0 0 [.ref (ad 10 0), .int (nI k4), .int a2] [] (mm M (mI M) (mJ M)) R2
      refine go_blk 9 [some (.int (nI nl))] (pc' := 13) (vs' := [.ref (ad 10 0), .int (nI k4), .int a2]) (st' := [.int ((nI nl) - 1), .int 0, .int (nI k4)]) (M' := mm M (up2 (mI M) (ad 10 0) 0 0) (mJ M)) (ps := [ob (mm M (mI M) (mJ M)) (ad 10 0) 12, ob (mm M (up2 (mI M) (ad 10 0) 0 0) (mJ M)) (ad 10 0) 12, (Value.int ((up2 (mI M) (ad 10 0) 0 0) (ad 10 0) 73)) = .int (nI nl)]) rfl ⟨hM.1, hM.1, congrArg Value.int (((up2_n _ _ (fun z => absurd z.2 (by decide))).trans (rfl)).trans jL.1.2.1), trivial⟩ ?_
      refine go_callS rfl (by decide) rfl rfl (by omega) rfl (by decide) (by decide) ?_
      refine s_Mo_isInP nl (by omega) (fun j23 hj23 hx23 => ⟨ne_i, ?_⟩) (fun c23 => ⟨ne_i, ?_⟩)
      · -- 1
        show Go 1311 236 0 0 16 [.ref (ad 10 0), .int (nI k4), .int a2] [.int 1] (mm M (up2 (mI M) (ad 10 0) 0 0) (mJ M)) R2
        refine go_if rfl (fun (z : (1 : Int32) = 0) => absurd z (show ¬ ((1 : Int32) = 0) from (by decide))) (fun _ => ?_)
        refine go_blk 3 [] (pc' := 22) (vs' := [.ref (ad 10 0), .int (nI k4), .int a2]) (st' := [.int 4, .int 0, .int a2]) (M' := mm M (up2 (mI M) (ad 10 0) 0 0) (mJ M)) (ps := []) rfl trivial ?_
        refine go_callS rfl (by decide) rfl rfl (by omega) rfl (by decide) (by decide) ?_
        refine s_Mo_isInK 0 4 (by decide) (by decide) (fun j24 hl24 hj24 hx24 => ⟨ne_i, ?_⟩) (fun c24 => ⟨ne_i, ?_⟩)
        · -- 1
          subst hx24
          show Go 1311 236 0 0 25 [.ref (ad 10 0), .int (nI k4), .int (nI j24)] [.int 1] (mm M (up2 (mI M) (ad 10 0) 0 0) (mJ M)) R2
          refine go_if rfl (fun (z : (1 : Int32) = 0) => absurd z (show ¬ ((1 : Int32) = 0) from (by decide))) (fun _ => ?_)
          refine go_blk 9 [some (.ref (ad 9 72)), some (.int ((mI M) (ad 9 72) (5 * k4 + j24)))] (pc' := 44) (vs' := [.ref (ad 10 0), .int (nI k4), .int (nI j24)]) (st' := [.int ((mI M) (ad 9 72) (5 * k4 + j24))]) (M' := mm M (up2 (mI M) (ad 10 0) 0 0) (mJ M)) (ps := [ob (mm M (up2 (mI M) (ad 10 0) 0 0) (mJ M)) (ad 10 0) 12, mR (mm M (up2 (mI M) (ad 10 0) 0 0) (mJ M)) (ad 10 0) 72 = some (ad 9 72), va_rf (some (ad 9 72)) = .ref (ad 9 72), ob (mm M (up2 (mI M) (ad 10 0) 0 0) (mJ M)) (ad 9 72) 15, vp_in ((5 * (nI k4)) + (nI j24)) (mN (mm M (up2 (mI M) (ad 10 0) 0 0) (mJ M)) (ad 9 72)), (Value.int ((up2 (mI M) (ad 10 0) 0 0) (ad 9 72) (((5 * (nI k4)) + (nI j24)).toNatClampNeg))) = .int ((mI M) (ad 9 72) (5 * k4 + j24))]) rfl ⟨hM.1, (hM.r 72 15 15000), rfl, (hM.o 72 15 15000), (vp_eq (eq_add (eq_mul (show (5 : Int32) = nI 5 from rfl) rfl) rfl) (vpi (hM.n 72 15 15000) (by omega))), congrArg Value.int ((congrArg (fun z => (up2 (mI M) (ad 10 0) 0 0) (ad 9 72) z) (cl_of (eq_add (eq_mul (show (5 : Int32) = nI 5 from rfl) rfl) rfl) (by omega))).trans ((up2_n _ _ (fun z => absurd (hi _ _ _ _ z.1).1 (by decide))).trans (rfl))), trivial⟩ ?_
          refine go_iret rfl rfl ?_
          exfalso
          rcases (show j24 = 0 ∨ j24 = 1 ∨ j24 = 2 ∨ j24 = 3 ∨ j24 = 4 by omega) with rfl | rfl | rfl | rfl | rfl
          · exact (by assumption : ¬ (nI 0 = (0 : Int32))) rfl
          · exact (by assumption : ¬ (nI 1 = (1 : Int32))) rfl
          · exact (by assumption : ¬ (nI 2 = (2 : Int32))) rfl
          · exact (by assumption : ¬ (nI 3 = (3 : Int32))) rfl
          · exact (by assumption : ¬ (nI 4 = (4 : Int32))) rfl
        · -- 0
          show Go 1311 236 0 0 25 [.ref (ad 10 0), .int (nI k4), .int a2] [.int 0] (mm M (up2 (mI M) (ad 10 0) 0 0) (mJ M)) R2
          refine go_if rfl (fun _ => ?_) (fun (z : ¬ ((0 : Int32) = 0)) => absurd (show (0 : Int32) = 0 from (by decide)) z)
          refine go_blk 1 [] (pc' := 44) (vs' := [.ref (ad 10 0), .int (nI k4), .int a2]) (st' := [.int (-1000000)]) (M' := mm M (up2 (mI M) (ad 10 0) 0 0) (mJ M)) (ps := []) rfl trivial ?_
          refine go_iret rfl rfl ?_
          exact h2 _ ⟨hsc, ad, nc, nb, nt, wk, nw, nx, nl, ne, nk, kd, op, rfl, rfl, rfl, hW.thr⟩
      · exact absurd ⟨k4, hk4, rfl⟩ c23
    · -- ¬ (a1 < nI nl)
      refine go_blk 1 [] (pc' := 14) (vs' := [.ref (ad 0 10), .int a1, .int a2]) (st' := [.int (-1000000)]) (M' := mm M (mI M) (mJ M)) (ps := []) rfl trivial ?_
      refine go_iret rfl rfl ?_
      refine ⟨ne_i, ?_⟩
      show Go 1311 148 0 0 9 [.ref (ad 0 0), .int a1, .int a2] [.int (-1000000)] (mm M (mI M) (mJ M)) R
      refine go_iret rfl rfl ?_
      refine K _ _ hM.1 rfl (fun R2 h2 => ?_)
      show Go 1311 236 0 0 0 [.ref (ad 10 0), .int a1, .int a2] [] (mm M (mI M) (mJ M)) R2
      refine go_blk 9 [some (.int (nI nl))] (pc' := 13) (vs' := [.ref (ad 10 0), .int a1, .int a2]) (st' := [.int ((nI nl) - 1), .int 0, .int a1]) (M' := mm M (up2 (mI M) (ad 10 0) 0 0) (mJ M)) (ps := [ob (mm M (mI M) (mJ M)) (ad 10 0) 12, ob (mm M (up2 (mI M) (ad 10 0) 0 0) (mJ M)) (ad 10 0) 12, (Value.int ((up2 (mI M) (ad 10 0) 0 0) (ad 10 0) 73)) = .int (nI nl)]) rfl ⟨hM.1, hM.1, congrArg Value.int (((up2_n _ _ (fun z => absurd z.2 (by decide))).trans (rfl)).trans jL.1.2.1), trivial⟩ ?_
      refine go_callS rfl (by decide) rfl rfl (by omega) rfl (by decide) (by decide) ?_
      refine s_Mo_isInP nl (by omega) (fun j25 hj25 hx25 => ⟨ne_i, ?_⟩) (fun c25 => ⟨ne_i, ?_⟩)
      · exact absurd ⟨j25, hj25, hx25⟩ (nolt2 (by omega) c3)
      · -- 0
        show Go 1311 236 0 0 16 [.ref (ad 10 0), .int a1, .int a2] [.int 0] (mm M (up2 (mI M) (ad 10 0) 0 0) (mJ M)) R2
        refine go_if rfl (fun _ => ?_) (fun (z : ¬ ((0 : Int32) = 0)) => absurd (show (0 : Int32) = 0 from (by decide)) z)
        refine go_blk 1 [] (pc' := 44) (vs' := [.ref (ad 10 0), .int a1, .int a2]) (st' := [.int (-1000000)]) (M' := mm M (up2 (mI M) (ad 10 0) 0 0) (mJ M)) (ps := []) rfl trivial ?_
        refine go_iret rfl rfl ?_
        exact h2 _ ⟨hsc, ad, nc, nb, nt, wk, nw, nx, nl, ne, nk, kd, op, rfl, rfl, rfl, hW.thr⟩

