/-! calls: lost, kept -/
set_option maxRecDepth 100000 in
theorem s_CY_begunAt {d : Nat} {M : Mem} {f : Nat → Nat → Int32} {g : Nat → Nat → Int64} {ad : Nat → Nat → Nat} {R : Option Value → Mem → Prop} {x : Int32} {nb : Nat} (hd : 2 ≤ d) (hF : Fx M ad) (hB : Bs M ad nb) (hn : f (ad 0 0) 3 = nI nb) (hl : nb ≤ 60) (h1 : ∀ b, b < nb → ¬ f (ad 2 b) 7 = 0 → x = nI b → R (some (.ref (ad 2 b))) (mm M f g)) (h0 : ¬ (∃ b, b < nb ∧ ¬ f (ad 2 b) 7 = 0 ∧ x = nI b) → R (some .null) (mm M f g)) : Call d 164 [.ref (ad 0 0), .int x] (mm M f g) R := by
  show Go d 164 0 0 0 [.ref (ad 0 0), .int x, .retAddr 0] [] (mm M f g) R
  refine go_blk 2 [] (pc' := 2) (vs' := [.ref (ad 0 0), .int x, .retAddr 0]) (st' := [.int x, .ref (ad 0 0)]) (M' := mm M f g) (ps := []) rfl trivial ?_
  refine go_callV rfl rfl rfl (by omega) rfl (by decide) (by decide) (hF.o 0) ?_
  refine s_CY_bookingAt (by omega) hF hB hn hl (fun j1 hj1 hx1 => ⟨ne_a, ?_⟩) (fun c1 => ⟨ne_0, ?_⟩)
  · -- ('r', 'ad 2 j1')
    show Go d 164 0 0 5 [.ref (ad 0 0), .int x, .retAddr 0] [.ref (ad 2 j1)] (mm M f g) R
    refine go_blk 2 [] (pc' := 7) (vs' := [.ref (ad 0 0), .int x, .ref (ad 2 j1)]) (st' := [.ref (ad 2 j1)]) (M' := mm M f g) (ps := []) rfl trivial ?_
    refine go_ifnull1 rfl ?_
    refine go_blk 2 [] (pc' := 14) (vs' := [.ref (ad 0 0), .int x, .ref (ad 2 j1)]) (st' := [.int (f (ad 2 j1) 7)]) (M' := mm M f g) (ps := [ob (mm M f g) (ad 2 j1) 0]) rfl ⟨(hB j1 (by assumption)).2, trivial⟩ ?_
    refine go_if rfl (fun (c2 : (f (ad 2 j1) 7) = 0) => ?_) (fun (c2 : ¬ ((f (ad 2 j1) 7) = 0)) => ?_)
    · -- (f (ad 2 j1) 7) = 0
      refine go_blk 1 [] (pc' := 22) (vs' := [.ref (ad 0 0), .int x, .ref (ad 2 j1)]) (st' := [.null]) (M' := mm M f g) (ps := []) rfl trivial ?_
      refine go_aret (q := none) rfl ⟨_, rfl⟩ ?_
      exact h0 (fun ⟨b, q1, q2, q3⟩ => by first | exact absurd ⟨b, q1, q3⟩ c1 | (obtain rfl : b = j1 := (nI_eqs (by omega) (by omega)).mp (q3.symm.trans hx1); exact q2 (by assumption)))
    · -- ¬ ((f (ad 2 j1) 7) = 0)
      refine go_blk 2 [] (pc' := 22) (vs' := [.ref (ad 0 0), .int x, .ref (ad 2 j1)]) (st' := [.ref (ad 2 j1)]) (M' := mm M f g) (ps := []) rfl trivial ?_
      refine go_aret (q := some (ad 2 j1)) rfl ⟨_, rfl⟩ ?_
      exact h1 _ (by assumption) (by assumption) (by assumption)
  · -- ('n',)
    show Go d 164 0 0 5 [.ref (ad 0 0), .int x, .retAddr 0] [.null] (mm M f g) R
    refine go_blk 2 [] (pc' := 7) (vs' := [.ref (ad 0 0), .int x, .null]) (st' := [.null]) (M' := mm M f g) (ps := []) rfl trivial ?_
    refine go_ifnull0 rfl ?_
    refine go_blk 1 [] (pc' := 22) (vs' := [.ref (ad 0 0), .int x, .null]) (st' := [.null]) (M' := mm M f g) (ps := []) rfl trivial ?_
    refine go_aret (q := none) rfl ⟨_, rfl⟩ ?_
    exact h0 (fun ⟨b, q1, q2, q3⟩ => by first | exact absurd ⟨b, q1, q3⟩ c1 | (obtain rfl : b = j1 := (nI_eqs (by omega) (by omega)).mp (q3.symm.trans hx1); exact q2 (by assumption)))

set_option maxRecDepth 100000 in
theorem s_Mo_isStay {d : Nat} {M : Mem} {f : Nat → Nat → Int32} {g : Nat → Nat → Int64} {ad : Nat → Nat → Nat} {R : Option Value → Mem → Prop} {x : Int32} {nb : Nat} (hd : 1 ≤ d) (hM : Mx M ad) (hn : f (ad 10 0) 18 = nI nb) (hl : nb ≤ 60) (h1 : ∀ b, b < nb → ¬ f (ad 9 16) b = 0 → x = nI b → R (some (.int 1)) (mm M f g)) (h0 : ¬ (∃ b, b < nb ∧ ¬ f (ad 9 16) b = 0 ∧ x = nI b) → R (some (.int 0)) (mm M f g)) : Call d 265 [.ref (ad 10 0), .int x] (mm M f g) R := by
  by_cases hx : ∃ b, b < nb ∧ x = nI b
  · obtain ⟨b, hb, rfl⟩ := hx
    show Go d 265 0 0 0 [.ref (ad 10 0), .int (nI b)] [] (mm M f g) R
    refine go_blk 2 [] (pc' := 2) (vs' := [.ref (ad 10 0), .int (nI b)]) (st' := [.int (nI b), .ref (ad 10 0)]) (M' := mm M f g) (ps := []) rfl trivial ?_
    refine go_callV rfl rfl rfl (by omega) rfl (by decide) (by decide) hM.1 ?_
    refine s_Mo_isBooking hM hn hl (fun j1 hj1 hx1 => ⟨ne_i, ?_⟩) (fun c1 => ⟨ne_i, ?_⟩)
    · -- 1
      show Go d 265 0 0 5 [.ref (ad 10 0), .int (nI b)] [.int 1] (mm M f g) R
      refine go_if rfl (fun (z : (1 : Int32) = 0) => absurd z (show ¬ ((1 : Int32) = 0) from (by decide))) (fun _ => ?_)
      refine go_blk 4 [some (.ref (ad 9 16)), some (.int (f (ad 9 16) b))] (pc' := 14) (vs' := [.ref (ad 10 0), .int (nI b)]) (st' := [.int (f (ad 9 16) b)]) (M' := mm M f g) (ps := [ob (mm M f g) (ad 10 0) 12, mR (mm M f g) (ad 10 0) 16 = some (ad 9 16), va_rf (some (ad 9 16)) = .ref (ad 9 16), ob (mm M f g) (ad 9 16) 13, 13 = 13 ∨ 13 = 14, vp_in (nI b) (mN (mm M f g) (ad 9 16)), (Value.int (f (ad 9 16) ((nI b).toNatClampNeg))) = .int (f (ad 9 16) b)]) rfl ⟨hM.1, (hM.r 16 13 60), rfl, (hM.o 16 13 60), (by decide), (vpi (hM.n 16 13 60) (by omega)), congrArg (fun z => Value.int (f (ad 9 16) z)) (nI_clamp (by omega)), trivial⟩ ?_
      refine go_if rfl (fun (c2 : (f (ad 9 16) b) = 0) => ?_) (fun (c2 : ¬ ((f (ad 9 16) b) = 0)) => ?_)
      · -- (f (ad 9 16) b) = 0
        refine go_blk 1 [] (pc' := 22) (vs' := [.ref (ad 10 0), .int (nI b)]) (st' := [.int 0]) (M' := mm M f g) (ps := []) rfl trivial ?_
        refine go_zret rfl rfl (Or.inl rfl) ?_
        exact h0 (fun ⟨b2, q1, q2, q3⟩ => by obtain rfl : b = b2 := (nI_eqs (by omega) (by omega)).mp q3; exact q2 (by assumption))
      · -- ¬ ((f (ad 9 16) b) = 0)
        refine go_blk 2 [] (pc' := 22) (vs' := [.ref (ad 10 0), .int (nI b)]) (st' := [.int 1]) (M' := mm M f g) (ps := []) rfl trivial ?_
        refine go_zret rfl rfl (Or.inr rfl) ?_
        exact h1 b hb (by assumption) rfl
    · exact absurd ⟨b, hb, rfl⟩ c1
  ·
    show Go d 265 0 0 0 [.ref (ad 10 0), .int x] [] (mm M f g) R
    refine go_blk 2 [] (pc' := 2) (vs' := [.ref (ad 10 0), .int x]) (st' := [.int x, .ref (ad 10 0)]) (M' := mm M f g) (ps := []) rfl trivial ?_
    refine go_callV rfl rfl rfl (by omega) rfl (by decide) (by decide) hM.1 ?_
    refine s_Mo_isBooking hM hn hl (fun j1 hj1 hx1 => ⟨ne_i, ?_⟩) (fun c1 => ⟨ne_i, ?_⟩)
    · exact absurd ⟨j1, hj1, hx1⟩ hx
    · -- 0
      show Go d 265 0 0 5 [.ref (ad 10 0), .int x] [.int 0] (mm M f g) R
      refine go_if rfl (fun _ => ?_) (fun (z : ¬ ((0 : Int32) = 0)) => absurd (show (0 : Int32) = 0 from (by decide)) z)
      refine go_blk 1 [] (pc' := 22) (vs' := [.ref (ad 10 0), .int x]) (st' := [.int 0]) (M' := mm M f g) (ps := []) rfl trivial ?_
      refine go_zret rfl rfl (Or.inl rfl) ?_
      exact h0 (fun ⟨b, q1, q2, q3⟩ => hx ⟨b, q1, q3⟩)

set_option maxHeartbeats 20000000 in
set_option maxRecDepth 100000 in
theorem op35 {x o u : Nat} {sc : Nat × Nat × (Nat → Int32)} : Op35 (II x o u sc) x o := by
  intro M a1 a2 hI R K
  obtain ⟨hsc, ad, nc, nb, nt, wk, nw, nx, nl, ne, nk, kd, op, rfl, rfl, rfl, hW⟩ := hI
  obtain ⟨hi, ⟨hF, hM, hC, hB, hT, hX⟩, ⟨iS, iC, iB, iR, iL, iT⟩, ⟨jO, jR, jB, jX, jL⟩, kO, kC, kD, kP, kX⟩ := id hW
  obtain ⟨⟨nc1, nc2, nc3⟩, ⟨nb1, nb2, nb3⟩, ⟨nt1, nt2, nt3⟩, ⟨wk1, wk2, wk3⟩, ⟨nw1, nw2, nw3⟩, ⟨op1, op2, op3⟩, ncm, ncm1, ncm2, ncm3⟩ := id iS
  simp only [vw] at nc1 nc2 nb1 nb2 nt1 nt2 wk1 wk2 nw1 nw2 op1 op2 ncm2 ncm3
  obtain ⟨nn, nn3, nn1, nn2, nnb⟩ := jX.2.1
  simp only [vw] at nn1 nn2
  have nl3 := jL.1.2.2.1
  have nx3 := jX.1.2.2
  have nk3 := jB.1.2.2.2.2.1
  have ne3 := jB.1.2.2.2.2.2
  have hE : ∀ i, i < ne → (mI M (ad 0 33) i = -1 ∧ ¬ mI M (ad 9 92) i = -1) ∨ (mI M (ad 9 92) i = -1 ∧ ∃ k, k < 60 ∧ mI M (ad 0 33) i = nI k ∧ ∀ th, th < 3 → mI M (ad 0 34) (3 * k + th) = mI M (ad 9 93) (3 * i + th)) := by
    intro i hi2
    obtain ⟨-, -, q⟩ := jB.2.2.1 i hi2
    rcases q with ⟨b, hb, q1, -, q3, -⟩ | ⟨q1, k, q2, q3, q4⟩
    · exact Or.inl ⟨q3, fun z => nI_m1 (n := b) (by omega) (q1.symm.trans z)⟩
    · exact Or.inr ⟨q1, k, by omega, q3, fun th hth => (q4 th hth).1⟩
  have hco : ∀ i, i < ne → mI M (ad 0 32) i = mI M (ad 9 91) i := fun i hi2 => (jB.2.2.1 i hi2).1
  have ne4 : ne ≤ 120 := by omega
  show Go 1311 151 0 0 0 [.ref (ad 0 0), .int a1, .int a2, .retAddr 0] [] (mm M (mI M) (mJ M)) R
  refine go_blk 2 [] (pc' := 2) (vs' := [.ref (ad 0 0), .int a1, .int a2, .retAddr 0]) (st' := [.int a1, .ref (ad 0 0)]) (M' := mm M (mI M) (mJ M)) (ps := []) rfl trivial ?_
  refine go_callV rfl rfl rfl (by omega) rfl (by decide) (by decide) (hF.o 0) ?_
  refine s_CY_begunAt (by omega) hF hB nb1 nb3 (fun b1 hb1 hg1 hx1 => ⟨ne_a, ?_⟩) (fun hn1 => ⟨ne_0, ?_⟩)
  · -- ('r', 'ad 2 b#')
    subst hx1
    obtain ⟨bc1q, bd1q, be1q⟩ := (iB.1 b1 (by assumption)).2.1.1
    obtain ⟨bw1q, bx1q, by1q, bz1q⟩ := (iB.1 b1 (by assumption)).2.2.1
    have hg21 : ¬ (mI M) (ad 9 16) b1 = 0 := fun q => hg1 ((iB.1 b1 hb1).1.2.2.2.2.2.2.2.1.trans q)
    have hgb1 : (mI M) (ad 9 16) b1 = 1 := b01_1 (iB.1 b1 hb1).2.1.2.2.2.2.2.2 hg21
    obtain ⟨e1, he1, hf1, hk1, hc1, hu1⟩ := jB.2.2.2 b1 hb1 hgb1
    show Go 1311 151 0 0 5 [.ref (ad 0 0), .int (nI b1), .int a2, .retAddr 0] [.ref (ad 2 b1)] (mm M (mI M) (mJ M)) R
    refine go_blk 2 [] (pc' := 7) (vs' := [.ref (ad 0 0), .int (nI b1), .int a2, .ref (ad 2 b1)]) (st' := [.ref (ad 2 b1)]) (M' := mm M (mI M) (mJ M)) (ps := []) rfl trivial ?_
    refine go_ifnull1 rfl ?_
    refine go_blk 3 [] (pc' := 13) (vs' := [.ref (ad 0 0), .int (nI b1), .int a2, .ref (ad 2 b1)]) (st' := [.int 2, .int 0, .int a2]) (M' := mm M (mI M) (mJ M)) (ps := []) rfl trivial ?_
    refine go_callS rfl (by decide) rfl rfl (by omega) rfl (by decide) (by decide) ?_
    refine s_CY_withinK 0 2 (by decide) (by decide) (fun j2 hl2 hj2 hx2 => ⟨ne_i, ?_⟩) (fun c2 => ⟨ne_i, ?_⟩)
    · -- 1
      subst hx2
      show Go 1311 151 0 0 16 [.ref (ad 0 0), .int (nI b1), .int (nI j2), .ref (ad 2 b1)] [.int 1] (mm M (mI M) (mJ M)) R
      refine go_if rfl (fun _ => ?_) (fun (z : ¬ (¬ (1 : Int32) = 0)) => absurd (show ¬ (1 : Int32) = 0 from (by decide)) z)
      refine go_blk 5 [some (.ref (ad 0 9)), some (.int (nI e1))] (pc' := 30) (vs' := [.ref (ad 0 0), .int (nI b1), .int (nI j2), .ref (ad 2 b1)]) (st' := [.int (nI j2), .int (nI e1), .ref (ad 0 9)]) (M' := mm M (mI M) (mJ M)) (ps := [ob (mm M (mI M) (mJ M)) (ad 0 0) 11, mR (mm M (mI M) (mJ M)) (ad 0 0) 16 = some (ad 0 9), va_rf (some (ad 0 9)) = .ref (ad 0 9), ob (mm M (mI M) (mJ M)) (ad 2 b1) 0, (Value.int ((mI M) (ad 2 b1) 11)) = .int (nI e1)]) rfl ⟨(hF.o 0), (hF.r 0 16 9), rfl, (hB b1 (by assumption)).2, congrArg Value.int hf1, trivial⟩ ?_
      refine go_callV rfl rfl rfl (by omega) rfl (by decide) (by decide) (hF.o 9) ?_
      refine s_Bs_lostAt (f := mI M) (by omega) hF (by assumption) ne4 jB.1.1 hE (th := j2) (by omega) ⟨ne_i, ?_⟩
      show Go 1311 151 0 0 33 [.ref (ad 0 0), .int (nI b1), .int (nI j2), .ref (ad 2 b1)] [.int (lsV (mI M (ad 0 32)) (mI M (ad 9 92)) (mI M (ad 9 93)) ne e1 j2)] (mm M (mI M) (mJ M)) R
      refine go_iret rfl rfl ?_
      refine K _ _ hM.1 rfl (fun R2 h2 => ?_)
      show Go 1311 266 0 0 0 [.ref (ad 10 0), .int (nI b1), .int (nI j2)] [] (mm M (mI M) (mJ M)) R2
      refine go_blk 5 [] (pc' := 7) (vs' := [.ref (ad 10 0), .int (nI b1), .int (nI j2)]) (st' := [.int (nI b1), .ref (ad 10 0)]) (M' := mm M (up2 (mI M) (ad 10 0) 0 0) (mJ M)) (ps := [ob (mm M (mI M) (mJ M)) (ad 10 0) 12]) rfl ⟨hM.1, trivial⟩ ?_
      refine go_callV rfl rfl rfl (by omega) rfl (by decide) (by decide) hM.1 ?_
      refine s_Mo_isStay (by omega) hM (((up2_n _ _ (fun z => absurd z.2 (by decide))).trans (rfl)).trans nb2) nb3 (fun b3 hb3 hg3 hx3 => ⟨ne_i, ?_⟩) (fun hn3 => ⟨ne_i, ?_⟩)
      · -- ('i', '1')
        show Go 1311 266 0 0 10 [.ref (ad 10 0), .int (nI b1), .int (nI j2)] [.int 1] (mm M (up2 (mI M) (ad 10 0) 0 0) (mJ M)) R2
        refine go_if rfl (fun (z : (1 : Int32) = 0) => absurd z (show ¬ ((1 : Int32) = 0) from (by decide))) (fun _ => ?_)
        refine go_blk 3 [] (pc' := 16) (vs' := [.ref (ad 10 0), .int (nI b1), .int (nI j2)]) (st' := [.int 2, .int 0, .int (nI j2)]) (M' := mm M (up2 (mI M) (ad 10 0) 0 0) (mJ M)) (ps := []) rfl trivial ?_
        refine go_callS rfl (by decide) rfl rfl (by omega) rfl (by decide) (by decide) ?_
        refine s_Mo_isInK 0 2 (by decide) (by decide) (fun j4 hl4 hj4 hx4 => ⟨ne_i, ?_⟩) (fun c4 => ⟨ne_i, ?_⟩)
        · -- 1
          show Go 1311 266 0 0 19 [.ref (ad 10 0), .int (nI b1), .int (nI j2)] [.int 1] (mm M (up2 (mI M) (ad 10 0) 0 0) (mJ M)) R2
          refine go_if rfl (fun (z : (1 : Int32) = 0) => absurd z (show ¬ ((1 : Int32) = 0) from (by decide))) (fun _ => ?_)
          refine go_blk 3 [] (pc' := 25) (vs' := [.ref (ad 10 0), .int (nI b1), .int (nI j2)]) (st' := [.int (nI j2), .int (nI b1), .ref (ad 10 0)]) (M' := mm M (up2 (mI M) (ad 10 0) 0 0) (mJ M)) (ps := []) rfl trivial ?_
          refine go_callV rfl rfl rfl (by omega) rfl (by decide) (by decide) hM.1 ?_
          refine s_Mo_lostOf (f := up2 (mI M) (ad 10 0) 0 0) (e := e1) (b := b1) (by omega) hM (by assumption) ne4 (by simpa [up2_ad hi, vw] using jB.1.2.1) (by simpa [up2_ad hi, vw] using hk1) (fun i2 q z => by have := hu1 i2 (by omega) (by simpa [up2_ad hi, vw] using z); omega) (th := j2) (by omega) ⟨ne_i, ?_⟩
          show Go 1311 266 0 0 28 [.ref (ad 10 0), .int (nI b1), .int (nI j2)] [.int (lsV ((up2 (mI M) (ad 10 0) 0 0) (ad 9 91)) ((up2 (mI M) (ad 10 0) 0 0) (ad 9 92)) ((up2 (mI M) (ad 10 0) 0 0) (ad 9 93)) ne e1 j2)] (mm M (up2 (mI M) (ad 10 0) 0 0) (mJ M)) R2
          refine go_blk 1 [] (pc' := 32) (vs' := [.ref (ad 10 0), .int (nI b1), .int (nI j2)]) (st' := [.int (lsV ((up2 (mI M) (ad 10 0) 0 0) (ad 9 91)) ((up2 (mI M) (ad 10 0) 0 0) (ad 9 92)) ((up2 (mI M) (ad 10 0) 0 0) (ad 9 93)) ne e1 j2)]) (M' := mm M (up2 (mI M) (ad 10 0) 0 0) (mJ M)) (ps := []) rfl trivial ?_
          refine go_iret rfl rfl ?_
          have e9 : (lsV ((up2 (mI M) (ad 10 0) 0 0) (ad 9 91)) ((up2 (mI M) (ad 10 0) 0 0) (ad 9 92)) ((up2 (mI M) (ad 10 0) 0 0) (ad 9 93)) ne e1 j2) = lsV (mI M (ad 0 32)) (mI M (ad 9 92)) (mI M (ad 9 93)) ne e1 j2 := (by simp only [lsV, show (up2 (mI M) (ad 10 0) 0 0) (ad 9 91) = mI M (ad 9 91) from funext fun k => by simp [up2_ad hi], show (up2 (mI M) (ad 10 0) 0 0) (ad 9 92) = mI M (ad 9 92) from funext fun k => by simp [up2_ad hi], show (up2 (mI M) (ad 10 0) 0 0) (ad 9 93) = mI M (ad 9 93) from funext fun k => by simp [up2_ad hi]]; rw [pvE_congr (co := mI M (ad 0 32)) (hco e1 (by assumption)) (fun i2 q => hco i2 (by omega)), nxE_congr (co := mI M (ad 0 32)) (hco e1 (by assumption)) (fun i2 q1 q2 => hco i2 (by omega))])
          rw [e9]
          exact h2 _ ⟨hsc, ad, nc, nb, nt, wk, nw, nx, nl, ne, nk, kd, op, rfl, rfl, rfl, hW.thr⟩
        · exact absurd ⟨j2, hl2, hj2, rfl⟩ c4
      · -- ('i', '0')
        exact absurd ⟨b1, hb1, (by simpa [up2_ad hi, vw] using hg21), rfl⟩ hn3
    · -- 0
      show Go 1311 151 0 0 16 [.ref (ad 0 0), .int (nI b1), .int a2, .ref (ad 2 b1)] [.int 0] (mm M (mI M) (mJ M)) R
      refine go_if rfl (fun (z : ¬ (0 : Int32) = 0) => absurd z (show ¬ (¬ (0 : Int32) = 0) from (by decide))) (fun _ => ?_)
      refine go_blk 1 [] (pc' := 20) (vs' := [.ref (ad 0 0), .int (nI b1), .int a2, .ref (ad 2 b1)]) (st' := [.int (-1)]) (M' := mm M (mI M) (mJ M)) (ps := []) rfl trivial ?_
      refine go_iret rfl rfl ?_
      refine K _ _ hM.1 rfl (fun R2 h2 => ?_)
      show Go 1311 266 0 0 0 [.ref (ad 10 0), .int (nI b1), .int a2] [] (mm M (mI M) (mJ M)) R2
      refine go_blk 5 [] (pc' := 7) (vs' := [.ref (ad 10 0), .int (nI b1), .int a2]) (st' := [.int (nI b1), .ref (ad 10 0)]) (M' := mm M (up2 (mI M) (ad 10 0) 0 0) (mJ M)) (ps := [ob (mm M (mI M) (mJ M)) (ad 10 0) 12]) rfl ⟨hM.1, trivial⟩ ?_
      refine go_callV rfl rfl rfl (by omega) rfl (by decide) (by decide) hM.1 ?_
      refine s_Mo_isStay (by omega) hM (((up2_n _ _ (fun z => absurd z.2 (by decide))).trans (rfl)).trans nb2) nb3 (fun b5 hb5 hg5 hx5 => ⟨ne_i, ?_⟩) (fun hn5 => ⟨ne_i, ?_⟩)
      · -- ('i', '1')
        show Go 1311 266 0 0 10 [.ref (ad 10 0), .int (nI b1), .int a2] [.int 1] (mm M (up2 (mI M) (ad 10 0) 0 0) (mJ M)) R2
        refine go_if rfl (fun (z : (1 : Int32) = 0) => absurd z (show ¬ ((1 : Int32) = 0) from (by decide))) (fun _ => ?_)
        refine go_blk 3 [] (pc' := 16) (vs' := [.ref (ad 10 0), .int (nI b1), .int a2]) (st' := [.int 2, .int 0, .int a2]) (M' := mm M (up2 (mI M) (ad 10 0) 0 0) (mJ M)) (ps := []) rfl trivial ?_
        refine go_callS rfl (by decide) rfl rfl (by omega) rfl (by decide) (by decide) ?_
        refine s_Mo_isInK 0 2 (by decide) (by decide) (fun j6 hl6 hj6 hx6 => ⟨ne_i, ?_⟩) (fun c6 => ⟨ne_i, ?_⟩)
        · exact absurd ⟨j6, hl6, hj6, hx6⟩ c2
        · -- 0
          show Go 1311 266 0 0 19 [.ref (ad 10 0), .int (nI b1), .int a2] [.int 0] (mm M (up2 (mI M) (ad 10 0) 0 0) (mJ M)) R2
          refine go_if rfl (fun _ => ?_) (fun (z : ¬ ((0 : Int32) = 0)) => absurd (show (0 : Int32) = 0 from (by decide)) z)
          refine go_blk 1 [] (pc' := 32) (vs' := [.ref (ad 10 0), .int (nI b1), .int a2]) (st' := [.int (-1)]) (M' := mm M (up2 (mI M) (ad 10 0) 0 0) (mJ M)) (ps := []) rfl trivial ?_
          refine go_iret rfl rfl ?_
          exact h2 _ ⟨hsc, ad, nc, nb, nt, wk, nw, nx, nl, ne, nk, kd, op, rfl, rfl, rfl, hW.thr⟩
      · -- ('i', '0')
        exact absurd ⟨b1, hb1, (by simpa [up2_ad hi, vw] using hg21), rfl⟩ hn5
  · -- ('n',)
    show Go 1311 151 0 0 5 [.ref (ad 0 0), .int a1, .int a2, .retAddr 0] [.null] (mm M (mI M) (mJ M)) R
    refine go_blk 2 [] (pc' := 7) (vs' := [.ref (ad 0 0), .int a1, .int a2, .null]) (st' := [.null]) (M' := mm M (mI M) (mJ M)) (ps := []) rfl trivial ?_
    refine go_ifnull0 rfl ?_
    refine go_blk 1 [] (pc' := 20) (vs' := [.ref (ad 0 0), .int a1, .int a2, .null]) (st' := [.int (-1)]) (M' := mm M (mI M) (mJ M)) (ps := []) rfl trivial ?_
    refine go_iret rfl rfl ?_
    refine K _ _ hM.1 rfl (fun R2 h2 => ?_)
    show Go 1311 266 0 0 0 [.ref (ad 10 0), .int a1, .int a2] [] (mm M (mI M) (mJ M)) R2
    refine go_blk 5 [] (pc' := 7) (vs' := [.ref (ad 10 0), .int a1, .int a2]) (st' := [.int a1, .ref (ad 10 0)]) (M' := mm M (up2 (mI M) (ad 10 0) 0 0) (mJ M)) (ps := [ob (mm M (mI M) (mJ M)) (ad 10 0) 12]) rfl ⟨hM.1, trivial⟩ ?_
    refine go_callV rfl rfl rfl (by omega) rfl (by decide) (by decide) hM.1 ?_
    refine s_Mo_isStay (by omega) hM (((up2_n _ _ (fun z => absurd z.2 (by decide))).trans (rfl)).trans nb2) nb3 (fun b7 hb7 hg7 hx7 => ⟨ne_i, ?_⟩) (fun hn7 => ⟨ne_i, ?_⟩)
    · -- ('i', '1')
      exact absurd ⟨b7, hb7, fun q => hg7 (by simpa [up2_ad hi, vw] using (iB.1 b7 hb7).1.2.2.2.2.2.2.2.1.symm.trans q), hx7⟩ hn1
    · -- ('i', '0')
      show Go 1311 266 0 0 10 [.ref (ad 10 0), .int a1, .int a2] [.int 0] (mm M (up2 (mI M) (ad 10 0) 0 0) (mJ M)) R2
      refine go_if rfl (fun _ => ?_) (fun (z : ¬ ((0 : Int32) = 0)) => absurd (show (0 : Int32) = 0 from (by decide)) z)
      refine go_blk 1 [] (pc' := 32) (vs' := [.ref (ad 10 0), .int a1, .int a2]) (st' := [.int (-1)]) (M' := mm M (up2 (mI M) (ad 10 0) 0 0) (mJ M)) (ps := []) rfl trivial ?_
      refine go_iret rfl rfl ?_
      exact h2 _ ⟨hsc, ad, nc, nb, nt, wk, nw, nx, nl, ne, nk, kd, op, rfl, rfl, rfl, hW.thr⟩

set_option maxRecDepth 100000 in
theorem lp_Mo_kept {d : Nat} {M : Mem} {f : Nat → Nat → Int32} {g : Nat → Nat → Int64} {ad : Nat → Nat → Nat} {R : Option Value → Mem → Prop} {e ne b : Nat} (hd : 2 ≤ d) (hM : Mx M ad) (he : e < ne) (hl : ne ≤ 120) (hn : f (ad 10 0) 95 = nI ne) (he2 : f (ad 9 92) e = nI b) (hu : ∀ i, i < e → ¬ f (ad 9 92) i = nI b) (hx : Go d 267 0 0 50 [.ref (ad 10 0), .int (nI b), .int (smI (fun th => mx0 (lsV (f (ad 9 91)) (f (ad 9 92)) (f (ad 9 93)) ne e th) * f (ad 9 94) th) 3), .int (nI 3)] [] (mm M f g) R) : ∀ i, i ≤ 3 → Go d 267 0 0 19 [.ref (ad 10 0), .int (nI b), .int (smI (fun th => mx0 (lsV (f (ad 9 91)) (f (ad 9 92)) (f (ad 9 93)) ne e th) * f (ad 9 94) th) i), .int (nI i)] [] (mm M f g) R := by
  refine up_ind (P := fun i => Go d 267 0 0 19 [.ref (ad 10 0), .int (nI b), .int (smI (fun th => mx0 (lsV (f (ad 9 91)) (f (ad 9 92)) (f (ad 9 93)) ne e th) * f (ad 9 94) th) i), .int (nI i)] [] (mm M f g) R) 3 ?_ (fun i hi ih => ?_)
  ·
    skip
    show Go d 267 0 0 19 [.ref (ad 10 0), .int (nI b), .int (smI (fun th => mx0 (lsV (f (ad 9 91)) (f (ad 9 92)) (f (ad 9 93)) ne e th) * f (ad 9 94) th) 3), .int (nI 3)] [] (mm M f g) R
    refine go_blk 2 [] (pc' := 21) (vs' := [.ref (ad 10 0), .int (nI b), .int (smI (fun th => mx0 (lsV (f (ad 9 91)) (f (ad 9 92)) (f (ad 9 93)) ne e th) * f (ad 9 94) th) 3), .int (nI 3)]) (st' := [.int 3, .int (nI 3)]) (M' := mm M f g) (ps := []) rfl trivial ?_
    refine go_icmp rfl (fun _ => ?_) (fun (z : ¬ (3 ≤ (nI 3))) => absurd (show 3 ≤ (nI 3) from Int32.le_refl _) z)
    exact hx
  ·
    skip
    show Go d 267 0 0 19 [.ref (ad 10 0), .int (nI b), .int (smI (fun th => mx0 (lsV (f (ad 9 91)) (f (ad 9 92)) (f (ad 9 93)) ne e th) * f (ad 9 94) th) i), .int (nI i)] [] (mm M f g) R
    refine go_blk 2 [] (pc' := 21) (vs' := [.ref (ad 10 0), .int (nI b), .int (smI (fun th => mx0 (lsV (f (ad 9 91)) (f (ad 9 92)) (f (ad 9 93)) ne e th) * f (ad 9 94) th) i), .int (nI i)]) (st' := [.int 3, .int (nI i)]) (M' := mm M f g) (ps := []) rfl trivial ?_
    refine go_icmp rfl (fun (z : 3 ≤ (nI i)) => absurd z (show ¬ (3 ≤ (nI i)) from (Int32.not_le.mpr ((nI_lts (a := i) (b := 3) (by omega) (by omega)).mpr hi)))) (fun _ => ?_)
    refine go_blk 5 [] (pc' := 29) (vs' := [.ref (ad 10 0), .int (nI b), .int (smI (fun th => mx0 (lsV (f (ad 9 91)) (f (ad 9 92)) (f (ad 9 93)) ne e th) * f (ad 9 94) th) i), .int (nI i)]) (st' := [.int (nI i), .int (nI b), .ref (ad 10 0), .int 0, .int (smI (fun th => mx0 (lsV (f (ad 9 91)) (f (ad 9 92)) (f (ad 9 93)) ne e th) * f (ad 9 94) th) i)]) (M' := mm M f g) (ps := []) rfl trivial ?_
    refine go_callV rfl rfl rfl (by omega) rfl (by decide) (by decide) hM.1 ?_
    refine s_Mo_lostOf (by omega) hM he hl hn he2 hu (th := i) (by omega) ⟨ne_i, ?_⟩
    show Go d 267 0 0 32 [.ref (ad 10 0), .int (nI b), .int (smI (fun th => mx0 (lsV (f (ad 9 91)) (f (ad 9 92)) (f (ad 9 93)) ne e th) * f (ad 9 94) th) i), .int (nI i)] [.int (lsV (f (ad 9 91)) (f (ad 9 92)) (f (ad 9 93)) ne e i), .int 0, .int (smI (fun th => mx0 (lsV (f (ad 9 91)) (f (ad 9 92)) (f (ad 9 93)) ne e th) * f (ad 9 94) th) i)] (mm M f g) R
    refine go_callS rfl (by decide) rfl rfl (by omega) rfl (by decide) (by decide) ?_
    refine s_JM_max0 (by omega) ⟨ne_i, ?_⟩
    show Go d 267 0 0 35 [.ref (ad 10 0), .int (nI b), .int (smI (fun th => mx0 (lsV (f (ad 9 91)) (f (ad 9 92)) (f (ad 9 93)) ne e th) * f (ad 9 94) th) i), .int (nI i)] [.int (mx0 (lsV (f (ad 9 91)) (f (ad 9 92)) (f (ad 9 93)) ne e i)), .int (smI (fun th => mx0 (lsV (f (ad 9 91)) (f (ad 9 92)) (f (ad 9 93)) ne e th) * f (ad 9 94) th) i)] (mm M f g) R
    refine go_blk 9 [some (.ref (ad 9 94)), some (.int (f (ad 9 94) i))] (pc' := 19) (vs' := [.ref (ad 10 0), .int (nI b), .int ((smI (fun th => mx0 (lsV (f (ad 9 91)) (f (ad 9 92)) (f (ad 9 93)) ne e th) * f (ad 9 94) th) i) + ((mx0 (lsV (f (ad 9 91)) (f (ad 9 92)) (f (ad 9 93)) ne e i)) * (f (ad 9 94) i))), .int ((nI i) + 1)]) (st' := []) (M' := mm M f g) (ps := [ob (mm M f g) (ad 10 0) 12, mR (mm M f g) (ad 10 0) 94 = some (ad 9 94), va_rf (some (ad 9 94)) = .ref (ad 9 94), ob (mm M f g) (ad 9 94) 15, vp_in (nI i) (mN (mm M f g) (ad 9 94)), (Value.int (f (ad 9 94) ((nI i).toNatClampNeg))) = .int (f (ad 9 94) i)]) rfl ⟨hM.1, (hM.r 94 15 3), rfl, (hM.o 94 15 3), (vpi (hM.n 94 15 3) (by omega)), congrArg (fun z => Value.int (f (ad 9 94) z)) (nI_clamp (by omega)), trivial⟩ ?_
    have e1 : nI i + 1 = nI (i + 1) := nI_add i 1
    have e4 : ((smI (fun th => mx0 (lsV (f (ad 9 91)) (f (ad 9 92)) (f (ad 9 93)) ne e th) * f (ad 9 94) th) i) + ((mx0 (lsV (f (ad 9 91)) (f (ad 9 92)) (f (ad 9 93)) ne e i)) * (f (ad 9 94) i))) = smI (fun th => mx0 (lsV (f (ad 9 91)) (f (ad 9 92)) (f (ad 9 93)) ne e th) * f (ad 9 94) th) (i + 1) := (by first | rfl | (rw [smI]; clear ih hx; grind))
    rw [e1, e4]
    exact ih

set_option maxHeartbeats 20000000 in
set_option maxRecDepth 100000 in
theorem op36 {x o u : Nat} {sc : Nat × Nat × (Nat → Int32)} : Op36 (II x o u sc) x o := by
  intro M a1 hI R K
  obtain ⟨hsc, ad, nc, nb, nt, wk, nw, nx, nl, ne, nk, kd, op, rfl, rfl, rfl, hW⟩ := hI
  obtain ⟨hi, ⟨hF, hM, hC, hB, hT, hX⟩, ⟨iS, iC, iB, iR, iL, iT⟩, ⟨jO, jR, jB, jX, jL⟩, kO, kC, kD, kP, kX⟩ := id hW
  obtain ⟨⟨nc1, nc2, nc3⟩, ⟨nb1, nb2, nb3⟩, ⟨nt1, nt2, nt3⟩, ⟨wk1, wk2, wk3⟩, ⟨nw1, nw2, nw3⟩, ⟨op1, op2, op3⟩, ncm, ncm1, ncm2, ncm3⟩ := id iS
  simp only [vw] at nc1 nc2 nb1 nb2 nt1 nt2 wk1 wk2 nw1 nw2 op1 op2 ncm2 ncm3
  obtain ⟨nn, nn3, nn1, nn2, nnb⟩ := jX.2.1
  simp only [vw] at nn1 nn2
  have nl3 := jL.1.2.2.1
  have nx3 := jX.1.2.2
  have nk3 := jB.1.2.2.2.2.1
  have ne3 := jB.1.2.2.2.2.2
  have hE : ∀ i, i < ne → (mI M (ad 0 33) i = -1 ∧ ¬ mI M (ad 9 92) i = -1) ∨ (mI M (ad 9 92) i = -1 ∧ ∃ k, k < 60 ∧ mI M (ad 0 33) i = nI k ∧ ∀ th, th < 3 → mI M (ad 0 34) (3 * k + th) = mI M (ad 9 93) (3 * i + th)) := by
    intro i hi2
    obtain ⟨-, -, q⟩ := jB.2.2.1 i hi2
    rcases q with ⟨b, hb, q1, -, q3, -⟩ | ⟨q1, k, q2, q3, q4⟩
    · exact Or.inl ⟨q3, fun z => nI_m1 (n := b) (by omega) (q1.symm.trans z)⟩
    · exact Or.inr ⟨q1, k, by omega, q3, fun th hth => (q4 th hth).1⟩
  have hco : ∀ i, i < ne → mI M (ad 0 32) i = mI M (ad 9 91) i := fun i hi2 => (jB.2.2.1 i hi2).1
  have ne4 : ne ≤ 120 := by omega
  show Go 1311 152 0 0 0 [.ref (ad 0 0), .int a1, .retAddr 0] [] (mm M (mI M) (mJ M)) R
  refine go_blk 2 [] (pc' := 2) (vs' := [.ref (ad 0 0), .int a1, .retAddr 0]) (st' := [.int a1, .ref (ad 0 0)]) (M' := mm M (mI M) (mJ M)) (ps := []) rfl trivial ?_
  refine go_callV rfl rfl rfl (by omega) rfl (by decide) (by decide) (hF.o 0) ?_
  refine s_CY_begunAt (by omega) hF hB nb1 nb3 (fun b1 hb1 hg1 hx1 => ⟨ne_a, ?_⟩) (fun hn1 => ⟨ne_0, ?_⟩)
  · -- ('r', 'ad 2 b#')
    subst hx1
    obtain ⟨bc1q, bd1q, be1q⟩ := (iB.1 b1 (by assumption)).2.1.1
    obtain ⟨bw1q, bx1q, by1q, bz1q⟩ := (iB.1 b1 (by assumption)).2.2.1
    have hg21 : ¬ (mI M) (ad 9 16) b1 = 0 := fun q => hg1 ((iB.1 b1 hb1).1.2.2.2.2.2.2.2.1.trans q)
    have hgb1 : (mI M) (ad 9 16) b1 = 1 := b01_1 (iB.1 b1 hb1).2.1.2.2.2.2.2.2 hg21
    obtain ⟨e1, he1, hf1, hk1, hc1, hu1⟩ := jB.2.2.2 b1 hb1 hgb1
    show Go 1311 152 0 0 5 [.ref (ad 0 0), .int (nI b1), .retAddr 0] [.ref (ad 2 b1)] (mm M (mI M) (mJ M)) R
    refine go_blk 2 [] (pc' := 7) (vs' := [.ref (ad 0 0), .int (nI b1), .ref (ad 2 b1)]) (st' := [.ref (ad 2 b1)]) (M' := mm M (mI M) (mJ M)) (ps := []) rfl trivial ?_
    refine go_ifnon1 rfl ?_
    refine go_blk 4 [some (.ref (ad 0 9)), some (.int (nI e1))] (pc' := 22) (vs' := [.ref (ad 0 0), .int (nI b1), .ref (ad 2 b1)]) (st' := [.int (nI e1), .ref (ad 0 9)]) (M' := mm M (mI M) (mJ M)) (ps := [ob (mm M (mI M) (mJ M)) (ad 0 0) 11, mR (mm M (mI M) (mJ M)) (ad 0 0) 16 = some (ad 0 9), va_rf (some (ad 0 9)) = .ref (ad 0 9), ob (mm M (mI M) (mJ M)) (ad 2 b1) 0, (Value.int ((mI M) (ad 2 b1) 11)) = .int (nI e1)]) rfl ⟨(hF.o 0), (hF.r 0 16 9), rfl, (hB b1 (by assumption)).2, congrArg Value.int hf1, trivial⟩ ?_
    refine go_callV rfl rfl rfl (by omega) rfl (by decide) (by decide) (hF.o 9) ?_
    refine s_Bs_lostCoins (f := mI M) (by omega) hF (by assumption) ne4 jB.1.1 hE ⟨ne_i, ?_⟩
    show Go 1311 152 0 0 25 [.ref (ad 0 0), .int (nI b1), .ref (ad 2 b1)] [.int (smI (fun th => mx0 (lsV (mI M (ad 0 32)) (mI M (ad 9 92)) (mI M (ad 9 93)) ne e1 th) * mI M (ad 0 35) th) 3)] (mm M (mI M) (mJ M)) R
    refine go_blk 2 [some (.int ((mI M) (ad 9 9) b1))] (pc' := 29) (vs' := [.ref (ad 0 0), .int (nI b1), .ref (ad 2 b1)]) (st' := [.int ((mI M) (ad 9 9) b1), .int (smI (fun th => mx0 (lsV (mI M (ad 0 32)) (mI M (ad 9 92)) (mI M (ad 9 93)) ne e1 th) * mI M (ad 0 35) th) 3)]) (M' := mm M (mI M) (mJ M)) (ps := [ob (mm M (mI M) (mJ M)) (ad 2 b1) 0, (Value.int ((mI M) (ad 2 b1) 4)) = .int ((mI M) (ad 9 9) b1)]) rfl ⟨(hB b1 (by assumption)).2, congrArg Value.int ((iB.1 b1 (by assumption)).1.2.2.2.2.1), trivial⟩ ?_
    refine go_callS rfl (by decide) rfl rfl (by omega) rfl (by decide) (by decide) ?_
    refine s_JM_min0 (by omega) ⟨ne_i, ?_⟩
    show Go 1311 152 0 0 32 [.ref (ad 0 0), .int (nI b1), .ref (ad 2 b1)] [.int (if ((mI M) (ad 9 9) b1) < (smI (fun th => mx0 (lsV (mI M (ad 0 32)) (mI M (ad 9 92)) (mI M (ad 9 93)) ne e1 th) * mI M (ad 0 35) th) 3) then ((mI M) (ad 9 9) b1) else (smI (fun th => mx0 (lsV (mI M (ad 0 32)) (mI M (ad 9 92)) (mI M (ad 9 93)) ne e1 th) * mI M (ad 0 35) th) 3))] (mm M (mI M) (mJ M)) R
    refine go_iret rfl rfl ?_
    refine K _ _ hM.1 rfl (fun R2 h2 => ?_)
    show Go 1311 267 0 0 0 [.ref (ad 10 0), .int (nI b1), .retAddr 0, .retAddr 0] [] (mm M (mI M) (mJ M)) R2
    refine go_blk 5 [] (pc' := 7) (vs' := [.ref (ad 10 0), .int (nI b1), .retAddr 0, .retAddr 0]) (st' := [.int (nI b1), .ref (ad 10 0)]) (M' := mm M (up2 (mI M) (ad 10 0) 0 0) (mJ M)) (ps := [ob (mm M (mI M) (mJ M)) (ad 10 0) 12]) rfl ⟨hM.1, trivial⟩ ?_
    refine go_callV rfl rfl rfl (by omega) rfl (by decide) (by decide) hM.1 ?_
    refine s_Mo_isStay (by omega) hM (((up2_n _ _ (fun z => absurd z.2 (by decide))).trans (rfl)).trans nb2) nb3 (fun b2 hb2 hg2 hx2 => ⟨ne_i, ?_⟩) (fun hn2 => ⟨ne_i, ?_⟩)
    · -- ('i', '1')
      show Go 1311 267 0 0 10 [.ref (ad 10 0), .int (nI b1), .retAddr 0, .retAddr 0] [.int 1] (mm M (up2 (mI M) (ad 10 0) 0 0) (mJ M)) R2
      refine go_if rfl (fun _ => ?_) (fun (z : ¬ (¬ (1 : Int32) = 0)) => absurd (show ¬ (1 : Int32) = 0 from (by decide)) z)
      refine go_blk 4 [] (pc' := 19) (vs' := [.ref (ad 10 0), .int (nI b1), .int 0, .int 0]) (st' := []) (M' := mm M (up2 (mI M) (ad 10 0) 0 0) (mJ M)) (ps := []) rfl trivial ?_
      refine lp_Mo_kept (f := up2 (mI M) (ad 10 0) 0 0) (e := e1) (b := b1) (by omega) hM (by assumption) ne4 (by simpa [up2_ad hi, vw] using jB.1.2.1) (by simpa [up2_ad hi, vw] using hk1) (fun i2 q z => by have := hu1 i2 (by omega) (by simpa [up2_ad hi, vw] using z); omega) ?_ 0 (Nat.zero_le _)
      show Go 1311 267 0 0 50 [.ref (ad 10 0), .int (nI b1), .int (smI (fun th => mx0 (lsV ((up2 (mI M) (ad 10 0) 0 0) (ad 9 91)) ((up2 (mI M) (ad 10 0) 0 0) (ad 9 92)) ((up2 (mI M) (ad 10 0) 0 0) (ad 9 93)) ne e1 th) * (up2 (mI M) (ad 10 0) 0 0) (ad 9 94) th) 3), .int (nI 3)] [] (mm M (up2 (mI M) (ad 10 0) 0 0) (mJ M)) R2
      refine go_blk 5 [some (.ref (ad 9 9)), some (.int ((mI M) (ad 9 9) b1))] (pc' := 57) (vs' := [.ref (ad 10 0), .int (nI b1), .int (smI (fun th => mx0 (lsV ((up2 (mI M) (ad 10 0) 0 0) (ad 9 91)) ((up2 (mI M) (ad 10 0) 0 0) (ad 9 92)) ((up2 (mI M) (ad 10 0) 0 0) (ad 9 93)) ne e1 th) * (up2 (mI M) (ad 10 0) 0 0) (ad 9 94) th) 3), .int (nI 3)]) (st' := [.int ((mI M) (ad 9 9) b1), .int (smI (fun th => mx0 (lsV ((up2 (mI M) (ad 10 0) 0 0) (ad 9 91)) ((up2 (mI M) (ad 10 0) 0 0) (ad 9 92)) ((up2 (mI M) (ad 10 0) 0 0) (ad 9 93)) ne e1 th) * (up2 (mI M) (ad 10 0) 0 0) (ad 9 94) th) 3)]) (M' := mm M (up2 (mI M) (ad 10 0) 0 0) (mJ M)) (ps := [ob (mm M (up2 (mI M) (ad 10 0) 0 0) (mJ M)) (ad 10 0) 12, mR (mm M (up2 (mI M) (ad 10 0) 0 0) (mJ M)) (ad 10 0) 9 = some (ad 9 9), va_rf (some (ad 9 9)) = .ref (ad 9 9), ob (mm M (up2 (mI M) (ad 10 0) 0 0) (mJ M)) (ad 9 9) 15, vp_in (nI b1) (mN (mm M (up2 (mI M) (ad 10 0) 0 0) (mJ M)) (ad 9 9)), (Value.int ((up2 (mI M) (ad 10 0) 0 0) (ad 9 9) ((nI b1).toNatClampNeg))) = .int ((mI M) (ad 9 9) b1)]) rfl ⟨hM.1, (hM.r 9 15 60), rfl, (hM.o 9 15 60), (vpi (hM.n 9 15 60) (by omega)), congrArg Value.int ((congrArg (fun z => (up2 (mI M) (ad 10 0) 0 0) (ad 9 9) z) (nI_clamp (by omega))).trans ((up2_n _ _ (fun z => absurd (hi _ _ _ _ z.1).1 (by decide))).trans (rfl))), trivial⟩ ?_
      refine go_callS rfl (by decide) rfl rfl (by omega) rfl (by decide) (by decide) ?_
      refine s_JM_min0 (by omega) ⟨ne_i, ?_⟩
      show Go 1311 267 0 0 60 [.ref (ad 10 0), .int (nI b1), .int (smI (fun th => mx0 (lsV ((up2 (mI M) (ad 10 0) 0 0) (ad 9 91)) ((up2 (mI M) (ad 10 0) 0 0) (ad 9 92)) ((up2 (mI M) (ad 10 0) 0 0) (ad 9 93)) ne e1 th) * (up2 (mI M) (ad 10 0) 0 0) (ad 9 94) th) 3), .int (nI 3)] [.int (if ((mI M) (ad 9 9) b1) < (smI (fun th => mx0 (lsV ((up2 (mI M) (ad 10 0) 0 0) (ad 9 91)) ((up2 (mI M) (ad 10 0) 0 0) (ad 9 92)) ((up2 (mI M) (ad 10 0) 0 0) (ad 9 93)) ne e1 th) * (up2 (mI M) (ad 10 0) 0 0) (ad 9 94) th) 3) then ((mI M) (ad 9 9) b1) else (smI (fun th => mx0 (lsV ((up2 (mI M) (ad 10 0) 0 0) (ad 9 91)) ((up2 (mI M) (ad 10 0) 0 0) (ad 9 92)) ((up2 (mI M) (ad 10 0) 0 0) (ad 9 93)) ne e1 th) * (up2 (mI M) (ad 10 0) 0 0) (ad 9 94) th) 3))] (mm M (up2 (mI M) (ad 10 0) 0 0) (mJ M)) R2
      refine go_iret rfl rfl ?_
      have e9 : (if ((mI M) (ad 9 9) b1) < (smI (fun th => mx0 (lsV ((up2 (mI M) (ad 10 0) 0 0) (ad 9 91)) ((up2 (mI M) (ad 10 0) 0 0) (ad 9 92)) ((up2 (mI M) (ad 10 0) 0 0) (ad 9 93)) ne e1 th) * (up2 (mI M) (ad 10 0) 0 0) (ad 9 94) th) 3) then ((mI M) (ad 9 9) b1) else (smI (fun th => mx0 (lsV ((up2 (mI M) (ad 10 0) 0 0) (ad 9 91)) ((up2 (mI M) (ad 10 0) 0 0) (ad 9 92)) ((up2 (mI M) (ad 10 0) 0 0) (ad 9 93)) ne e1 th) * (up2 (mI M) (ad 10 0) 0 0) (ad 9 94) th) 3)) = if ((mI M) (ad 9 9) b1) < (smI (fun th => mx0 (lsV (mI M (ad 0 32)) (mI M (ad 9 92)) (mI M (ad 9 93)) ne e1 th) * mI M (ad 0 35) th) 3) then ((mI M) (ad 9 9) b1) else (smI (fun th => mx0 (lsV (mI M (ad 0 32)) (mI M (ad 9 92)) (mI M (ad 9 93)) ne e1 th) * mI M (ad 0 35) th) 3) := (by rw [smI_congr (n := 3) (t := fun th => mx0 (lsV ((up2 (mI M) (ad 10 0) 0 0) (ad 9 91)) ((up2 (mI M) (ad 10 0) 0 0) (ad 9 92)) ((up2 (mI M) (ad 10 0) 0 0) (ad 9 93)) ne e1 th) * (up2 (mI M) (ad 10 0) 0 0) (ad 9 94) th) (t' := fun th => mx0 (lsV (mI M (ad 0 32)) (mI M (ad 9 92)) (mI M (ad 9 93)) ne e1 th) * mI M (ad 0 35) th) (fun th hth => by rw [show lsV ((up2 (mI M) (ad 10 0) 0 0) (ad 9 91)) ((up2 (mI M) (ad 10 0) 0 0) (ad 9 92)) ((up2 (mI M) (ad 10 0) 0 0) (ad 9 93)) ne e1 th = lsV (mI M (ad 0 32)) (mI M (ad 9 92)) (mI M (ad 9 93)) ne e1 th from (by simp only [lsV, show (up2 (mI M) (ad 10 0) 0 0) (ad 9 91) = mI M (ad 9 91) from funext fun k => by simp [up2_ad hi], show (up2 (mI M) (ad 10 0) 0 0) (ad 9 92) = mI M (ad 9 92) from funext fun k => by simp [up2_ad hi], show (up2 (mI M) (ad 10 0) 0 0) (ad 9 93) = mI M (ad 9 93) from funext fun k => by simp [up2_ad hi]]; rw [pvE_congr (co := mI M (ad 0 32)) (hco e1 (by assumption)) (fun i2 q => hco i2 (by omega)), nxE_congr (co := mI M (ad 0 32)) (hco e1 (by assumption)) (fun i2 q1 q2 => hco i2 (by omega))]), show (up2 (mI M) (ad 10 0) 0 0) (ad 9 94) th = mI M (ad 0 35) th from by simpa [up2_ad hi, vw] using (jB.2.1 th hth).symm])])
      rw [e9]
      exact h2 _ ⟨hsc, ad, nc, nb, nt, wk, nw, nx, nl, ne, nk, kd, op, rfl, rfl, rfl, hW.thr⟩
    · -- ('i', '0')
      exact absurd ⟨b1, hb1, (by simpa [up2_ad hi, vw] using hg21), rfl⟩ hn2
  · -- ('n',)
    show Go 1311 152 0 0 5 [.ref (ad 0 0), .int a1, .retAddr 0] [.null] (mm M (mI M) (mJ M)) R
    refine go_blk 2 [] (pc' := 7) (vs' := [.ref (ad 0 0), .int a1, .null]) (st' := [.null]) (M' := mm M (mI M) (mJ M)) (ps := []) rfl trivial ?_
    refine go_ifnon0 rfl ?_
    refine go_blk 2 [] (pc' := 32) (vs' := [.ref (ad 0 0), .int a1, .null]) (st' := [.int (-1)]) (M' := mm M (mI M) (mJ M)) (ps := []) rfl trivial ?_
    refine go_iret rfl rfl ?_
    refine K _ _ hM.1 rfl (fun R2 h2 => ?_)
    show Go 1311 267 0 0 0 [.ref (ad 10 0), .int a1, .retAddr 0, .retAddr 0] [] (mm M (mI M) (mJ M)) R2
    refine go_blk 5 [] (pc' := 7) (vs' := [.ref (ad 10 0), .int a1, .retAddr 0, .retAddr 0]) (st' := [.int a1, .ref (ad 10 0)]) (M' := mm M (up2 (mI M) (ad 10 0) 0 0) (mJ M)) (ps := [ob (mm M (mI M) (mJ M)) (ad 10 0) 12]) rfl ⟨hM.1, trivial⟩ ?_
    refine go_callV rfl rfl rfl (by omega) rfl (by decide) (by decide) hM.1 ?_
    refine s_Mo_isStay (by omega) hM (((up2_n _ _ (fun z => absurd z.2 (by decide))).trans (rfl)).trans nb2) nb3 (fun b3 hb3 hg3 hx3 => ⟨ne_i, ?_⟩) (fun hn3 => ⟨ne_i, ?_⟩)
    · -- ('i', '1')
      exact absurd ⟨b3, hb3, fun q => hg3 (by simpa [up2_ad hi, vw] using (iB.1 b3 hb3).1.2.2.2.2.2.2.2.1.symm.trans q), hx3⟩ hn1
    · -- ('i', '0')
      show Go 1311 267 0 0 10 [.ref (ad 10 0), .int a1, .retAddr 0, .retAddr 0] [.int 0] (mm M (up2 (mI M) (ad 10 0) 0 0) (mJ M)) R2
      refine go_if rfl (fun (z : ¬ (0 : Int32) = 0) => absurd z (show ¬ (¬ (0 : Int32) = 0) from (by decide))) (fun _ => ?_)
      refine go_blk 1 [] (pc' := 14) (vs' := [.ref (ad 10 0), .int a1, .retAddr 0, .retAddr 0]) (st' := [.int (-1)]) (M' := mm M (up2 (mI M) (ad 10 0) 0 0) (mJ M)) (ps := []) rfl trivial ?_
      refine go_iret rfl rfl ?_
      exact h2 _ ⟨hsc, ad, nc, nb, nt, wk, nw, nx, nl, ne, nk, kd, op, rfl, rfl, rfl, hW.thr⟩

