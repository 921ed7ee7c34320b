/-! call: draw, both -/
set_option maxHeartbeats 20000000 in
set_option maxRecDepth 100000 in
theorem op39 {x o u : Nat} {sc : Nat × Nat × (Nat → Int32)} : Op39 (II x o u sc) x o := by
  intro M a1 a2 hI R K
  obtain ⟨hsc, ad, nc, nb, nt, wk, nw, nx, nl, ne, nk, kd, op, rfl, rfl, rfl, hW⟩ := hI
  obtain ⟨hi, ⟨hF, hM, hC, hB, hT, hX⟩, ⟨iS, iC, iB, iR, iL, iT⟩, ⟨jO, jR, jB, jX, jL⟩, kO, kC, kD, kP, kX⟩ := id hW
  obtain ⟨⟨nc1, nc2, nc3⟩, ⟨nb1, nb2, nb3⟩, ⟨nt1, nt2, nt3⟩, ⟨wk1, wk2, wk3⟩, ⟨nw1, nw2, nw3⟩, ⟨op1, op2, op3⟩, ncm, ncm1, ncm2, ncm3⟩ := id iS
  simp only [vw] at nc1 nc2 nb1 nb2 nt1 nt2 wk1 wk2 nw1 nw2 op1 op2 ncm2 ncm3
  obtain ⟨nn, nn3, nn1, nn2, nnb⟩ := jX.2.1
  simp only [vw] at nn1 nn2
  have nl3 := jL.1.2.2.1
  have nx3 := jX.1.2.2
  have nk3 := jB.1.2.2.2.2.1
  have ne3 := jB.1.2.2.2.2.2
  rcases op with _ | _
  · replace op1 : mI M (ad 0 0) 8 = 0 := op1
    replace op2 : mI M (ad 10 0) 21 = 0 := op2
    show Go 1311 155 0 0 0 [.ref (ad 0 0), .int a1, .long a2, .retAddr 1, .retAddr 0, .retAddr 0, .retAddr 0, .retAddr 0] [] (mm M (mI M) (mJ M)) R
    refine go_blk 2 [some (.int 0)] (pc' := 4) (vs' := [.ref (ad 0 0), .int a1, .long a2, .retAddr 1, .retAddr 0, .retAddr 0, .retAddr 0, .retAddr 0]) (st' := [.int 0]) (M' := mm M (mI M) (mJ M)) (ps := [ob (mm M (mI M) (mJ M)) (ad 0 0) 11, (Value.int ((mI M) (ad 0 0) 8)) = .int 0]) rfl ⟨(hF.o 0), congrArg Value.int op1, trivial⟩ ?_
    refine go_if rfl (fun _ => ?_) (fun (z : ¬ ((0 : Int32) = 0)) => absurd (show (0 : Int32) = 0 from (by decide)) z)
    refine go_blk 1 [] (pc' := 21) (vs' := [.ref (ad 0 0), .int a1, .long a2, .retAddr 1, .retAddr 0, .retAddr 0, .retAddr 0, .retAddr 0]) (st' := [.int (-1)]) (M' := mm M (mI M) (mJ M)) (ps := []) rfl trivial ?_
    refine go_iret rfl rfl ?_
    refine K _ _ hM.1 rfl (fun R2 h2 => ?_)
    show Go 1311 271 0 0 0 [.ref (ad 10 0), .int a1, .long a2, .retAddr 1, .retAddr 0, .retAddr 0, .retAddr 0, .retAddr 0, .retAddr 0, .retAddr 0, .retAddr 0, .retAddr 0, .retAddr 0, .retAddr 0, .retAddr 0, .retAddr 0] [] (mm M (mI M) (mJ M)) R2
    refine go_blk 10 [some (.int (nI nc))] (pc' := 17) (vs' := [.ref (ad 10 0), .int a1, .long a2, .retAddr 1, .int 0, .int 0, .retAddr 0, .retAddr 0, .retAddr 0, .retAddr 0, .retAddr 0, .retAddr 0, .retAddr 0, .retAddr 0, .retAddr 0, .retAddr 0]) (st' := [.int (nI nc), .int 0]) (M' := mm M (up2 (mI M) (ad 10 0) 0 0) (mJ M)) (ps := [ob (mm M (mI M) (mJ M)) (ad 10 0) 12, ob (mm M (up2 (mI M) (ad 10 0) 0 0) (mJ M)) (ad 10 0) 12, (Value.int ((up2 (mI M) (ad 10 0) 0 0) (ad 10 0) 17)) = .int (nI nc)]) rfl ⟨hM.1, hM.1, congrArg Value.int (((up2_n _ _ (fun z => absurd z.2 (by decide))).trans (rfl)).trans nc2), trivial⟩ ?_
    refine go_icmp rfl (fun (c1 : nI nc ≤ (0 : Int32)) => ?_) (fun (c1 : ¬ (nI nc ≤ (0 : Int32))) => ?_)
    · -- nI nc ≤ (0 : Int32)
      have nc1 : nc ≤ 0 := (nI_les (a := nc) (b := 0) (by omega) (by omega)).mp c1
      refine go_blk 2 [some (.int 0)] (pc' := 79) (vs' := [.ref (ad 10 0), .int a1, .long a2, .retAddr 1, .int 0, .int 0, .retAddr 0, .retAddr 0, .retAddr 0, .retAddr 0, .retAddr 0, .retAddr 0, .retAddr 0, .retAddr 0, .retAddr 0, .retAddr 0]) (st' := [.int 0]) (M' := mm M (up2 (mI M) (ad 10 0) 0 0) (mJ M)) (ps := [ob (mm M (up2 (mI M) (ad 10 0) 0 0) (mJ M)) (ad 10 0) 12, (Value.int ((up2 (mI M) (ad 10 0) 0 0) (ad 10 0) 21)) = .int 0]) rfl ⟨hM.1, congrArg Value.int (((up2_n _ _ (fun z => absurd z.2 (by decide))).trans (rfl)).trans op2), trivial⟩ ?_
      refine go_if rfl (fun _ => ?_) (fun (z : ¬ ((0 : Int32) = 0)) => absurd (show (0 : Int32) = 0 from (by decide)) z)
      refine go_blk 1 [] (pc' := 97) (vs' := [.ref (ad 10 0), .int a1, .long a2, .retAddr 1, .int 0, .int 0, .retAddr 0, .retAddr 0, .retAddr 0, .retAddr 0, .retAddr 0, .retAddr 0, .retAddr 0, .retAddr 0, .retAddr 0, .retAddr 0]) (st' := [.int (-1)]) (M' := mm M (up2 (mI M) (ad 10 0) 0 0) (mJ M)) (ps := []) rfl trivial ?_
      refine go_iret rfl rfl ?_
      exact h2 _ ⟨hsc, ad, nc, nb, nt, wk, nw, nx, nl, ne, nk, kd, false, rfl, rfl, rfl, hW.thr⟩
    · -- ¬ (nI nc ≤ (0 : Int32))
      have nc1 : 0 < nc := (nI_lts (a := 0) (b := nc) (by omega) (by omega)).mp (Int32.not_le.mp c1)
      refine go_blk 2 [some (.int 0)] (pc' := 24) (vs' := [.ref (ad 10 0), .int a1, .long a2, .retAddr 1, .int 0, .int 0, .retAddr 0, .retAddr 0, .retAddr 0, .retAddr 0, .retAddr 0, .retAddr 0, .retAddr 0, .retAddr 0, .retAddr 0, .retAddr 0]) (st' := [.int 0]) (M' := mm M (up2 (mI M) (ad 10 0) 0 0) (mJ M)) (ps := [ob (mm M (up2 (mI M) (ad 10 0) 0 0) (mJ M)) (ad 10 0) 12, (Value.int ((up2 (mI M) (ad 10 0) 0 0) (ad 10 0) 21)) = .int 0]) rfl ⟨hM.1, congrArg Value.int (((up2_n _ _ (fun z => absurd z.2 (by decide))).trans (rfl)).trans op2), trivial⟩ ?_
      refine go_if rfl (fun _ => ?_) (fun (z : ¬ ((0 : Int32) = 0)) => absurd (show (0 : Int32) = 0 from (by decide)) z)
      refine go_blk 2 [some (.int 0)] (pc' := 79) (vs' := [.ref (ad 10 0), .int a1, .long a2, .retAddr 1, .int 0, .int 0, .retAddr 0, .retAddr 0, .retAddr 0, .retAddr 0, .retAddr 0, .retAddr 0, .retAddr 0, .retAddr 0, .retAddr 0, .retAddr 0]) (st' := [.int 0]) (M' := mm M (up2 (mI M) (ad 10 0) 0 0) (mJ M)) (ps := [ob (mm M (up2 (mI M) (ad 10 0) 0 0) (mJ M)) (ad 10 0) 12, (Value.int ((up2 (mI M) (ad 10 0) 0 0) (ad 10 0) 21)) = .int 0]) rfl ⟨hM.1, congrArg Value.int (((up2_n _ _ (fun z => absurd z.2 (by decide))).trans (rfl)).trans op2), trivial⟩ ?_
      refine go_if rfl (fun _ => ?_) (fun (z : ¬ ((0 : Int32) = 0)) => absurd (show (0 : Int32) = 0 from (by decide)) z)
      refine go_blk 1 [] (pc' := 97) (vs' := [.ref (ad 10 0), .int a1, .long a2, .retAddr 1, .int 0, .int 0, .retAddr 0, .retAddr 0, .retAddr 0, .retAddr 0, .retAddr 0, .retAddr 0, .retAddr 0, .retAddr 0, .retAddr 0, .retAddr 0]) (st' := [.int (-1)]) (M' := mm M (up2 (mI M) (ad 10 0) 0 0) (mJ M)) (ps := []) rfl trivial ?_
      refine go_iret rfl rfl ?_
      exact h2 _ ⟨hsc, ad, nc, nb, nt, wk, nw, nx, nl, ne, nk, kd, false, rfl, rfl, rfl, hW.thr⟩
  · replace op1 : mI M (ad 0 0) 8 = 1 := op1
    replace op2 : mI M (ad 10 0) 21 = 1 := op2
    replace op3 : wk < 52 := op3 rfl
    obtain ⟨rd, hrd⟩ : ∃ rd : Nat → Bool, ∀ c, rd c = (decide (mI M (ad 9 32) (7 * wk + c) = 1) && decide (¬ mI M (ad 9 38) (7 * wk + c) = -1)) := ⟨_, fun _ => rfl⟩
    obtain ⟨W, hWd⟩ : ∃ W : Nat → Nat, ∀ c, W c = min 200 (1 + (mI M (ad 9 97) (4 * (mI M (ad 9 39) (7 * wk + c)).toNatClampNeg)).toNatClampNeg + (mI M (ad 9 97) (4 * (mI M (ad 9 39) (7 * wk + c)).toNatClampNeg + 1)).toNatClampNeg) := ⟨_, fun _ => rfl⟩
    have hW1 : ∀ c, rd c = true → 0 < W c := fun c _ => by rw [hWd]; omega
    have hB2 : ∀ c, W c ≤ 200 := fun c => by rw [hWd]; omega
    have hteam : ∀ c b, c < nc → b < nb → hJ (vw ad (mI M)) wk true b → jAt (vw ad (mI M)) b (7 * wk + c) → ¬ mI M (ad 9 38) (7 * wk + c) = -1 → ∃ t w0 w1, t < nt ∧ mI M (ad 9 39) (7 * wk + c) = nI t ∧ (mI M (ad 4 t) 0 = nI w0 ∧ mI M (ad 9 97) (4 * t) = nI w0) ∧ (mI M (ad 4 t) 1 = nI w1 ∧ mI M (ad 9 97) (4 * t + 1) = nI w1) ∧ W c = 1 + w0 + w1 := by
      intro c b hc hb hj ha h38
      obtain ⟨t, ht, h39⟩ := jteam jO hb hj ha h38
      obtain ⟨u1, m, n, m1, m2, m3, m4⟩ := (iT.1 t ht).2.2.1 0 (by omega)
      obtain ⟨v1, m', n', m1', m2', m3', m4'⟩ := (iT.1 t ht).2.2.1 1 (by omega)
      simp only [vw] at h39 u1 m3 v1 m3'
      rw [Nat.add_zero] at u1 m3
      refine ⟨t, m, m', ht, h39, ⟨u1.trans m3, m3⟩, ⟨v1.trans m3', m3'⟩, ?_⟩
      rw [hWd, h39, nI_clamp (by omega), m3, m3', nI_clamp (by omega), nI_clamp (by omega)]
      omega
    have hj : ∀ c, c < nc → DJ M (mI M) ad nt rd W c := by
      intro c hc
      rcases jR.2.2 rfl c hc with ⟨b, hb, hj, ha, hr⟩ | ⟨hr, h32⟩
      · have p := (jO.1 b hb hj _ ha)
        have p8 := p.1.2.2.2.2.2.2.2.1
        have p9 := p.1.2.2.2.2.2.2.2.2.1
        have p32 := p.2.1.2.2
        simp only [vw] at p8 p9 p32
        have ho := ((jR.1 b hb).1 hj).2.1
        by_cases h38 : mI M (ad 9 38) (7 * wk + c) = -1
        · exact Or.inr (Or.inl ⟨b, hr, ho, p8.trans h38, by rw [hrd, h38]; simp⟩)
        · obtain ⟨t, w0, w1, ht, h39, ⟨u1, -⟩, ⟨v1, -⟩, hw⟩ := hteam c b hc hb hj ha h38
          exact Or.inr (Or.inr ⟨b, t, w0, w1, hr, ho, fun z => h38 (p8.symm.trans z), by rw [hrd, p32]; simp [h38], ht, p9.trans h39, u1, v1, hw⟩)
      · simp only [vw] at h32
        exact Or.inl ⟨hr, by rw [hrd, h32]; simp⟩
    have hm : ∀ c, c < nc → MJ (up2 (mI M) (ad 10 0) 0 0) ad wk rd W c := by
      intro c hc
      unfold MJ
      simp only [up2_ad hi]
      rcases job_01 jO (j := 7 * wk + c) (by omega) with h32 | h32
      · have h32' : mI M (ad 9 32) (7 * wk + c) = 0 := h32
        exact Or.inl ⟨by rw [hrd, h32']; simp, Or.inl (by simpa using h32')⟩
      · have h32' : mI M (ad 9 32) (7 * wk + c) = 1 := h32
        by_cases h38 : mI M (ad 9 38) (7 * wk + c) = -1
        · exact Or.inl ⟨by rw [hrd, h38]; simp, Or.inr (by simpa using h38)⟩
        · obtain ⟨b, hb, hjb, hab⟩ := job_of jO (j := 7 * wk + c) (by omega) h32
          obtain ⟨t, w0, w1, ht, h39, ⟨-, u1⟩, ⟨-, v1⟩, hw⟩ := hteam c b hc hb hjb hab h38
          exact Or.inr ⟨by rw [hrd, h32']; simp [h38], by simpa using (show ¬ mI M (ad 9 32) (7 * wk + c) = 0 by rw [h32']; decide), by simpa using h38, t, w0, w1, by omega, by simpa using h39, by simpa using u1, by simpa using v1, hw⟩
    refine s_CY_draw (M := M) (f := mI M) (g := mJ M) (rd := rd) (W := W) (by omega) hF hT nt1 nt3 nc1 nc3 hj op1 hW1 hB2 (fun n n1 n2 e => ?_) (fun hA => ?_)
    · refine K _ _ hM.1 rfl (fun R2 h2 => ?_)
      refine s_Mo_draw (M := M) (f := mI M) (g := mJ M) (rd := rd) (W := W) (by omega) hM (by simpa [up2_ad hi] using wk2) op3 (by simpa [up2_ad hi] using nc2) nc3 hm (by simpa [up2_ad hi] using op2) hW1 hB2 (fun n' n1' n2' e' => ?_) (fun hA => absurd ⟨n, n1, n2, e⟩ hA)
      have hcl := ctB_le rd nc
      obtain rfl : n = n' := (nI_eqs (by omega) (by omega)).mp (e.symm.trans e')
      exact h2 _ ⟨hsc, ad, nc, nb, nt, wk, nw, nx, nl, ne, nk, kd, true, rfl, rfl, rfl, hW.thr⟩
    · refine K _ _ hM.1 rfl (fun R2 h2 => ?_)
      refine s_Mo_draw (M := M) (f := mI M) (g := mJ M) (rd := rd) (W := W) (by omega) hM (by simpa [up2_ad hi] using wk2) op3 (by simpa [up2_ad hi] using nc2) nc3 hm (by simpa [up2_ad hi] using op2) hW1 hB2 (fun n n1 n2 e => absurd ⟨n, n1, n2, e⟩ hA) (fun _ => ?_)
      exact h2 _ ⟨hsc, ad, nc, nb, nt, wk, nw, nx, nl, ne, nk, kd, true, rfl, rfl, rfl, hW.thr⟩

