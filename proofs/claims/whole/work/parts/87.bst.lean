/-! findPlan: cells that nobody looks at -/
theorem irr_1 {t i k : Nat} (y : t = 9 ∧ 53 ≤ i ∧ i ≤ 57) : irr t i k = true := by
  simp only [irr, Bool.or_eq_true, Bool.and_eq_true, beq_iff_eq, decide_eq_true_iff]
  exact Or.inl (Or.inl (Or.inl (Or.inr ⟨y.1, Or.inr ⟨y.2.1, y.2.2⟩⟩)))
theorem irr_2 {t i k : Nat} (y : t = 10 ∧ i = 0 ∧ 58 ≤ k ∧ k ≤ 61) : irr t i k = true := by
  simp only [irr, Bool.or_eq_true, Bool.and_eq_true, beq_iff_eq, decide_eq_true_iff]
  exact Or.inl (Or.inl (Or.inl (Or.inl ⟨y.1, Or.inl (Or.inr ⟨y.2.2.1, y.2.2.2⟩)⟩)))
theorem irr_3 {t i k : Nat} (y : t = 10 ∧ i = 0 ∧ k = 0) : irr t i k = true := by
  simp only [irr, Bool.or_eq_true, Bool.and_eq_true, beq_iff_eq, decide_eq_true_iff]
  exact Or.inl (Or.inl (Or.inl (Or.inl ⟨y.1, Or.inl (Or.inl (Or.inl y.2.2))⟩)))

/-! call: best -/
theorem lN_sar {B k : Nat} (hB : B < 2 ^ 63) (hk : k < 64) : lN B >>> ((nI k).toInt64 &&& 63) = lN (B / 2 ^ k) := by
  rw [wb_c k hk]
  apply wb_inj
  rw [Int64.toBitVec_shiftRight, wb_tb, wb_tb, wb_tb]
  have e1 : ((BitVec.ofNat 64 k).smod 64) = BitVec.ofNat 64 k := by
    revert k
    decide +kernel
  rw [e1]
  show (BitVec.ofNat 64 B).sshiftRight (BitVec.ofNat 64 k).toNat = _
  rw [BitVec.sshiftRight_eq_of_msb_false (BitVec.msb_eq_false_iff_two_mul_lt.mpr (by rw [BitVec.toNat_ofNat, Nat.mod_eq_of_lt (by omega)]; omega))]
  apply BitVec.eq_of_toNat_eq
  rw [BitVec.toNat_ushiftRight, BitVec.toNat_ofNat, BitVec.toNat_ofNat, BitVec.toNat_ofNat, Nat.mod_eq_of_lt (show k < 2 ^ 64 by omega), Nat.mod_eq_of_lt (show B < 2 ^ 64 by omega), Nat.shiftRight_eq_div_pow, Nat.mod_eq_of_lt]
  exact Nat.lt_of_le_of_lt (Nat.div_le_self _ _) (by omega)
theorem lN_and (a b : Nat) : lN a &&& lN b = lN (a &&& b) := wb_inj (by rw [Int64.toBitVec_and, wb_tb, wb_tb, wb_tb, BitVec.ofNat_and])
theorem cp_0 {v : Nat × Nat × Nat} (h : v.2.1 ≤ 15 ∧ v.2.2 ≤ 4095) (hb : pk3 v < 2 ^ 62) : (lN (pk3 v) >>> ((16 : Int32).toInt64 &&& 63)).toInt32 = nI v.1 := by
  have e := lN_sar (B := pk3 v) (k := 16) (by omega) (by omega)
  rw [show (16 : Int32) = nI 16 from rfl, e, lN_i]
  unfold pk3
  rw [show (2 : Nat) ^ 16 = 65536 from rfl]
  congr 1
  omega
theorem cp_1 {v : Nat × Nat × Nat} (h : v.2.1 ≤ 15 ∧ v.2.2 ≤ 4095) (hb : pk3 v < 2 ^ 62) : ((lN (pk3 v) &&& 65535) >>> ((12 : Int32).toInt64 &&& 63)).toInt32 = nI v.2.1 := by
  rw [show (65535 : Int64) = lN 65535 from rfl, lN_and, show 65535 = 2 ^ 16 - 1 from rfl, Nat.and_two_pow_sub_one_eq_mod]
  have l : pk3 v % 2 ^ 16 < 2 ^ 16 := Nat.mod_lt _ (by decide)
  have e := lN_sar (B := pk3 v % 2 ^ 16) (k := 12) (by omega) (by omega)
  rw [show (12 : Int32) = nI 12 from rfl, e, lN_i]
  unfold pk3
  rw [show (2 : Nat) ^ 16 = 65536 from rfl, show (2 : Nat) ^ 12 = 4096 from rfl]
  congr 1
  omega
theorem cp_2 {v : Nat × Nat × Nat} (h : v.2.1 ≤ 15 ∧ v.2.2 ≤ 4095) (hb : pk3 v < 2 ^ 62) : ((lN (pk3 v) &&& 65535) &&& 4095).toInt32 = nI v.2.2 := by
  rw [show (65535 : Int64) = lN 65535 from rfl, lN_and, show 65535 = 2 ^ 16 - 1 from rfl, Nat.and_two_pow_sub_one_eq_mod, show (4095 : Int64) = lN 4095 from rfl, lN_and, show 4095 = 2 ^ 12 - 1 from rfl, Nat.and_two_pow_sub_one_eq_mod, lN_i]
  unfold pk3
  rw [show (2 : Nat) ^ 16 = 65536 from rfl, show (2 : Nat) ^ 12 = 4096 from rfl]
  congr 1
  omega
theorem FPm.MB {M : Mem} {ad : Nat → Nat → Nat} {nb nt nc wk nw : Nat} {r : Nat → Nat → Option Nat} {f : Nat → Nat → Int32} {g : Nat → Nat → Int64} {p : Nat → Nat → Int32} (k : FPm M ad nb nt nc wk nw r f g) (h : MB p nt nc wk nw ad (mI M)) : MB p nt nc wk nw ad f := by
  obtain ⟨h1, h2, h3, h4, h5, h6⟩ := h
  have e := k.2.1
  exact ⟨fun i j hp => (e 9 i j (by omega) (by omega)).trans (h1 i j hp), (e 10 0 31 (by omega) (by omega)).trans h2, (e 10 0 17 (by omega) (by omega)).trans h3, (e 10 0 19 (by omega) (by omega)).trans h4, (e 10 0 20 (by omega) (by omega)).trans h5, (e 10 0 30 (by omega) (by omega)).trans h6⟩
theorem FPm.best {M : Mem} {ad : Nat → Nat → Nat} {nb nt nc wk nw : Nat} {r : Nat → Nat → Option Nat} {f : Nat → Nat → Int32} {g : Nat → Nat → Int64} (k : FPm M ad nb nt nc wk nw r f g) (hP : PW (ppv (vw ad (mI M))) nt nc wk nw) (hps : tdL (ppv (vw ad (mI M))) nc wk = [] ∨ 0 < nt) : ∃ ρ, isBest (ppv (vw ad (mI M))) nt nc wk nw ρ ∧ g (ad 0 7) 17 = lN (pk3 (pl3 (ppv (vw ad (mI M))) nt wk nw ρ nt)) ∧ pk3 (pl3 (ppv (vw ad (mI M))) nt wk nw ρ nt) < 2 ^ 62 ∧ ∀ t, t < 3 → f (ad 0 30) t = nI (octR (tdL (ppv (vw ad (mI M))) nc wk) (ρ t) 7) := by
  obtain ⟨ρ, b1, b2, b3⟩ := k.2.2.2.2.2 hps
  have pb := plan_ct hP b1.1 nt (Nat.le_refl _)
  have bd := plan_bd hP b1.1
  have ln := plan_len b1.1
  have l7 := td_le (p := ppv (vw ad (mI M))) (nc := nc) (wk := wk)
  have nc7 := hP.2.2.2
  have lt : pk3 (pl3 (ppv (vw ad (mI M))) nt wk nw ρ nt) < 2 ^ 62 := by
    unfold pk3
    have := pb.2.1
    omega
  refine ⟨ρ, b1, ?_, lt, b3⟩
  rw [pb.1, packV_ct] at b2
  apply Int64.toInt_inj.mp
  rw [b2, pk_lT (by omega)]
theorem trG.irr {ad : Nat → Nat → Nat} {f f' : Nat → Nat → Int32} (h : trG ad f f') : ∀ t i k, irr t i k = false → vw ad f' t i k = vw ad f t i k := fun t i k hq => h t i k (fun y => by
  rw [irr_1 y] at hq; cases hq) (fun y => by rw [irr_2 y] at hq; cases hq) (fun y => by rw [irr_3 y] at hq; cases hq)

set_option maxHeartbeats 20000000 in
set_option maxRecDepth 100000 in
theorem op17 {x o u : Nat} {sc : Nat × Nat × (Nat → Int32)} : Op17 (II x o u sc) x o := by
  intro M a1 hI R K
  obtain ⟨hsc, ad, nc, nb, nt, wk, nw, nx, nl, ne, nk, kd, op, rfl, rfl, rfl, hW⟩ := hI
  obtain ⟨hi, ⟨hF, hM, hC, hB, hT, hX⟩, ⟨iS, iC, iB, iR, iL, iT⟩, ⟨jO, jR, jB, jX, jL⟩, kO, kC, kD, kP, kX⟩ := id hW
  obtain ⟨⟨nc1, nc2, nc3⟩, ⟨nb1, nb2, nb3⟩, ⟨nt1, nt2, nt3⟩, ⟨wk1, wk2, wk3⟩, ⟨nw1, nw2, nw3⟩, ⟨op1, op2, op3⟩, ncm, ncm1, ncm2, ncm3⟩ := id iS
  simp only [vw] at nc1 nc2 nb1 nb2 nt1 nt2 wk1 wk2 nw1 nw2 op1 op2 ncm2 ncm3
  obtain ⟨nn, nn3, nn1, nn2, nnb⟩ := jX.2.1
  simp only [vw] at nn1 nn2
  have nl3 := jL.1.2.2.1
  have nx3 := jX.1.2.2
  have nk3 := jB.1.2.2.2.2.1
  have ne3 := jB.1.2.2.2.2.2
  rcases op with _ | _
  · replace op1 : mI M (ad 0 0) 8 = 0 := op1
    replace op2 : mI M (ad 10 0) 21 = 0 := op2
    show Go 1311 133 0 0 0 [.ref (ad 0 0), .int a1] [] (mm M (mI M) (mJ M)) R
    refine go_blk 3 [] (pc' := 3) (vs' := [.ref (ad 0 0), .int a1]) (st' := [.int 2, .int 0, .int a1]) (M' := mm M (mI M) (mJ M)) (ps := []) rfl trivial ?_
    refine go_callS rfl (by decide) rfl rfl (by omega) rfl (by decide) (by decide) ?_
    refine s_CY_withinK 0 2 (by decide) (by decide) (fun j1 hl1 hj1 hx1 => ⟨ne_i, ?_⟩) (fun c1 => ⟨ne_i, ?_⟩)
    · -- 1
      subst hx1
      rcases (show j1 = 0 ∨ j1 = 1 ∨ j1 = 2 by omega) with rfl | rfl | rfl
      · -- 0
        show Go 1311 133 0 0 6 [.ref (ad 0 0), .int 0] [.int 1] (mm M (mI M) (mJ M)) R
        refine go_if rfl (fun (z : (1 : Int32) = 0) => absurd z (show ¬ ((1 : Int32) = 0) from (by decide))) (fun _ => ?_)
        refine go_blk 1 [] (pc' := 10) (vs' := [.ref (ad 0 0), .int 0]) (st' := [.ref (ad 0 0)]) (M' := mm M (mI M) (mJ M)) (ps := []) rfl trivial ?_
        refine go_callV rfl rfl rfl (by omega) rfl (by decide) (by decide) (hF.o 0) ?_
        show Go (1311 - 1) 176 0 0 0 [.ref (ad 0 0)] [] (mm M (mI M) (mJ M)) _
        refine go_blk 2 [some (.int 0)] (pc' := 4) (vs' := [.ref (ad 0 0)]) (st' := [.int 0]) (M' := mm M (mI M) (mJ M)) (ps := [ob (mm M (mI M) (mJ M)) (ad 0 0) 11, (Value.int ((mI M) (ad 0 0) 8)) = .int 0]) rfl ⟨(hF.o 0), congrArg Value.int op1, trivial⟩ ?_
        refine go_if rfl (fun (z : ¬ (0 : Int32) = 0) => absurd z (show ¬ (¬ (0 : Int32) = 0) from (by decide))) (fun _ => ?_)
        refine go_blk 1 [] (pc' := 8) (vs' := [.ref (ad 0 0)]) (st' := [.int 0]) (M' := mm M (mI M) (mJ M)) (ps := []) rfl trivial ?_
        refine go_zret rfl rfl (Or.inl rfl) ?_
        refine ⟨ne_i, ?_⟩
        show Go 1311 133 0 0 13 [.ref (ad 0 0), .int 0] [.int 0] (mm M (mI M) (mJ M)) R
        refine go_if rfl (fun (z : ¬ (0 : Int32) = 0) => absurd z (show ¬ (¬ (0 : Int32) = 0) from (by decide))) (fun _ => ?_)
        refine go_blk 1 [] (pc' := 17) (vs' := [.ref (ad 0 0), .int 0]) (st' := [.int (-1)]) (M' := mm M (mI M) (mJ M)) (ps := []) rfl trivial ?_
        refine go_iret rfl rfl ?_
        refine K _ _ hM.1 rfl (fun R2 h2 => ?_)
        show Go 1311 221 0 0 0 [.ref (ad 10 0), .int 0] [] (mm M (mI M) (mJ M)) R2
        refine go_blk 1 [] (pc' := 1) (vs' := [.ref (ad 10 0), .int 0]) (st' := [.ref (ad 10 0)]) (M' := mm M (mI M) (mJ M)) (ps := []) rfl trivial ?_
        refine go_callV rfl rfl rfl (by omega) rfl (by decide) (by decide) hM.1 ?_
        show Go (1311 - 1) 220 0 0 0 [.ref (ad 10 0), .retAddr 0] [] (mm M (mI M) (mJ M)) _
        refine go_blk 5 [some (.int 0)] (pc' := 9) (vs' := [.ref (ad 10 0), .retAddr 0]) (st' := [.int 0]) (M' := mm M (up2 (mI M) (ad 10 0) 0 0) (mJ M)) (ps := [ob (mm M (mI M) (mJ M)) (ad 10 0) 12, ob (mm M (up2 (mI M) (ad 10 0) 0 0) (mJ M)) (ad 10 0) 12, (Value.int ((up2 (mI M) (ad 10 0) 0 0) (ad 10 0) 21)) = .int 0]) rfl ⟨hM.1, hM.1, congrArg Value.int (((up2_n _ _ (fun z => absurd z.2 (by decide))).trans (rfl)).trans op2), trivial⟩ ?_
        refine go_if rfl (fun (z : ¬ (0 : Int32) = 0) => absurd z (show ¬ (¬ (0 : Int32) = 0) from (by decide))) (fun _ => ?_)
        refine go_blk 1 [] (pc' := 13) (vs' := [.ref (ad 10 0), .retAddr 0]) (st' := [.int 0]) (M' := mm M (up2 (mI M) (ad 10 0) 0 0) (mJ M)) (ps := []) rfl trivial ?_
        refine go_zret rfl rfl (Or.inl rfl) ?_
        refine ⟨ne_i, ?_⟩
        show Go 1311 221 0 0 4 [.ref (ad 10 0), .int 0] [.int 0] (mm M (up2 (mI M) (ad 10 0) 0 0) (mJ M)) R2
        refine go_if rfl (fun _ => ?_) (fun (z : ¬ ((0 : Int32) = 0)) => absurd (show (0 : Int32) = 0 from (by decide)) z)
        refine go_blk 1 [] (pc' := 47) (vs' := [.ref (ad 10 0), .int 0]) (st' := [.int (-1)]) (M' := mm M (up2 (mI M) (ad 10 0) 0 0) (mJ M)) (ps := []) rfl trivial ?_
        refine go_iret rfl rfl ?_
        exact h2 _ ⟨hsc, ad, nc, nb, nt, wk, nw, nx, nl, ne, nk, kd, false, rfl, rfl, rfl, hW.thr⟩
      · -- 1
        show Go 1311 133 0 0 6 [.ref (ad 0 0), .int 1] [.int 1] (mm M (mI M) (mJ M)) R
        refine go_if rfl (fun (z : (1 : Int32) = 0) => absurd z (show ¬ ((1 : Int32) = 0) from (by decide))) (fun _ => ?_)
        refine go_blk 1 [] (pc' := 10) (vs' := [.ref (ad 0 0), .int 1]) (st' := [.ref (ad 0 0)]) (M' := mm M (mI M) (mJ M)) (ps := []) rfl trivial ?_
        refine go_callV rfl rfl rfl (by omega) rfl (by decide) (by decide) (hF.o 0) ?_
        show Go (1311 - 1) 176 0 0 0 [.ref (ad 0 0)] [] (mm M (mI M) (mJ M)) _
        refine go_blk 2 [some (.int 0)] (pc' := 4) (vs' := [.ref (ad 0 0)]) (st' := [.int 0]) (M' := mm M (mI M) (mJ M)) (ps := [ob (mm M (mI M) (mJ M)) (ad 0 0) 11, (Value.int ((mI M) (ad 0 0) 8)) = .int 0]) rfl ⟨(hF.o 0), congrArg Value.int op1, trivial⟩ ?_
        refine go_if rfl (fun (z : ¬ (0 : Int32) = 0) => absurd z (show ¬ (¬ (0 : Int32) = 0) from (by decide))) (fun _ => ?_)
        refine go_blk 1 [] (pc' := 8) (vs' := [.ref (ad 0 0)]) (st' := [.int 0]) (M' := mm M (mI M) (mJ M)) (ps := []) rfl trivial ?_
        refine go_zret rfl rfl (Or.inl rfl) ?_
        refine ⟨ne_i, ?_⟩
        show Go 1311 133 0 0 13 [.ref (ad 0 0), .int 1] [.int 0] (mm M (mI M) (mJ M)) R
        refine go_if rfl (fun (z : ¬ (0 : Int32) = 0) => absurd z (show ¬ (¬ (0 : Int32) = 0) from (by decide))) (fun _ => ?_)
        refine go_blk 1 [] (pc' := 17) (vs' := [.ref (ad 0 0), .int 1]) (st' := [.int (-1)]) (M' := mm M (mI M) (mJ M)) (ps := []) rfl trivial ?_
        refine go_iret rfl rfl ?_
        refine K _ _ hM.1 rfl (fun R2 h2 => ?_)
        show Go 1311 221 0 0 0 [.ref (ad 10 0), .int 1] [] (mm M (mI M) (mJ M)) R2
        refine go_blk 1 [] (pc' := 1) (vs' := [.ref (ad 10 0), .int 1]) (st' := [.ref (ad 10 0)]) (M' := mm M (mI M) (mJ M)) (ps := []) rfl trivial ?_
        refine go_callV rfl rfl rfl (by omega) rfl (by decide) (by decide) hM.1 ?_
        show Go (1311 - 1) 220 0 0 0 [.ref (ad 10 0), .retAddr 0] [] (mm M (mI M) (mJ M)) _
        refine go_blk 5 [some (.int 0)] (pc' := 9) (vs' := [.ref (ad 10 0), .retAddr 0]) (st' := [.int 0]) (M' := mm M (up2 (mI M) (ad 10 0) 0 0) (mJ M)) (ps := [ob (mm M (mI M) (mJ M)) (ad 10 0) 12, ob (mm M (up2 (mI M) (ad 10 0) 0 0) (mJ M)) (ad 10 0) 12, (Value.int ((up2 (mI M) (ad 10 0) 0 0) (ad 10 0) 21)) = .int 0]) rfl ⟨hM.1, hM.1, congrArg Value.int (((up2_n _ _ (fun z => absurd z.2 (by decide))).trans (rfl)).trans op2), trivial⟩ ?_
        refine go_if rfl (fun (z : ¬ (0 : Int32) = 0) => absurd z (show ¬ (¬ (0 : Int32) = 0) from (by decide))) (fun _ => ?_)
        refine go_blk 1 [] (pc' := 13) (vs' := [.ref (ad 10 0), .retAddr 0]) (st' := [.int 0]) (M' := mm M (up2 (mI M) (ad 10 0) 0 0) (mJ M)) (ps := []) rfl trivial ?_
        refine go_zret rfl rfl (Or.inl rfl) ?_
        refine ⟨ne_i, ?_⟩
        show Go 1311 221 0 0 4 [.ref (ad 10 0), .int 1] [.int 0] (mm M (up2 (mI M) (ad 10 0) 0 0) (mJ M)) R2
        refine go_if rfl (fun _ => ?_) (fun (z : ¬ ((0 : Int32) = 0)) => absurd (show (0 : Int32) = 0 from (by decide)) z)
        refine go_blk 1 [] (pc' := 47) (vs' := [.ref (ad 10 0), .int 1]) (st' := [.int (-1)]) (M' := mm M (up2 (mI M) (ad 10 0) 0 0) (mJ M)) (ps := []) rfl trivial ?_
        refine go_iret rfl rfl ?_
        exact h2 _ ⟨hsc, ad, nc, nb, nt, wk, nw, nx, nl, ne, nk, kd, false, rfl, rfl, rfl, hW.thr⟩
      · -- 2
        show Go 1311 133 0 0 6 [.ref (ad 0 0), .int 2] [.int 1] (mm M (mI M) (mJ M)) R
        refine go_if rfl (fun (z : (1 : Int32) = 0) => absurd z (show ¬ ((1 : Int32) = 0) from (by decide))) (fun _ => ?_)
        refine go_blk 1 [] (pc' := 10) (vs' := [.ref (ad 0 0), .int 2]) (st' := [.ref (ad 0 0)]) (M' := mm M (mI M) (mJ M)) (ps := []) rfl trivial ?_
        refine go_callV rfl rfl rfl (by omega) rfl (by decide) (by decide) (hF.o 0) ?_
        show Go (1311 - 1) 176 0 0 0 [.ref (ad 0 0)] [] (mm M (mI M) (mJ M)) _
        refine go_blk 2 [some (.int 0)] (pc' := 4) (vs' := [.ref (ad 0 0)]) (st' := [.int 0]) (M' := mm M (mI M) (mJ M)) (ps := [ob (mm M (mI M) (mJ M)) (ad 0 0) 11, (Value.int ((mI M) (ad 0 0) 8)) = .int 0]) rfl ⟨(hF.o 0), congrArg Value.int op1, trivial⟩ ?_
        refine go_if rfl (fun (z : ¬ (0 : Int32) = 0) => absurd z (show ¬ (¬ (0 : Int32) = 0) from (by decide))) (fun _ => ?_)
        refine go_blk 1 [] (pc' := 8) (vs' := [.ref (ad 0 0)]) (st' := [.int 0]) (M' := mm M (mI M) (mJ M)) (ps := []) rfl trivial ?_
        refine go_zret rfl rfl (Or.inl rfl) ?_
        refine ⟨ne_i, ?_⟩
        show Go 1311 133 0 0 13 [.ref (ad 0 0), .int 2] [.int 0] (mm M (mI M) (mJ M)) R
        refine go_if rfl (fun (z : ¬ (0 : Int32) = 0) => absurd z (show ¬ (¬ (0 : Int32) = 0) from (by decide))) (fun _ => ?_)
        refine go_blk 1 [] (pc' := 17) (vs' := [.ref (ad 0 0), .int 2]) (st' := [.int (-1)]) (M' := mm M (mI M) (mJ M)) (ps := []) rfl trivial ?_
        refine go_iret rfl rfl ?_
        refine K _ _ hM.1 rfl (fun R2 h2 => ?_)
        show Go 1311 221 0 0 0 [.ref (ad 10 0), .int 2] [] (mm M (mI M) (mJ M)) R2
        refine go_blk 1 [] (pc' := 1) (vs' := [.ref (ad 10 0), .int 2]) (st' := [.ref (ad 10 0)]) (M' := mm M (mI M) (mJ M)) (ps := []) rfl trivial ?_
        refine go_callV rfl rfl rfl (by omega) rfl (by decide) (by decide) hM.1 ?_
        show Go (1311 - 1) 220 0 0 0 [.ref (ad 10 0), .retAddr 0] [] (mm M (mI M) (mJ M)) _
        refine go_blk 5 [some (.int 0)] (pc' := 9) (vs' := [.ref (ad 10 0), .retAddr 0]) (st' := [.int 0]) (M' := mm M (up2 (mI M) (ad 10 0) 0 0) (mJ M)) (ps := [ob (mm M (mI M) (mJ M)) (ad 10 0) 12, ob (mm M (up2 (mI M) (ad 10 0) 0 0) (mJ M)) (ad 10 0) 12, (Value.int ((up2 (mI M) (ad 10 0) 0 0) (ad 10 0) 21)) = .int 0]) rfl ⟨hM.1, hM.1, congrArg Value.int (((up2_n _ _ (fun z => absurd z.2 (by decide))).trans (rfl)).trans op2), trivial⟩ ?_
        refine go_if rfl (fun (z : ¬ (0 : Int32) = 0) => absurd z (show ¬ (¬ (0 : Int32) = 0) from (by decide))) (fun _ => ?_)
        refine go_blk 1 [] (pc' := 13) (vs' := [.ref (ad 10 0), .retAddr 0]) (st' := [.int 0]) (M' := mm M (up2 (mI M) (ad 10 0) 0 0) (mJ M)) (ps := []) rfl trivial ?_
        refine go_zret rfl rfl (Or.inl rfl) ?_
        refine ⟨ne_i, ?_⟩
        show Go 1311 221 0 0 4 [.ref (ad 10 0), .int 2] [.int 0] (mm M (up2 (mI M) (ad 10 0) 0 0) (mJ M)) R2
        refine go_if rfl (fun _ => ?_) (fun (z : ¬ ((0 : Int32) = 0)) => absurd (show (0 : Int32) = 0 from (by decide)) z)
        refine go_blk 1 [] (pc' := 47) (vs' := [.ref (ad 10 0), .int 2]) (st' := [.int (-1)]) (M' := mm M (up2 (mI M) (ad 10 0) 0 0) (mJ M)) (ps := []) rfl trivial ?_
        refine go_iret rfl rfl ?_
        exact h2 _ ⟨hsc, ad, nc, nb, nt, wk, nw, nx, nl, ne, nk, kd, false, rfl, rfl, rfl, hW.thr⟩
    · -- 0
      show Go 1311 133 0 0 6 [.ref (ad 0 0), .int a1] [.int 0] (mm M (mI M) (mJ M)) R
      refine go_if rfl (fun _ => ?_) (fun (z : ¬ ((0 : Int32) = 0)) => absurd (show (0 : Int32) = 0 from (by decide)) z)
      refine go_blk 1 [] (pc' := 17) (vs' := [.ref (ad 0 0), .int a1]) (st' := [.int (-1)]) (M' := mm M (mI M) (mJ M)) (ps := []) rfl trivial ?_
      refine go_iret rfl rfl ?_
      refine K _ _ hM.1 rfl (fun R2 h2 => ?_)
      show Go 1311 221 0 0 0 [.ref (ad 10 0), .int a1] [] (mm M (mI M) (mJ M)) R2
      refine go_blk 1 [] (pc' := 1) (vs' := [.ref (ad 10 0), .int a1]) (st' := [.ref (ad 10 0)]) (M' := mm M (mI M) (mJ M)) (ps := []) rfl trivial ?_
      refine go_callV rfl rfl rfl (by omega) rfl (by decide) (by decide) hM.1 ?_
      show Go (1311 - 1) 220 0 0 0 [.ref (ad 10 0), .retAddr 0] [] (mm M (mI M) (mJ M)) _
      refine go_blk 5 [some (.int 0)] (pc' := 9) (vs' := [.ref (ad 10 0), .retAddr 0]) (st' := [.int 0]) (M' := mm M (up2 (mI M) (ad 10 0) 0 0) (mJ M)) (ps := [ob (mm M (mI M) (mJ M)) (ad 10 0) 12, ob (mm M (up2 (mI M) (ad 10 0) 0 0) (mJ M)) (ad 10 0) 12, (Value.int ((up2 (mI M) (ad 10 0) 0 0) (ad 10 0) 21)) = .int 0]) rfl ⟨hM.1, hM.1, congrArg Value.int (((up2_n _ _ (fun z => absurd z.2 (by decide))).trans (rfl)).trans op2), trivial⟩ ?_
      refine go_if rfl (fun (z : ¬ (0 : Int32) = 0) => absurd z (show ¬ (¬ (0 : Int32) = 0) from (by decide))) (fun _ => ?_)
      refine go_blk 1 [] (pc' := 13) (vs' := [.ref (ad 10 0), .retAddr 0]) (st' := [.int 0]) (M' := mm M (up2 (mI M) (ad 10 0) 0 0) (mJ M)) (ps := []) rfl trivial ?_
      refine go_zret rfl rfl (Or.inl rfl) ?_
      refine ⟨ne_i, ?_⟩
      show Go 1311 221 0 0 4 [.ref (ad 10 0), .int a1] [.int 0] (mm M (up2 (mI M) (ad 10 0) 0 0) (mJ M)) R2
      refine go_if rfl (fun _ => ?_) (fun (z : ¬ ((0 : Int32) = 0)) => absurd (show (0 : Int32) = 0 from (by decide)) z)
      refine go_blk 1 [] (pc' := 47) (vs' := [.ref (ad 10 0), .int a1]) (st' := [.int (-1)]) (M' := mm M (up2 (mI M) (ad 10 0) 0 0) (mJ M)) (ps := []) rfl trivial ?_
      refine go_iret rfl rfl ?_
      exact h2 _ ⟨hsc, ad, nc, nb, nt, wk, nw, nx, nl, ne, nk, kd, false, rfl, rfl, rfl, hW.thr⟩
  · replace op1 : mI M (ad 0 0) 8 = 1 := op1
    replace op2 : mI M (ad 10 0) 21 = 1 := op2
    replace op3 : wk < 52 := op3 rfl
    show Go 1311 133 0 0 0 [.ref (ad 0 0), .int a1] [] (mm M (mI M) (mJ M)) R
    refine go_blk 3 [] (pc' := 3) (vs' := [.ref (ad 0 0), .int a1]) (st' := [.int 2, .int 0, .int a1]) (M' := mm M (mI M) (mJ M)) (ps := []) rfl trivial ?_
    refine go_callS rfl (by decide) rfl rfl (by omega) rfl (by decide) (by decide) ?_
    refine s_CY_withinK 0 2 (by decide) (by decide) (fun j1 hl1 hj1 hx1 => ⟨ne_i, ?_⟩) (fun c1 => ⟨ne_i, ?_⟩)
    · -- 1
      subst hx1
      rcases (show j1 = 0 ∨ j1 = 1 ∨ j1 = 2 by omega) with rfl | rfl | rfl
      · -- 0
        show Go 1311 133 0 0 6 [.ref (ad 0 0), .int 0] [.int 1] (mm M (mI M) (mJ M)) R
        refine go_if rfl (fun (z : (1 : Int32) = 0) => absurd z (show ¬ ((1 : Int32) = 0) from (by decide))) (fun _ => ?_)
        refine go_blk 1 [] (pc' := 10) (vs' := [.ref (ad 0 0), .int 0]) (st' := [.ref (ad 0 0)]) (M' := mm M (mI M) (mJ M)) (ps := []) rfl trivial ?_
        refine go_callV rfl rfl rfl (by omega) rfl (by decide) (by decide) (hF.o 0) ?_
        refine s_CY_findPlan (M := M) (by omega) hW (fun r f1 g1 fp hps => ⟨ne_i, ?_⟩) (fun r f1 g1 fp hps => ⟨ne_i, ?_⟩)
        · -- ('i', '1')
          have hW1 := WI_plan hW fp
          have hM0 := hM
          have hF : Fx (mr M r) ad := hW1.2.1.1
          have hM : Mx (mr M r) ad := hW1.2.1.2.1
          have pw := pl_world hW
          obtain ⟨ρ1, q1, q2, q3, q4⟩ := fp.best pw.2.1 hps
          obtain ⟨v3, hv3⟩ : ∃ v3, pl3 (ppv (vw ad (mI M))) nt wk nw ρ1 nt = v3 := ⟨_, rfl⟩
          have bd3 := plan_bd pw.2.1 q1.1
          rw [hv3] at q2 q3 bd3
          show Go 1311 133 0 0 13 [.ref (ad 0 0), .int 0] [.int 1] (mm (mr M r) f1 g1) R
          refine go_if rfl (fun _ => ?_) (fun (z : ¬ (¬ (1 : Int32) = 0)) => absurd (show ¬ (1 : Int32) = 0 from (by decide)) z)
          refine go_blk 3 [some (.ref (ad 0 7))] (pc' := 23) (vs' := [.ref (ad 0 0), .int 0]) (st' := [.int 0, .ref (ad 0 7)]) (M' := mm (mr M r) f1 g1) (ps := [ob (mm (mr M r) f1 g1) (ad 0 0) 11, mR (mm (mr M r) f1 g1) (ad 0 0) 14 = some (ad 0 7), va_rf (some (ad 0 7)) = .ref (ad 0 7)]) rfl ⟨(hF.o 0), (hF.r 0 14 7), rfl, trivial⟩ ?_
          refine go_callV rfl rfl rfl (by omega) rfl (by decide) (by decide) (hF.o 7) ?_
          show Go (1311 - 1) 48 0 0 0 [.ref (ad 0 7), .int 0, .retAddr 0, .retAddr 0, .retAddr 0, .retAddr 0] [] (mm (mr M r) f1 g1) _
          refine go_blk 4 [some (.long (lN (pk3 v3)))] (pc' := 6) (vs' := [.ref (ad 0 7), .int 0, .long (lN (pk3 v3)), .retAddr 1, .retAddr 0, .retAddr 0]) (st' := [.int 0]) (M' := mm (mr M r) f1 g1) (ps := [ob (mm (mr M r) f1 g1) (ad 0 7) 6, (Value.long (g1 (ad 0 7) 17)) = .long (lN (pk3 v3))]) rfl ⟨(hF.o 7), congrArg Value.long q2, trivial⟩ ?_
          refine go_if rfl (fun (z : ¬ (0 : Int32) = 0) => absurd z (show ¬ (¬ (0 : Int32) = 0) from (by decide))) (fun _ => ?_)
          refine go_blk 4 [] (pc' := 14) (vs' := [.ref (ad 0 7), .int 0, .long (lN (pk3 v3)), .retAddr 1, .retAddr 0, .retAddr 0]) (st' := [.int (((lN (pk3 v3)) >>> ((16 : Int32).toInt64 &&& 63)).toInt32)]) (M' := mm (mr M r) f1 g1) (ps := []) rfl trivial ?_
          refine go_iret rfl rfl ?_
          refine ⟨ne_i, ?_⟩
          show Go 1311 133 0 0 26 [.ref (ad 0 0), .int 0] [.int (((lN (pk3 v3)) >>> ((16 : Int32).toInt64 &&& 63)).toInt32)] (mm (mr M r) f1 g1) R
          refine go_iret rfl rfl ?_
          refine K _ _ hM.1 rfl (fun R2 h2 => ?_)
          show Go 1311 221 0 0 0 [.ref (ad 10 0), .int 0] [] (mm (mr M r) f1 g1) R2
          refine go_blk 1 [] (pc' := 1) (vs' := [.ref (ad 10 0), .int 0]) (st' := [.ref (ad 10 0)]) (M' := mm (mr M r) f1 g1) (ps := []) rfl trivial ?_
          refine go_callV rfl rfl rfl (by omega) rfl (by decide) (by decide) hM.1 ?_
          refine s_Mo_findPlan (p := ppv (vw ad (mI M))) (by omega) hi hM pw.2.1 nt3 op3 nw3 pw.2.2.1 pw.2.2.2.2.1 (fp.MB pw.1) ((fp.2.1 10 0 21 (by omega) (by omega)).trans op2) pw.2.2.2.2.2.1 (fun f2 m1 m2 => ⟨ne_i, ?_⟩) (fun f2 ρ2 m1 m2 m3 m4 m5 => ⟨ne_i, ?_⟩)
          · -- ('i', '0')
            show Go 1311 221 0 0 4 [.ref (ad 10 0), .int 0] [.int 0] (mm (mr M r) f2 g1) R2
            refine go_if rfl (fun _ => ?_) (fun (z : ¬ ((0 : Int32) = 0)) => absurd (show (0 : Int32) = 0 from (by decide)) z)
            refine go_blk 1 [] (pc' := 47) (vs' := [.ref (ad 10 0), .int 0]) (st' := [.int (-1)]) (M' := mm (mr M r) f2 g1) (ps := []) rfl trivial ?_
            refine go_iret rfl rfl ?_
            exact absurd hps m2
          · -- ('i', '1')
            show Go 1311 221 0 0 4 [.ref (ad 10 0), .int 0] [.int 1] (mm (mr M r) f2 g1) R2
            refine go_if rfl (fun (z : (1 : Int32) = 0) => absurd z (show ¬ ((1 : Int32) = 0) from (by decide))) (fun _ => ?_)
            refine go_blk 3 [] (pc' := 10) (vs' := [.ref (ad 10 0), .int 0]) (st' := [.int 2, .int 0, .int 0]) (M' := mm (mr M r) f2 g1) (ps := []) rfl trivial ?_
            refine go_callS rfl (by decide) rfl rfl (by omega) rfl (by decide) (by decide) ?_
            refine s_Mo_isInK 0 2 (by decide) (by decide) (fun j4 hl4 hj4 hx4 => ⟨ne_i, ?_⟩) (fun c4 => ⟨ne_i, ?_⟩)
            · -- 1
              show Go 1311 221 0 0 13 [.ref (ad 10 0), .int 0] [.int 1] (mm (mr M r) f2 g1) R2
              refine go_if rfl (fun (z : (1 : Int32) = 0) => absurd z (show ¬ ((1 : Int32) = 0) from (by decide))) (fun _ => ?_)
              refine go_blk 1 [] (pc' := 17) (vs' := [.ref (ad 10 0), .int 0]) (st' := [.int 0]) (M' := mm (mr M r) f2 g1) (ps := []) rfl trivial ?_
              refine go_if rfl (fun (z : ¬ (0 : Int32) = 0) => absurd z (show ¬ (¬ (0 : Int32) = 0) from (by decide))) (fun _ => ?_)
              refine go_blk 3 [some (.int (nI (pl3 (ppv (vw ad (mI M))) nt wk nw ρ2 nt).1))] (pc' := 47) (vs' := [.ref (ad 10 0), .int 0]) (st' := [.int (nI (pl3 (ppv (vw ad (mI M))) nt wk nw ρ2 nt).1)]) (M' := mm (mr M r) f2 g1) (ps := [ob (mm (mr M r) f2 g1) (ad 10 0) 12, (Value.int (f2 (ad 10 0) 59)) = .int (nI (pl3 (ppv (vw ad (mI M))) nt wk nw ρ2 nt).1)]) rfl ⟨hM.1, congrArg Value.int m4.1, trivial⟩ ?_
              refine go_iret rfl rfl ?_
              have eu := best_uniq pw.2.1 m3 q1
              rw [eu, hv3]
              have e9 := cp_0 bd3 q3
              rw [e9] at h2
              exact h2 _ ⟨hsc, ad, nc, nb, nt, wk, nw, nx, nl, ne, nk, kd, true, rfl, rfl, rfl, hW1.keep m1.irr (fun _ _ _ _ => rfl)⟩
            · exact absurd ⟨0, by decide, by decide, rfl⟩ c4
        · -- ('i', '0')
          have hW1 := WI_plan hW fp
          have hM0 := hM
          have hF : Fx (mr M r) ad := hW1.2.1.1
          have hM : Mx (mr M r) ad := hW1.2.1.2.1
          have pw := pl_world hW
          show Go 1311 133 0 0 13 [.ref (ad 0 0), .int 0] [.int 0] (mm (mr M r) f1 g1) R
          refine go_if rfl (fun (z : ¬ (0 : Int32) = 0) => absurd z (show ¬ (¬ (0 : Int32) = 0) from (by decide))) (fun _ => ?_)
          refine go_blk 1 [] (pc' := 17) (vs' := [.ref (ad 0 0), .int 0]) (st' := [.int (-1)]) (M' := mm (mr M r) f1 g1) (ps := []) rfl trivial ?_
          refine go_iret rfl rfl ?_
          refine K _ _ hM.1 rfl (fun R2 h2 => ?_)
          show Go 1311 221 0 0 0 [.ref (ad 10 0), .int 0] [] (mm (mr M r) f1 g1) R2
          refine go_blk 1 [] (pc' := 1) (vs' := [.ref (ad 10 0), .int 0]) (st' := [.ref (ad 10 0)]) (M' := mm (mr M r) f1 g1) (ps := []) rfl trivial ?_
          refine go_callV rfl rfl rfl (by omega) rfl (by decide) (by decide) hM.1 ?_
          refine s_Mo_findPlan (p := ppv (vw ad (mI M))) (by omega) hi hM pw.2.1 nt3 op3 nw3 pw.2.2.1 pw.2.2.2.2.1 (fp.MB pw.1) ((fp.2.1 10 0 21 (by omega) (by omega)).trans op2) pw.2.2.2.2.2.1 (fun f2 m1 m2 => ⟨ne_i, ?_⟩) (fun f2 ρ2 m1 m2 m3 m4 m5 => ⟨ne_i, ?_⟩)
          · -- ('i', '0')
            show Go 1311 221 0 0 4 [.ref (ad 10 0), .int 0] [.int 0] (mm (mr M r) f2 g1) R2
            refine go_if rfl (fun _ => ?_) (fun (z : ¬ ((0 : Int32) = 0)) => absurd (show (0 : Int32) = 0 from (by decide)) z)
            refine go_blk 1 [] (pc' := 47) (vs' := [.ref (ad 10 0), .int 0]) (st' := [.int (-1)]) (M' := mm (mr M r) f2 g1) (ps := []) rfl trivial ?_
            refine go_iret rfl rfl ?_
            exact h2 _ ⟨hsc, ad, nc, nb, nt, wk, nw, nx, nl, ne, nk, kd, true, rfl, rfl, rfl, hW1.keep m1.irr (fun _ _ _ _ => rfl)⟩
          · -- ('i', '1')
            show Go 1311 221 0 0 4 [.ref (ad 10 0), .int 0] [.int 1] (mm (mr M r) f2 g1) R2
            refine go_if rfl (fun (z : (1 : Int32) = 0) => absurd z (show ¬ ((1 : Int32) = 0) from (by decide))) (fun _ => ?_)
            refine go_blk 3 [] (pc' := 10) (vs' := [.ref (ad 10 0), .int 0]) (st' := [.int 2, .int 0, .int 0]) (M' := mm (mr M r) f2 g1) (ps := []) rfl trivial ?_
            refine go_callS rfl (by decide) rfl rfl (by omega) rfl (by decide) (by decide) ?_
            refine s_Mo_isInK 0 2 (by decide) (by decide) (fun j6 hl6 hj6 hx6 => ⟨ne_i, ?_⟩) (fun c6 => ⟨ne_i, ?_⟩)
            · -- 1
              show Go 1311 221 0 0 13 [.ref (ad 10 0), .int 0] [.int 1] (mm (mr M r) f2 g1) R2
              refine go_if rfl (fun (z : (1 : Int32) = 0) => absurd z (show ¬ ((1 : Int32) = 0) from (by decide))) (fun _ => ?_)
              refine go_blk 1 [] (pc' := 17) (vs' := [.ref (ad 10 0), .int 0]) (st' := [.int 0]) (M' := mm (mr M r) f2 g1) (ps := []) rfl trivial ?_
              refine go_if rfl (fun (z : ¬ (0 : Int32) = 0) => absurd z (show ¬ (¬ (0 : Int32) = 0) from (by decide))) (fun _ => ?_)
              refine go_blk 3 [some (.int (nI (pl3 (ppv (vw ad (mI M))) nt wk nw ρ2 nt).1))] (pc' := 47) (vs' := [.ref (ad 10 0), .int 0]) (st' := [.int (nI (pl3 (ppv (vw ad (mI M))) nt wk nw ρ2 nt).1)]) (M' := mm (mr M r) f2 g1) (ps := [ob (mm (mr M r) f2 g1) (ad 10 0) 12, (Value.int (f2 (ad 10 0) 59)) = .int (nI (pl3 (ppv (vw ad (mI M))) nt wk nw ρ2 nt).1)]) rfl ⟨hM.1, congrArg Value.int m4.1, trivial⟩ ?_
              refine go_iret rfl rfl ?_
              exact absurd m2 hps
            · exact absurd ⟨0, by decide, by decide, rfl⟩ c6
      · -- 1
        show Go 1311 133 0 0 6 [.ref (ad 0 0), .int 1] [.int 1] (mm M (mI M) (mJ M)) R
        refine go_if rfl (fun (z : (1 : Int32) = 0) => absurd z (show ¬ ((1 : Int32) = 0) from (by decide))) (fun _ => ?_)
        refine go_blk 1 [] (pc' := 10) (vs' := [.ref (ad 0 0), .int 1]) (st' := [.ref (ad 0 0)]) (M' := mm M (mI M) (mJ M)) (ps := []) rfl trivial ?_
        refine go_callV rfl rfl rfl (by omega) rfl (by decide) (by decide) (hF.o 0) ?_
        refine s_CY_findPlan (M := M) (by omega) hW (fun r f1 g1 fp hps => ⟨ne_i, ?_⟩) (fun r f1 g1 fp hps => ⟨ne_i, ?_⟩)
        · -- ('i', '1')
          have hW1 := WI_plan hW fp
          have hM0 := hM
          have hF : Fx (mr M r) ad := hW1.2.1.1
          have hM : Mx (mr M r) ad := hW1.2.1.2.1
          have pw := pl_world hW
          obtain ⟨ρ1, q1, q2, q3, q4⟩ := fp.best pw.2.1 hps
          obtain ⟨v3, hv3⟩ : ∃ v3, pl3 (ppv (vw ad (mI M))) nt wk nw ρ1 nt = v3 := ⟨_, rfl⟩
          have bd3 := plan_bd pw.2.1 q1.1
          rw [hv3] at q2 q3 bd3
          show Go 1311 133 0 0 13 [.ref (ad 0 0), .int 1] [.int 1] (mm (mr M r) f1 g1) R
          refine go_if rfl (fun _ => ?_) (fun (z : ¬ (¬ (1 : Int32) = 0)) => absurd (show ¬ (1 : Int32) = 0 from (by decide)) z)
          refine go_blk 3 [some (.ref (ad 0 7))] (pc' := 23) (vs' := [.ref (ad 0 0), .int 1]) (st' := [.int 1, .ref (ad 0 7)]) (M' := mm (mr M r) f1 g1) (ps := [ob (mm (mr M r) f1 g1) (ad 0 0) 11, mR (mm (mr M r) f1 g1) (ad 0 0) 14 = some (ad 0 7), va_rf (some (ad 0 7)) = .ref (ad 0 7)]) rfl ⟨(hF.o 0), (hF.r 0 14 7), rfl, trivial⟩ ?_
          refine go_callV rfl rfl rfl (by omega) rfl (by decide) (by decide) (hF.o 7) ?_
          show Go (1311 - 1) 48 0 0 0 [.ref (ad 0 7), .int 1, .retAddr 0, .retAddr 0, .retAddr 0, .retAddr 0] [] (mm (mr M r) f1 g1) _
          refine go_blk 4 [some (.long (lN (pk3 v3)))] (pc' := 6) (vs' := [.ref (ad 0 7), .int 1, .long (lN (pk3 v3)), .retAddr 1, .retAddr 0, .retAddr 0]) (st' := [.int 1]) (M' := mm (mr M r) f1 g1) (ps := [ob (mm (mr M r) f1 g1) (ad 0 7) 6, (Value.long (g1 (ad 0 7) 17)) = .long (lN (pk3 v3))]) rfl ⟨(hF.o 7), congrArg Value.long q2, trivial⟩ ?_
          refine go_if rfl (fun _ => ?_) (fun (z : ¬ (¬ (1 : Int32) = 0)) => absurd (show ¬ (1 : Int32) = 0 from (by decide)) z)
          refine go_blk 6 [] (pc' := 24) (vs' := [.ref (ad 0 7), .int 1, .long (lN (pk3 v3)), .retAddr 1, .long ((lN (pk3 v3)) &&& 65535), .retAddr 1]) (st' := [.int 1, .int 1]) (M' := mm (mr M r) f1 g1) (ps := []) rfl trivial ?_
          refine go_icmp rfl (fun (z : ¬ (1 : Int32) = 1) => absurd z (show ¬ (¬ (1 : Int32) = 1) from (by decide))) (fun _ => ?_)
          refine go_blk 5 [] (pc' := 42) (vs' := [.ref (ad 0 7), .int 1, .long (lN (pk3 v3)), .retAddr 1, .long ((lN (pk3 v3)) &&& 65535), .retAddr 1]) (st' := [.int ((((lN (pk3 v3)) &&& 65535) >>> ((12 : Int32).toInt64 &&& 63)).toInt32)]) (M' := mm (mr M r) f1 g1) (ps := []) rfl trivial ?_
          refine go_iret rfl rfl ?_
          refine ⟨ne_i, ?_⟩
          show Go 1311 133 0 0 26 [.ref (ad 0 0), .int 1] [.int ((((lN (pk3 v3)) &&& 65535) >>> ((12 : Int32).toInt64 &&& 63)).toInt32)] (mm (mr M r) f1 g1) R
          refine go_iret rfl rfl ?_
          refine K _ _ hM.1 rfl (fun R2 h2 => ?_)
          show Go 1311 221 0 0 0 [.ref (ad 10 0), .int 1] [] (mm (mr M r) f1 g1) R2
          refine go_blk 1 [] (pc' := 1) (vs' := [.ref (ad 10 0), .int 1]) (st' := [.ref (ad 10 0)]) (M' := mm (mr M r) f1 g1) (ps := []) rfl trivial ?_
          refine go_callV rfl rfl rfl (by omega) rfl (by decide) (by decide) hM.1 ?_
          refine s_Mo_findPlan (p := ppv (vw ad (mI M))) (by omega) hi hM pw.2.1 nt3 op3 nw3 pw.2.2.1 pw.2.2.2.2.1 (fp.MB pw.1) ((fp.2.1 10 0 21 (by omega) (by omega)).trans op2) pw.2.2.2.2.2.1 (fun f2 m1 m2 => ⟨ne_i, ?_⟩) (fun f2 ρ2 m1 m2 m3 m4 m5 => ⟨ne_i, ?_⟩)
          · -- ('i', '0')
            show Go 1311 221 0 0 4 [.ref (ad 10 0), .int 1] [.int 0] (mm (mr M r) f2 g1) R2
            refine go_if rfl (fun _ => ?_) (fun (z : ¬ ((0 : Int32) = 0)) => absurd (show (0 : Int32) = 0 from (by decide)) z)
            refine go_blk 1 [] (pc' := 47) (vs' := [.ref (ad 10 0), .int 1]) (st' := [.int (-1)]) (M' := mm (mr M r) f2 g1) (ps := []) rfl trivial ?_
            refine go_iret rfl rfl ?_
            exact absurd hps m2
          · -- ('i', '1')
            show Go 1311 221 0 0 4 [.ref (ad 10 0), .int 1] [.int 1] (mm (mr M r) f2 g1) R2
            refine go_if rfl (fun (z : (1 : Int32) = 0) => absurd z (show ¬ ((1 : Int32) = 0) from (by decide))) (fun _ => ?_)
            refine go_blk 3 [] (pc' := 10) (vs' := [.ref (ad 10 0), .int 1]) (st' := [.int 2, .int 0, .int 1]) (M' := mm (mr M r) f2 g1) (ps := []) rfl trivial ?_
            refine go_callS rfl (by decide) rfl rfl (by omega) rfl (by decide) (by decide) ?_
            refine s_Mo_isInK 0 2 (by decide) (by decide) (fun j9 hl9 hj9 hx9 => ⟨ne_i, ?_⟩) (fun c9 => ⟨ne_i, ?_⟩)
            · -- 1
              show Go 1311 221 0 0 13 [.ref (ad 10 0), .int 1] [.int 1] (mm (mr M r) f2 g1) R2
              refine go_if rfl (fun (z : (1 : Int32) = 0) => absurd z (show ¬ ((1 : Int32) = 0) from (by decide))) (fun _ => ?_)
              refine go_blk 1 [] (pc' := 17) (vs' := [.ref (ad 10 0), .int 1]) (st' := [.int 1]) (M' := mm (mr M r) f2 g1) (ps := []) rfl trivial ?_
              refine go_if rfl (fun _ => ?_) (fun (z : ¬ (¬ (1 : Int32) = 0)) => absurd (show ¬ (1 : Int32) = 0 from (by decide)) z)
              refine go_blk 2 [] (pc' := 29) (vs' := [.ref (ad 10 0), .int 1]) (st' := [.int 1, .int 1]) (M' := mm (mr M r) f2 g1) (ps := []) rfl trivial ?_
              refine go_icmp rfl (fun (z : ¬ (1 : Int32) = 1) => absurd z (show ¬ (¬ (1 : Int32) = 1) from (by decide))) (fun _ => ?_)
              refine go_blk 3 [some (.int (nI (pl3 (ppv (vw ad (mI M))) nt wk nw ρ2 nt).2.1))] (pc' := 47) (vs' := [.ref (ad 10 0), .int 1]) (st' := [.int (nI (pl3 (ppv (vw ad (mI M))) nt wk nw ρ2 nt).2.1)]) (M' := mm (mr M r) f2 g1) (ps := [ob (mm (mr M r) f2 g1) (ad 10 0) 12, (Value.int (f2 (ad 10 0) 60)) = .int (nI (pl3 (ppv (vw ad (mI M))) nt wk nw ρ2 nt).2.1)]) rfl ⟨hM.1, congrArg Value.int m4.2.1, trivial⟩ ?_
              refine go_iret rfl rfl ?_
              have eu := best_uniq pw.2.1 m3 q1
              rw [eu, hv3]
              have e9 := cp_1 bd3 q3
              rw [e9] at h2
              exact h2 _ ⟨hsc, ad, nc, nb, nt, wk, nw, nx, nl, ne, nk, kd, true, rfl, rfl, rfl, hW1.keep m1.irr (fun _ _ _ _ => rfl)⟩
            · exact absurd ⟨1, by decide, by decide, rfl⟩ c9
        · -- ('i', '0')
          have hW1 := WI_plan hW fp
          have hM0 := hM
          have hF : Fx (mr M r) ad := hW1.2.1.1
          have hM : Mx (mr M r) ad := hW1.2.1.2.1
          have pw := pl_world hW
          show Go 1311 133 0 0 13 [.ref (ad 0 0), .int 1] [.int 0] (mm (mr M r) f1 g1) R
          refine go_if rfl (fun (z : ¬ (0 : Int32) = 0) => absurd z (show ¬ (¬ (0 : Int32) = 0) from (by decide))) (fun _ => ?_)
          refine go_blk 1 [] (pc' := 17) (vs' := [.ref (ad 0 0), .int 1]) (st' := [.int (-1)]) (M' := mm (mr M r) f1 g1) (ps := []) rfl trivial ?_
          refine go_iret rfl rfl ?_
          refine K _ _ hM.1 rfl (fun R2 h2 => ?_)
          show Go 1311 221 0 0 0 [.ref (ad 10 0), .int 1] [] (mm (mr M r) f1 g1) R2
          refine go_blk 1 [] (pc' := 1) (vs' := [.ref (ad 10 0), .int 1]) (st' := [.ref (ad 10 0)]) (M' := mm (mr M r) f1 g1) (ps := []) rfl trivial ?_
          refine go_callV rfl rfl rfl (by omega) rfl (by decide) (by decide) hM.1 ?_
          refine s_Mo_findPlan (p := ppv (vw ad (mI M))) (by omega) hi hM pw.2.1 nt3 op3 nw3 pw.2.2.1 pw.2.2.2.2.1 (fp.MB pw.1) ((fp.2.1 10 0 21 (by omega) (by omega)).trans op2) pw.2.2.2.2.2.1 (fun f2 m1 m2 => ⟨ne_i, ?_⟩) (fun f2 ρ2 m1 m2 m3 m4 m5 => ⟨ne_i, ?_⟩)
          · -- ('i', '0')
            show Go 1311 221 0 0 4 [.ref (ad 10 0), .int 1] [.int 0] (mm (mr M r) f2 g1) R2
            refine go_if rfl (fun _ => ?_) (fun (z : ¬ ((0 : Int32) = 0)) => absurd (show (0 : Int32) = 0 from (by decide)) z)
            refine go_blk 1 [] (pc' := 47) (vs' := [.ref (ad 10 0), .int 1]) (st' := [.int (-1)]) (M' := mm (mr M r) f2 g1) (ps := []) rfl trivial ?_
            refine go_iret rfl rfl ?_
            exact h2 _ ⟨hsc, ad, nc, nb, nt, wk, nw, nx, nl, ne, nk, kd, true, rfl, rfl, rfl, hW1.keep m1.irr (fun _ _ _ _ => rfl)⟩
          · -- ('i', '1')
            show Go 1311 221 0 0 4 [.ref (ad 10 0), .int 1] [.int 1] (mm (mr M r) f2 g1) R2
            refine go_if rfl (fun (z : (1 : Int32) = 0) => absurd z (show ¬ ((1 : Int32) = 0) from (by decide))) (fun _ => ?_)
            refine go_blk 3 [] (pc' := 10) (vs' := [.ref (ad 10 0), .int 1]) (st' := [.int 2, .int 0, .int 1]) (M' := mm (mr M r) f2 g1) (ps := []) rfl trivial ?_
            refine go_callS rfl (by decide) rfl rfl (by omega) rfl (by decide) (by decide) ?_
            refine s_Mo_isInK 0 2 (by decide) (by decide) (fun j11 hl11 hj11 hx11 => ⟨ne_i, ?_⟩) (fun c11 => ⟨ne_i, ?_⟩)
            · -- 1
              show Go 1311 221 0 0 13 [.ref (ad 10 0), .int 1] [.int 1] (mm (mr M r) f2 g1) R2
              refine go_if rfl (fun (z : (1 : Int32) = 0) => absurd z (show ¬ ((1 : Int32) = 0) from (by decide))) (fun _ => ?_)
              refine go_blk 1 [] (pc' := 17) (vs' := [.ref (ad 10 0), .int 1]) (st' := [.int 1]) (M' := mm (mr M r) f2 g1) (ps := []) rfl trivial ?_
              refine go_if rfl (fun _ => ?_) (fun (z : ¬ (¬ (1 : Int32) = 0)) => absurd (show ¬ (1 : Int32) = 0 from (by decide)) z)
              refine go_blk 2 [] (pc' := 29) (vs' := [.ref (ad 10 0), .int 1]) (st' := [.int 1, .int 1]) (M' := mm (mr M r) f2 g1) (ps := []) rfl trivial ?_
              refine go_icmp rfl (fun (z : ¬ (1 : Int32) = 1) => absurd z (show ¬ (¬ (1 : Int32) = 1) from (by decide))) (fun _ => ?_)
              refine go_blk 3 [some (.int (nI (pl3 (ppv (vw ad (mI M))) nt wk nw ρ2 nt).2.1))] (pc' := 47) (vs' := [.ref (ad 10 0), .int 1]) (st' := [.int (nI (pl3 (ppv (vw ad (mI M))) nt wk nw ρ2 nt).2.1)]) (M' := mm (mr M r) f2 g1) (ps := [ob (mm (mr M r) f2 g1) (ad 10 0) 12, (Value.int (f2 (ad 10 0) 60)) = .int (nI (pl3 (ppv (vw ad (mI M))) nt wk nw ρ2 nt).2.1)]) rfl ⟨hM.1, congrArg Value.int m4.2.1, trivial⟩ ?_
              refine go_iret rfl rfl ?_
              exact absurd m2 hps
            · exact absurd ⟨1, by decide, by decide, rfl⟩ c11
      · -- 2
        show Go 1311 133 0 0 6 [.ref (ad 0 0), .int 2] [.int 1] (mm M (mI M) (mJ M)) R
        refine go_if rfl (fun (z : (1 : Int32) = 0) => absurd z (show ¬ ((1 : Int32) = 0) from (by decide))) (fun _ => ?_)
        refine go_blk 1 [] (pc' := 10) (vs' := [.ref (ad 0 0), .int 2]) (st' := [.ref (ad 0 0)]) (M' := mm M (mI M) (mJ M)) (ps := []) rfl trivial ?_
        refine go_callV rfl rfl rfl (by omega) rfl (by decide) (by decide) (hF.o 0) ?_
        refine s_CY_findPlan (M := M) (by omega) hW (fun r f1 g1 fp hps => ⟨ne_i, ?_⟩) (fun r f1 g1 fp hps => ⟨ne_i, ?_⟩)
        · -- ('i', '1')
          have hW1 := WI_plan hW fp
          have hM0 := hM
          have hF : Fx (mr M r) ad := hW1.2.1.1
          have hM : Mx (mr M r) ad := hW1.2.1.2.1
          have pw := pl_world hW
          obtain ⟨ρ1, q1, q2, q3, q4⟩ := fp.best pw.2.1 hps
          obtain ⟨v3, hv3⟩ : ∃ v3, pl3 (ppv (vw ad (mI M))) nt wk nw ρ1 nt = v3 := ⟨_, rfl⟩
          have bd3 := plan_bd pw.2.1 q1.1
          rw [hv3] at q2 q3 bd3
          show Go 1311 133 0 0 13 [.ref (ad 0 0), .int 2] [.int 1] (mm (mr M r) f1 g1) R
          refine go_if rfl (fun _ => ?_) (fun (z : ¬ (¬ (1 : Int32) = 0)) => absurd (show ¬ (1 : Int32) = 0 from (by decide)) z)
          refine go_blk 3 [some (.ref (ad 0 7))] (pc' := 23) (vs' := [.ref (ad 0 0), .int 2]) (st' := [.int 2, .ref (ad 0 7)]) (M' := mm (mr M r) f1 g1) (ps := [ob (mm (mr M r) f1 g1) (ad 0 0) 11, mR (mm (mr M r) f1 g1) (ad 0 0) 14 = some (ad 0 7), va_rf (some (ad 0 7)) = .ref (ad 0 7)]) rfl ⟨(hF.o 0), (hF.r 0 14 7), rfl, trivial⟩ ?_
          refine go_callV rfl rfl rfl (by omega) rfl (by decide) (by decide) (hF.o 7) ?_
          show Go (1311 - 1) 48 0 0 0 [.ref (ad 0 7), .int 2, .retAddr 0, .retAddr 0, .retAddr 0, .retAddr 0] [] (mm (mr M r) f1 g1) _
          refine go_blk 4 [some (.long (lN (pk3 v3)))] (pc' := 6) (vs' := [.ref (ad 0 7), .int 2, .long (lN (pk3 v3)), .retAddr 1, .retAddr 0, .retAddr 0]) (st' := [.int 2]) (M' := mm (mr M r) f1 g1) (ps := [ob (mm (mr M r) f1 g1) (ad 0 7) 6, (Value.long (g1 (ad 0 7) 17)) = .long (lN (pk3 v3))]) rfl ⟨(hF.o 7), congrArg Value.long q2, trivial⟩ ?_
          refine go_if rfl (fun _ => ?_) (fun (z : ¬ (¬ (2 : Int32) = 0)) => absurd (show ¬ (2 : Int32) = 0 from (by decide)) z)
          refine go_blk 6 [] (pc' := 24) (vs' := [.ref (ad 0 7), .int 2, .long (lN (pk3 v3)), .retAddr 1, .long ((lN (pk3 v3)) &&& 65535), .retAddr 1]) (st' := [.int 1, .int 2]) (M' := mm (mr M r) f1 g1) (ps := []) rfl trivial ?_
          refine go_icmp rfl (fun _ => ?_) (fun (z : ¬ (¬ (2 : Int32) = 1)) => absurd (show ¬ (2 : Int32) = 1 from (by decide)) z)
          refine go_blk 4 [] (pc' := 42) (vs' := [.ref (ad 0 7), .int 2, .long (lN (pk3 v3)), .retAddr 1, .long ((lN (pk3 v3)) &&& 65535), .retAddr 1]) (st' := [.int ((((lN (pk3 v3)) &&& 65535) &&& 4095).toInt32)]) (M' := mm (mr M r) f1 g1) (ps := []) rfl trivial ?_
          refine go_iret rfl rfl ?_
          refine ⟨ne_i, ?_⟩
          show Go 1311 133 0 0 26 [.ref (ad 0 0), .int 2] [.int ((((lN (pk3 v3)) &&& 65535) &&& 4095).toInt32)] (mm (mr M r) f1 g1) R
          refine go_iret rfl rfl ?_
          refine K _ _ hM.1 rfl (fun R2 h2 => ?_)
          show Go 1311 221 0 0 0 [.ref (ad 10 0), .int 2] [] (mm (mr M r) f1 g1) R2
          refine go_blk 1 [] (pc' := 1) (vs' := [.ref (ad 10 0), .int 2]) (st' := [.ref (ad 10 0)]) (M' := mm (mr M r) f1 g1) (ps := []) rfl trivial ?_
          refine go_callV rfl rfl rfl (by omega) rfl (by decide) (by decide) hM.1 ?_
          refine s_Mo_findPlan (p := ppv (vw ad (mI M))) (by omega) hi hM pw.2.1 nt3 op3 nw3 pw.2.2.1 pw.2.2.2.2.1 (fp.MB pw.1) ((fp.2.1 10 0 21 (by omega) (by omega)).trans op2) pw.2.2.2.2.2.1 (fun f2 m1 m2 => ⟨ne_i, ?_⟩) (fun f2 ρ2 m1 m2 m3 m4 m5 => ⟨ne_i, ?_⟩)
          · -- ('i', '0')
            show Go 1311 221 0 0 4 [.ref (ad 10 0), .int 2] [.int 0] (mm (mr M r) f2 g1) R2
            refine go_if rfl (fun _ => ?_) (fun (z : ¬ ((0 : Int32) = 0)) => absurd (show (0 : Int32) = 0 from (by decide)) z)
            refine go_blk 1 [] (pc' := 47) (vs' := [.ref (ad 10 0), .int 2]) (st' := [.int (-1)]) (M' := mm (mr M r) f2 g1) (ps := []) rfl trivial ?_
            refine go_iret rfl rfl ?_
            exact absurd hps m2
          · -- ('i', '1')
            show Go 1311 221 0 0 4 [.ref (ad 10 0), .int 2] [.int 1] (mm (mr M r) f2 g1) R2
            refine go_if rfl (fun (z : (1 : Int32) = 0) => absurd z (show ¬ ((1 : Int32) = 0) from (by decide))) (fun _ => ?_)
            refine go_blk 3 [] (pc' := 10) (vs' := [.ref (ad 10 0), .int 2]) (st' := [.int 2, .int 0, .int 2]) (M' := mm (mr M r) f2 g1) (ps := []) rfl trivial ?_
            refine go_callS rfl (by decide) rfl rfl (by omega) rfl (by decide) (by decide) ?_
            refine s_Mo_isInK 0 2 (by decide) (by decide) (fun j14 hl14 hj14 hx14 => ⟨ne_i, ?_⟩) (fun c14 => ⟨ne_i, ?_⟩)
            · -- 1
              show Go 1311 221 0 0 13 [.ref (ad 10 0), .int 2] [.int 1] (mm (mr M r) f2 g1) R2
              refine go_if rfl (fun (z : (1 : Int32) = 0) => absurd z (show ¬ ((1 : Int32) = 0) from (by decide))) (fun _ => ?_)
              refine go_blk 1 [] (pc' := 17) (vs' := [.ref (ad 10 0), .int 2]) (st' := [.int 2]) (M' := mm (mr M r) f2 g1) (ps := []) rfl trivial ?_
              refine go_if rfl (fun _ => ?_) (fun (z : ¬ (¬ (2 : Int32) = 0)) => absurd (show ¬ (2 : Int32) = 0 from (by decide)) z)
              refine go_blk 2 [] (pc' := 29) (vs' := [.ref (ad 10 0), .int 2]) (st' := [.int 1, .int 2]) (M' := mm (mr M r) f2 g1) (ps := []) rfl trivial ?_
              refine go_icmp rfl (fun _ => ?_) (fun (z : ¬ (¬ (2 : Int32) = 1)) => absurd (show ¬ (2 : Int32) = 1 from (by decide)) z)
              refine go_blk 3 [some (.int (nI (pl3 (ppv (vw ad (mI M))) nt wk nw ρ2 nt).2.2))] (pc' := 47) (vs' := [.ref (ad 10 0), .int 2]) (st' := [.int (nI (pl3 (ppv (vw ad (mI M))) nt wk nw ρ2 nt).2.2)]) (M' := mm (mr M r) f2 g1) (ps := [ob (mm (mr M r) f2 g1) (ad 10 0) 12, (Value.int (f2 (ad 10 0) 61)) = .int (nI (pl3 (ppv (vw ad (mI M))) nt wk nw ρ2 nt).2.2)]) rfl ⟨hM.1, congrArg Value.int m4.2.2, trivial⟩ ?_
              refine go_iret rfl rfl ?_
              have eu := best_uniq pw.2.1 m3 q1
              rw [eu, hv3]
              have e9 := cp_2 bd3 q3
              rw [e9] at h2
              exact h2 _ ⟨hsc, ad, nc, nb, nt, wk, nw, nx, nl, ne, nk, kd, true, rfl, rfl, rfl, hW1.keep m1.irr (fun _ _ _ _ => rfl)⟩
            · exact absurd ⟨2, by decide, by decide, rfl⟩ c14
        · -- ('i', '0')
          have hW1 := WI_plan hW fp
          have hM0 := hM
          have hF : Fx (mr M r) ad := hW1.2.1.1
          have hM : Mx (mr M r) ad := hW1.2.1.2.1
          have pw := pl_world hW
          show Go 1311 133 0 0 13 [.ref (ad 0 0), .int 2] [.int 0] (mm (mr M r) f1 g1) R
          refine go_if rfl (fun (z : ¬ (0 : Int32) = 0) => absurd z (show ¬ (¬ (0 : Int32) = 0) from (by decide))) (fun _ => ?_)
          refine go_blk 1 [] (pc' := 17) (vs' := [.ref (ad 0 0), .int 2]) (st' := [.int (-1)]) (M' := mm (mr M r) f1 g1) (ps := []) rfl trivial ?_
          refine go_iret rfl rfl ?_
          refine K _ _ hM.1 rfl (fun R2 h2 => ?_)
          show Go 1311 221 0 0 0 [.ref (ad 10 0), .int 2] [] (mm (mr M r) f1 g1) R2
          refine go_blk 1 [] (pc' := 1) (vs' := [.ref (ad 10 0), .int 2]) (st' := [.ref (ad 10 0)]) (M' := mm (mr M r) f1 g1) (ps := []) rfl trivial ?_
          refine go_callV rfl rfl rfl (by omega) rfl (by decide) (by decide) hM.1 ?_
          refine s_Mo_findPlan (p := ppv (vw ad (mI M))) (by omega) hi hM pw.2.1 nt3 op3 nw3 pw.2.2.1 pw.2.2.2.2.1 (fp.MB pw.1) ((fp.2.1 10 0 21 (by omega) (by omega)).trans op2) pw.2.2.2.2.2.1 (fun f2 m1 m2 => ⟨ne_i, ?_⟩) (fun f2 ρ2 m1 m2 m3 m4 m5 => ⟨ne_i, ?_⟩)
          · -- ('i', '0')
            show Go 1311 221 0 0 4 [.ref (ad 10 0), .int 2] [.int 0] (mm (mr M r) f2 g1) R2
            refine go_if rfl (fun _ => ?_) (fun (z : ¬ ((0 : Int32) = 0)) => absurd (show (0 : Int32) = 0 from (by decide)) z)
            refine go_blk 1 [] (pc' := 47) (vs' := [.ref (ad 10 0), .int 2]) (st' := [.int (-1)]) (M' := mm (mr M r) f2 g1) (ps := []) rfl trivial ?_
            refine go_iret rfl rfl ?_
            exact h2 _ ⟨hsc, ad, nc, nb, nt, wk, nw, nx, nl, ne, nk, kd, true, rfl, rfl, rfl, hW1.keep m1.irr (fun _ _ _ _ => rfl)⟩
          · -- ('i', '1')
            show Go 1311 221 0 0 4 [.ref (ad 10 0), .int 2] [.int 1] (mm (mr M r) f2 g1) R2
            refine go_if rfl (fun (z : (1 : Int32) = 0) => absurd z (show ¬ ((1 : Int32) = 0) from (by decide))) (fun _ => ?_)
            refine go_blk 3 [] (pc' := 10) (vs' := [.ref (ad 10 0), .int 2]) (st' := [.int 2, .int 0, .int 2]) (M' := mm (mr M r) f2 g1) (ps := []) rfl trivial ?_
            refine go_callS rfl (by decide) rfl rfl (by omega) rfl (by decide) (by decide) ?_
            refine s_Mo_isInK 0 2 (by decide) (by decide) (fun j16 hl16 hj16 hx16 => ⟨ne_i, ?_⟩) (fun c16 => ⟨ne_i, ?_⟩)
            · -- 1
              show Go 1311 221 0 0 13 [.ref (ad 10 0), .int 2] [.int 1] (mm (mr M r) f2 g1) R2
              refine go_if rfl (fun (z : (1 : Int32) = 0) => absurd z (show ¬ ((1 : Int32) = 0) from (by decide))) (fun _ => ?_)
              refine go_blk 1 [] (pc' := 17) (vs' := [.ref (ad 10 0), .int 2]) (st' := [.int 2]) (M' := mm (mr M r) f2 g1) (ps := []) rfl trivial ?_
              refine go_if rfl (fun _ => ?_) (fun (z : ¬ (¬ (2 : Int32) = 0)) => absurd (show ¬ (2 : Int32) = 0 from (by decide)) z)
              refine go_blk 2 [] (pc' := 29) (vs' := [.ref (ad 10 0), .int 2]) (st' := [.int 1, .int 2]) (M' := mm (mr M r) f2 g1) (ps := []) rfl trivial ?_
              refine go_icmp rfl (fun _ => ?_) (fun (z : ¬ (¬ (2 : Int32) = 1)) => absurd (show ¬ (2 : Int32) = 1 from (by decide)) z)
              refine go_blk 3 [some (.int (nI (pl3 (ppv (vw ad (mI M))) nt wk nw ρ2 nt).2.2))] (pc' := 47) (vs' := [.ref (ad 10 0), .int 2]) (st' := [.int (nI (pl3 (ppv (vw ad (mI M))) nt wk nw ρ2 nt).2.2)]) (M' := mm (mr M r) f2 g1) (ps := [ob (mm (mr M r) f2 g1) (ad 10 0) 12, (Value.int (f2 (ad 10 0) 61)) = .int (nI (pl3 (ppv (vw ad (mI M))) nt wk nw ρ2 nt).2.2)]) rfl ⟨hM.1, congrArg Value.int m4.2.2, trivial⟩ ?_
              refine go_iret rfl rfl ?_
              exact absurd m2 hps
            · exact absurd ⟨2, by decide, by decide, rfl⟩ c16
    · -- 0
      show Go 1311 133 0 0 6 [.ref (ad 0 0), .int a1] [.int 0] (mm M (mI M) (mJ M)) R
      refine go_if rfl (fun _ => ?_) (fun (z : ¬ ((0 : Int32) = 0)) => absurd (show (0 : Int32) = 0 from (by decide)) z)
      refine go_blk 1 [] (pc' := 17) (vs' := [.ref (ad 0 0), .int a1]) (st' := [.int (-1)]) (M' := mm M (mI M) (mJ M)) (ps := []) rfl trivial ?_
      refine go_iret rfl rfl ?_
      refine K _ _ hM.1 rfl (fun R2 h2 => ?_)
      show Go 1311 221 0 0 0 [.ref (ad 10 0), .int a1] [] (mm M (mI M) (mJ M)) R2
      refine go_blk 1 [] (pc' := 1) (vs' := [.ref (ad 10 0), .int a1]) (st' := [.ref (ad 10 0)]) (M' := mm M (mI M) (mJ M)) (ps := []) rfl trivial ?_
      have pw := pl_world hW
      refine go_callV rfl rfl rfl (by omega) rfl (by decide) (by decide) hM.1 ?_
      refine s_Mo_findPlan (p := ppv (vw ad (mI M))) (by omega) hi hM pw.2.1 nt3 op3 nw3 pw.2.2.1 pw.2.2.2.2.1 pw.1 op2 pw.2.2.2.2.2.1 (fun f2 m1 m2 => ⟨ne_i, ?_⟩) (fun f2 ρ2 m1 m2 m3 m4 m5 => ⟨ne_i, ?_⟩)
      · -- ('i', '0')
        show Go 1311 221 0 0 4 [.ref (ad 10 0), .int a1] [.int 0] (mm M f2 (mJ M)) R2
        refine go_if rfl (fun _ => ?_) (fun (z : ¬ ((0 : Int32) = 0)) => absurd (show (0 : Int32) = 0 from (by decide)) z)
        refine go_blk 1 [] (pc' := 47) (vs' := [.ref (ad 10 0), .int a1]) (st' := [.int (-1)]) (M' := mm M f2 (mJ M)) (ps := []) rfl trivial ?_
        refine go_iret rfl rfl ?_
        exact h2 _ ⟨hsc, ad, nc, nb, nt, wk, nw, nx, nl, ne, nk, kd, true, rfl, rfl, rfl, hW.keep m1.irr (fun _ _ _ _ => rfl)⟩
      · -- ('i', '1')
        show Go 1311 221 0 0 4 [.ref (ad 10 0), .int a1] [.int 1] (mm M f2 (mJ M)) R2
        refine go_if rfl (fun (z : (1 : Int32) = 0) => absurd z (show ¬ ((1 : Int32) = 0) from (by decide))) (fun _ => ?_)
        refine go_blk 3 [] (pc' := 10) (vs' := [.ref (ad 10 0), .int a1]) (st' := [.int 2, .int 0, .int a1]) (M' := mm M f2 (mJ M)) (ps := []) rfl trivial ?_
        refine go_callS rfl (by decide) rfl rfl (by omega) rfl (by decide) (by decide) ?_
        refine s_Mo_isInK 0 2 (by decide) (by decide) (fun j18 hl18 hj18 hx18 => ⟨ne_i, ?_⟩) (fun c18 => ⟨ne_i, ?_⟩)
        · exact absurd ⟨j18, hl18, hj18, hx18⟩ c1
        · -- 0
          show Go 1311 221 0 0 13 [.ref (ad 10 0), .int a1] [.int 0] (mm M f2 (mJ M)) R2
          refine go_if rfl (fun _ => ?_) (fun (z : ¬ ((0 : Int32) = 0)) => absurd (show (0 : Int32) = 0 from (by decide)) z)
          refine go_blk 1 [] (pc' := 47) (vs' := [.ref (ad 10 0), .int a1]) (st' := [.int (-1)]) (M' := mm M f2 (mJ M)) (ps := []) rfl trivial ?_
          refine go_iret rfl rfl ?_
          exact h2 _ ⟨hsc, ad, nc, nb, nt, wk, nw, nx, nl, ne, nk, kd, true, rfl, rfl, rfl, hW.keep m1.irr (fun _ _ _ _ => rfl)⟩

