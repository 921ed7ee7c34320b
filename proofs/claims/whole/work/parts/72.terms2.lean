/-! call: terms, both -/
theorem TK.refl {f : Nat → Nat → Int32} {a : Nat} : TK f f a := fun _ _ _ => rfl
set_option maxHeartbeats 4000000 in
theorem WI.keepT {M M' : Mem} {ad : Nat → Nat → Nat} {nc nb nt wk nw nx nl ne nk kd n fr q q1 : Nat} {op : Bool} {f1 f : Nat → Nat → Int32} {g : Nat → Nat → Int64} {v : Option Nat} (h : WI M ad nc nb nt wk nw nx nl ne nk kd op) (hnx : nx < 20) (hfr : fr ≤ 51) (hwk : wk < 52) (hk1 : TK (mI M) f1 (ad 7 nx)) (hT : KT (mm M f1 (mJ M)) ad nx (nI fr) (nI wk) M' q q1) (hn : n ≤ 120) (hn1 : mI M (ad 7 nx) 1 = nI n) (hb : ∀ k, k < n → bts (mI M (ad 8 nx) k) (mI M (ad 9 75) k)) (hok : okT (mI M (ad 8 nx)) n) (hTM : TM ad nx n (nI fr) (nI wk) (mI M') f) (hg : GK ad (mJ M') g) :
    ∃ ad' : Nat → Nat → Nat, ad' 0 0 = ad 0 0 ∧ ad' 10 0 = ad 10 0 ∧ ad' 0 40 = ad 0 40 ∧ WI (mm (sR M' (ad 10 0) 82 v) f g) ad' nc nb nt wk nw (nx + 1) nl ne nk kd op := by
  have hi := h.1
  obtain ⟨⟨hq, hq1, n1⟩, t1, t2, t3, ⟨t4, t5, t6⟩, ⟨t7, t8⟩, t9, t10, t11, t12, t13⟩ := hT
  replace hq : q ∉ mL M := hq
  replace hq1 : q1 ∉ mL M := hq1
  have hqu : ∀ t i, Us nc nb nt nx t i → ¬ ad t i = q := fun t i u z => hq (z ▸ h.at u)
  have hu1 : ∀ t i, Us nc nb nt nx t i → ¬ ad t i = q1 := fun t i u z => hq1 (z ▸ h.at u)
  have h6 : ∀ b, b < nb → hJ (vw ad (mI M)) wk op b → ¬ ad 6 b = q ∧ ¬ ad 6 b = q1 := fun b hb hj => ⟨fun z => hq (z ▸ h.at6 hb hj), fun z => hq1 (z ▸ h.at6 hb hj)⟩
  obtain ⟨ad', had⟩ : ∃ ad', swp (swp ad q 7 (nx + 1)) q1 8 (nx + 1) = ad' := ⟨_, rfl⟩
  have hi' : Inj ad' := had ▸ swp_inj (swp_inj hi q 7 (nx + 1)) q1 8 (nx + 1)
  have hU : ∀ t i, Us nc nb nt nx t i → ad' t i = ad t i := fun t i u => by
    rw [← had]
    have s1 : swp ad q 7 (nx + 1) t i = ad t i := swp_old (fun z => by obtain ⟨rfl, rfl⟩ := z; exact absurd (show nx + 1 ≤ nx from u) (by omega)) (hqu t i u)
    exact (swp_old (fun z => by obtain ⟨rfl, rfl⟩ := z; exact absurd (show nx + 1 ≤ nx from u) (by omega)) (by rw [s1]; exact hu1 t i u)).trans s1
  have hU6 : ∀ b, b < nb → hJ (vw ad (mI M)) wk op b → ad' 6 b = ad 6 b := fun b hb hj => by
    rw [← had]
    have s1 : swp ad q 7 (nx + 1) 6 b = ad 6 b := swp_old (fun z => by omega) (h6 b hb hj).1
    exact (swp_old (fun z => by omega) (by rw [s1]; exact (h6 b hb hj).2)).trans s1
  have e7 : ad' 7 (nx + 1) = q := by
    rw [← had]
    have s1 : swp ad q 7 (nx + 1) 7 (nx + 1) = q := swp_new _ _ _ _
    exact (swp_old (fun z => by omega) (by rw [s1]; exact fun z => n1 z.symm)).trans s1
  have e8 : ad' 8 (nx + 1) = q1 := by rw [← had]; exact swp_new _ _ _ _
  have u010 := hU 0 10 (show 10 < 41 by decide)
  have u036 := hU 0 36 (show 36 < 41 by decide)
  have u7 := hU 7 nx (show nx ≤ nx from Nat.le_refl _)
  have u8 := hU 8 nx (show nx ≤ nx from Nat.le_refl _)
  have u10 := hU 10 0 rfl
  have v9 : ∀ i, 75 ≤ i → i ≤ 79 → ad' 9 i = ad 9 i := fun i a b => hU 9 i (show u9 i by unfold u9; omega)
  -- what was there, with the new cells
  obtain ⟨fA, hfA⟩ : ∃ fA : Nat → Nat → Int32, ∀ b k, fA b k = if b = q ∨ b = q1 then mI M' b k else mI M b k := ⟨_, fun _ _ => rfl⟩
  obtain ⟨rA, hrA⟩ : ∃ rA : Nat → Nat → Option Nat, ∀ b k, rA b k = if b = q ∨ b = q1 then mR M' b k else if b = ad 0 36 ∧ k = nx then some (ad 7 nx) else mR M b k := ⟨_, fun _ _ => rfl⟩
  obtain ⟨A, hA⟩ : ∃ A : Mem, A = (mL M', mK M', mN M', fA, mJ M', rA, mSb M', mSl M', mSx M') := ⟨_, rfl⟩
  have AL : mL A = mL M' := by rw [hA]; rfl
  have AK : mK A = mK M' := by rw [hA]; rfl
  have AN : mN A = mN M' := by rw [hA]; rfl
  have AI : mI A = fA := by rw [hA]; rfl
  have AJ : mJ A = mJ M' := by rw [hA]; rfl
  have AR : mR A = rA := by rw [hA]; rfl
  have row : ∀ a, ¬ a = q → ¬ a = q1 → fA a = mI M a := fun a z0 z1 => funext fun k => by rw [hfA, if_neg (by rintro (z | z); exact z0 z; exact z1 z)]
  have hWA : WI A ad' nc nb nt wk nw nx nl ne nk kd op := by
    refine h.re hi' hU hU6 (fun t i u => ?_) (fun b hb hj => ?_) (fun t i k u x => ?_) (fun b k hb hj => ?_)
    · have z0 := hqu t i u
      have z1 := hu1 t i u
      exact ⟨by rw [AL]; exact t2 _ (h.at u), by rw [AK]; exact (t3 _ z0 z1).1, by rw [AN]; exact (t3 _ z0 z1).2.1, by rw [AI]; exact row _ z0 z1, by rw [AJ]; exact (t3 _ z0 z1).2.2.1⟩
    · obtain ⟨z0, z1⟩ := h6 b hb hj
      exact ⟨by rw [AL]; exact t2 _ (h.at6 hb hj), by rw [AK]; exact (t3 _ z0 z1).1, by rw [AN]; exact (t3 _ z0 z1).2.1, by rw [AI]; exact row _ z0 z1, by rw [AJ]; exact (t3 _ z0 z1).2.2.1⟩
    · rw [AR, hrA, if_neg (by rintro (z | z); exact hqu t i u z; exact hu1 t i u z), if_neg (fun z => x (by obtain ⟨z1, z2⟩ := hi _ _ _ _ z.1; unfold Xr; omega))]
    · obtain ⟨z0, z1⟩ := h6 b hb hj
      rw [AR, hrA, if_neg (by rintro (z | z); exact z0 z; exact z1 z), if_neg (fun z => absurd (hi _ _ _ _ z.1).1 (by decide))]
  have n3610 : ¬ ad 0 36 = ad 0 10 := fun z => absurd (hi _ _ _ _ z).2 (by decide)
  have b10 := hqu 0 10 (show 10 < 41 by decide)
  have c10 := hu1 0 10 (show 10 < 41 by decide)
  have rE : mR M' = up2 rA (ad 0 10) 0 (some q) := by
    funext b k
    by_cases z0 : b = ad 0 10 ∧ k = 0
    · rw [z0.1, z0.2, t8]; exact (up2_s _ _ _ _).symm
    · rw [up2_n _ _ z0, hrA]
      by_cases z1 : b = q ∨ b = q1
      · rw [if_pos z1]
      · rw [if_neg z1]
        by_cases z2 : b = ad 0 36 ∧ k = nx
        · rw [if_pos z2, z2.1, z2.2]; exact t7
        · rw [if_neg z2]; exact (t3 b (fun y => z1 (Or.inl y)) (fun y => z1 (Or.inr y))).2.2.2.2 k z2 z0
  have mE : mm (sR M' (ad 10 0) 82 v) f g = sR (mm (sR A (ad' 0 10) 0 (some (ad' 7 (nx + 1)))) f g) (ad' 10 0) 82 v := by
    rw [u010, e7, u10]
    show (mL M', mK M', mN M', f, g, up2 (mR M') (ad 10 0) 82 v, mSb M', mSl M', mSx M') = (mL A, mK A, mN A, f, g, up2 (up2 (mR A) (ad 0 10) 0 (some q)) (ad 10 0) 82 v, mSb A, mSl A, mSx A)
    rw [AL, AK, AN, AR, rE, hA]
    rfl
  obtain ⟨⟨m81, m80, m77, m78, m79, m76⟩, mo⟩ := hTM
  have fE : ∀ b k, ¬ (b = ad 10 0 ∧ (k = 0 ∨ k = 80 ∨ k = 81 ∨ (83 ≤ k ∧ k ≤ 89))) → ¬ (b = ad 9 76 ∧ 120 * nx ≤ k) → ¬ ((b = ad 9 77 ∨ b = ad 9 78 ∨ b = ad 9 79) ∧ k = nx) → ¬ (b = ad 7 nx ∧ 2 ≤ k) → ¬ (b = ad 0 10 ∧ k = 2) → f b k = fA b k := by
    intro b k z1 z2 z3 z4 z5
    rw [mo b k z1 z2 z3, hfA]
    by_cases y : b = q ∨ b = q1
    · rw [if_pos y]
    · rw [if_neg y, (t3 b (fun x => y (Or.inl x)) (fun x => y (Or.inr x))).2.2.2.1 k (fun x => z4 ⟨x.1, by omega⟩) z5]
      exact hk1 b k (fun x => z4 ⟨x.1, by omega⟩)
  have fO : ∀ t i k, Us nc nb nt nx t i → ¬ t = 10 → ¬ t = 9 → ¬ (t = 7 ∧ i = nx ∧ 2 ≤ k) → ¬ (t = 0 ∧ i = 10 ∧ k = 2) → f (ad t i) k = mI M (ad t i) k := fun t i k u y1 y2 y3 y4 => by
    rw [fE _ _ (fun z => y1 (hi _ _ _ _ z.1).1) (fun z => y2 (hi _ _ _ _ z.1).1) (fun z => by rcases z.1 with z | z | z <;> exact y2 (hi _ _ _ _ z).1) (fun z => y3 ⟨(hi _ _ _ _ z.1).1, (hi _ _ _ _ z.1).2, z.2⟩) (fun z => y4 ⟨(hi _ _ _ _ z.1).1, (hi _ _ _ _ z.1).2, z.2⟩), row _ (hqu t i u) (hu1 t i u)]
  have fM : ∀ b k, b ∈ mL M → ¬ (b = ad 10 0 ∧ (k = 0 ∨ k = 80 ∨ k = 81 ∨ (83 ≤ k ∧ k ≤ 89))) → ¬ (b = ad 9 76 ∧ 120 * nx ≤ k) → ¬ ((b = ad 9 77 ∨ b = ad 9 78 ∨ b = ad 9 79) ∧ k = nx) → f b k = mI M' b k := fun b k _ z1 z2 z3 => mo b k z1 z2 z3
  refine ⟨ad', hU 0 0 (show 0 < 41 by decide), u10, hU 0 40 (show 40 < 41 by decide), ?_⟩
  rw [mE]
  refine WI.s82 ?_
  refine hWA.tape (n := n) (fr := fr) hnx ?_ ?_ (fun t i k z => ?_) (fun t i k z => ?_) ?_ ?_ ?_ ?_ ⟨?_, ?_, hfr⟩ ⟨?_, ?_, hwk⟩ ⟨hn, ?_, ?_, fun k hk => ?_⟩ ?_
  · rw [e7, e8]
    refine ⟨⟨by rw [AL]; exact t9.1, by rw [AK]; exact t9.2⟩, by rw [AR, hrA, if_pos (Or.inl rfl)]; exact t10, ⟨by rw [AL]; exact t11.1, by rw [AK]; exact t11.2⟩, by rw [AN]; exact t12⟩
  · rw [AR, u036, u7, hrA, if_neg (by rintro (z | z); exact hqu 0 36 (show 36 < 41 by decide) z; exact hu1 0 36 (show 36 < 41 by decide) z), if_pos ⟨rfl, rfl⟩]
  · show f (ad' t i) k = mI A (ad' t i) k
    rw [AI]
    refine fE _ _ (fun y => z ?_) (fun y => z ?_) (fun y => z ?_) (fun y => z ?_) (fun y => z ?_)
    · rw [← u10] at y; obtain ⟨y1, y2⟩ := hi' _ _ _ _ y.1; have := y.2; omega
    · rw [← v9 76 (by omega) (by omega)] at y; obtain ⟨y1, y2⟩ := hi' _ _ _ _ y.1; have := y.2; omega
    · rw [← v9 77 (by omega) (by omega), ← v9 78 (by omega) (by omega), ← v9 79 (by omega) (by omega)] at y
      have := y.2
      rcases y.1 with y | y | y <;> (obtain ⟨y1, y2⟩ := hi' _ _ _ _ y; omega)
    · rw [← u7] at y; obtain ⟨y1, y2⟩ := hi' _ _ _ _ y.1; have := y.2; omega
    · rw [← u010] at y; obtain ⟨y1, y2⟩ := hi' _ _ _ _ y.1; have := y.2; omega
  · show g (ad' t i) k = mJ A (ad' t i) k
    rw [AJ]
    exact hg _ _ (fun y => z (by rw [← u10] at y; obtain ⟨y1, y2⟩ := hi' _ _ _ _ y.1; have := y.2; omega))
  · show f (ad' 0 10) 2 = _
    rw [u010, mo _ _ (fun z => absurd (hi _ _ _ _ z.1).1 (by decide)) (fun z => absurd (hi _ _ _ _ z.1).1 (by decide)) (fun z => by rcases z.1 with z | z | z <;> exact absurd (hi _ _ _ _ z).1 (by decide))]; exact t6
  · show f (ad' 10 0) 81 = _
    rw [u10]; exact m81
  · show f (ad' 10 0) 80 = _
    rw [u10]; exact m80
  · show f (ad' 7 (nx + 1)) 1 = _
    have q10 := hqu 10 0 rfl
    have q9 : ∀ i, 75 ≤ i → i ≤ 79 → ¬ ad 9 i = q := fun i a b => hqu 9 i (show u9 i by unfold u9; omega)
    rw [e7, mo _ _ (fun z => q10 z.1.symm) (fun z => q9 76 (by omega) (by omega) z.1.symm) (fun z => by rcases z.1 with z | z | z; exact q9 77 (by omega) (by omega) z.symm; exact q9 78 (by omega) (by omega) z.symm; exact q9 79 (by omega) (by omega) z.symm)]
    exact t13
  · show f (ad' 7 nx) 2 = _
    rw [u7, mo _ _ (fun z => absurd (hi _ _ _ _ z.1).1 (by decide)) (fun z => absurd (hi _ _ _ _ z.1).1 (by decide)) (fun z => by rcases z.1 with z | z | z <;> exact absurd (hi _ _ _ _ z).1 (by decide))]; exact t4
  · show f (ad' 9 78) nx = _
    rw [v9 78 (by omega) (by omega)]; exact m78
  · show f (ad' 7 nx) 3 = _
    rw [u7, mo _ _ (fun z => absurd (hi _ _ _ _ z.1).1 (by decide)) (fun z => absurd (hi _ _ _ _ z.1).1 (by decide)) (fun z => by rcases z.1 with z | z | z <;> exact absurd (hi _ _ _ _ z).1 (by decide))]; exact t5
  · show f (ad' 9 79) nx = _
    rw [v9 79 (by omega) (by omega)]; exact m79
  · show f (ad' 7 nx) 1 = _
    rw [u7, fO 7 nx 1 (show nx ≤ nx from Nat.le_refl _) (by decide) (by decide) (by omega) (by omega)]; exact hn1
  · show f (ad' 9 77) nx = _
    rw [v9 77 (by omega) (by omega)]; exact m77
  · show bts (f (ad' 8 nx) k) (f (ad' 9 76) (120 * nx + k))
    have m75 : mI M' (ad 9 75) k = mI M (ad 9 75) k := by
      rw [(t3 _ (hqu 9 75 (show u9 75 by unfold u9; omega)) (hu1 9 75 (show u9 75 by unfold u9; omega))).2.2.2.1 k (fun z => absurd (hi _ _ _ _ z.1).1 (by decide)) (fun z => absurd (hi _ _ _ _ z.1).1 (by decide))]
      exact hk1 _ _ (fun z => absurd (hi _ _ _ _ z.1).1 (by decide))
    rw [u8, v9 76 (by omega) (by omega), m76 k hk, m75, fO 8 nx k (show nx ≤ nx from Nat.le_refl _) (by decide) (by decide) (by omega) (by omega)]
    exact hb k hk
  · refine hok.congr (fun k hk => ?_)
    show f (ad' 8 nx) k = _
    rw [u8, fO 8 nx k (show nx ≤ nx from Nat.le_refl _) (by decide) (by decide) (by omega) (by omega)]

theorem flt_le {t : Nat → Int32} : ∀ {m i e : Nat} {s : TSt}, flt t i m s = some e → e ≤ i + m
  | 0, i, e, s, h => by
    rw [flt] at h
    split at h
    · cases h
    · cases h; omega
  | m + 1, i, e, s, h => by
    rw [flt] at h
    split at h
    · cases h; omega
    · have := flt_le h; omega

set_option maxHeartbeats 20000000 in
set_option maxRecDepth 100000 in
theorem op29 {x o u : Nat} {sc : Nat × Nat × (Nat → Int32)} : Op29 (II x o u sc) x o := by
  intro M a1 hI R K
  obtain ⟨hsc, ad, nc, nb, nt, wk, nw, nx, nl, ne, nk, kd, op, rfl, rfl, rfl, hW⟩ := hI
  obtain ⟨hi, ⟨hF, hM, hC, hB, hT, hX⟩, ⟨iS, iC, iB, iR, iL, iT⟩, ⟨jO, jR, jB, jX, jL⟩, kO, kC, kD, kP, kX⟩ := id hW
  obtain ⟨⟨nc1, nc2, nc3⟩, ⟨nb1, nb2, nb3⟩, ⟨nt1, nt2, nt3⟩, ⟨wk1, wk2, wk3⟩, ⟨nw1, nw2, nw3⟩, ⟨op1, op2, op3⟩, ncm, ncm1, ncm2, ncm3⟩ := id iS
  simp only [vw] at nc1 nc2 nb1 nb2 nt1 nt2 wk1 wk2 nw1 nw2 op1 op2 ncm2 ncm3
  obtain ⟨nn, nn3, nn1, nn2, nnb⟩ := jX.2.1
  simp only [vw] at nn1 nn2
  have nl3 := jL.1.2.2.1
  have nx3 := jX.1.2.2
  have nk3 := jB.1.2.2.2.2.1
  have ne3 := jB.1.2.2.2.2.2
  have hXq : Xq M ad nx := ⟨(hX.2.2 nx (Nat.le_refl _)).1, (hX.2.2 nx (Nat.le_refl _)).2.1, (hX.2.2 nx (Nat.le_refl _)).2.2.1, (hX.2.2 nx (Nat.le_refl _)).2.2.2⟩
  have hbt : ∀ k, k < nn → bts (mI M (ad 8 nx) k) (mI M (ad 9 75) k) := nnb
  cases hfl : flt (mI M (ad 8 nx)) 0 nn (0, 0, 0, true) with
  | none =>
    show Go 1311 145 2 129 0 [.ref (ad 0 0), .int a1] [] (mm M (mI M) (mJ M)) R
    refine go_blk 1 [] (pc' := 1) (vs' := [.ref (ad 0 0), .int a1]) (st' := [.int a1]) (M' := mm M (mI M) (mJ M)) (ps := []) rfl trivial ?_
    refine go_callS rfl (by decide) rfl rfl (by omega) rfl (by decide) (by decide) ?_
    refine s_CY_isWeekK (by omega) (fun fr hfr hxe => ⟨ne_i, ?_⟩) (fun hno => ⟨ne_i, ?_⟩)
    · -- ('i', '1')
      subst hxe
      show Go 1311 145 2 129 4 [.ref (ad 0 0), .int (nI fr)] [.int 1] (mm M (mI M) (mJ M)) R
      refine go_if rfl (fun (z : (1 : Int32) = 0) => absurd z (show ¬ ((1 : Int32) = 0) from (by decide))) (fun _ => ?_)
      refine go_blk 2 [some (.ref (ad 0 10))] (pc' := 11) (vs' := [.ref (ad 0 0), .int (nI fr)]) (st' := [.ref (ad 0 10)]) (M' := mm M (mI M) (mJ M)) (ps := [ob (mm M (mI M) (mJ M)) (ad 0 0) 11, mR (mm M (mI M) (mJ M)) (ad 0 0) 17 = some (ad 0 10), va_rf (some (ad 0 10)) = .ref (ad 0 10)]) rfl ⟨(hF.o 0), (hF.r 0 17 10), rfl, trivial⟩ ?_
      refine go_callV rfl rfl rfl (by omega) rfl (by decide) (by decide) (hF.o 10) ?_
      show Go (1311 - 1) 107 0 0 0 [.ref (ad 0 10)] [] (mm M (mI M) (mJ M)) _
      refine go_blk 3 [some (.int (nI nx))] (pc' := 6) (vs' := [.ref (ad 0 10)]) (st' := [.int 20, .int (nI nx)]) (M' := mm M (mI M) (mJ M)) (ps := [ob (mm M (mI M) (mJ M)) (ad 0 10) 10, (Value.int ((mI M) (ad 0 10) 2)) = .int (nI nx)]) rfl ⟨(hF.o 10), congrArg Value.int jX.1.1, trivial⟩ ?_
      refine go_icmp rfl (fun (c2 : (nI nx) < 20) => ?_) (fun (c2 : ¬ ((nI nx) < 20)) => ?_)
      · -- (nI nx) < 20
        have nc2 : nx < 20 := (nI_lts (a := nx) (b := 20) (by omega) (by omega)).mp c2
        refine go_blk 1 [] (pc' := 14) (vs' := [.ref (ad 0 10)]) (st' := [.int 0]) (M' := mm M (mI M) (mJ M)) (ps := []) rfl trivial ?_
        refine go_zret rfl rfl (Or.inl rfl) ?_
        refine ⟨ne_i, ?_⟩
        show Go 1311 145 2 129 14 [.ref (ad 0 0), .int (nI fr)] [.int 0] (mm M (mI M) (mJ M)) R
        refine go_if rfl (fun (z : ¬ (0 : Int32) = 0) => absurd z (show ¬ (¬ (0 : Int32) = 0) from (by decide))) (fun _ => ?_)
        refine go_blk 3 [some (.int (nI wk))] (pc' := 23) (vs' := [.ref (ad 0 0), .int (nI fr)]) (st' := [.int 52, .int (nI wk)]) (M' := mm M (mI M) (mJ M)) (ps := [ob (mm M (mI M) (mJ M)) (ad 0 0) 11, (Value.int ((mI M) (ad 0 0) 7)) = .int (nI wk)]) rfl ⟨(hF.o 0), congrArg Value.int wk1, trivial⟩ ?_
        refine go_icmp rfl (fun (c3 : 52 ≤ (nI wk)) => ?_) (fun (c3 : ¬ (52 ≤ (nI wk))) => ?_)
        · -- 52 ≤ (nI wk)
          have nc3 : 52 ≤ wk := (nI_les (a := 52) (b := wk) (by omega) (by omega)).mp c3
          refine go_blk 1 [] (pc' := 41) (vs' := [.ref (ad 0 0), .int (nI fr)]) (st' := [.int (-1)]) (M' := mm M (mI M) (mJ M)) (ps := []) rfl trivial ?_
          refine go_iret rfl rfl ?_
          refine K _ _ hM.1 rfl (fun R2 h2 => ?_)
          refine s_Mo_terms (M := M) (f := mI M) (g := mJ M) (nx := nx) (n := nn) (wk := wk) (t := mI M (ad 8 nx)) (by omega) hM hi jX.1.2.1 nx3 nn2 nn3 wk2 wk3 (fun k hk => hbt k hk) (fun _ f2 g2 hg hgj => ?_) (fun hC => absurd hC (fun hC => by have y := (nI_les (a := 52) (b := wk) (by decide) (by omega)).mp c3; have := hC.2.2.2; omega))
          exact h2 _ ⟨hsc, ad, nc, nb, nt, wk, nw, nx, nl, ne, nk, kd, op, rfl, rfl, rfl, hW.txt (q := nx) TK.refl hg hgj⟩
        · -- ¬ (52 ≤ (nI wk))
          have nc3 : wk < 52 := (nI_lts (a := wk) (b := 52) (by omega) (by omega)).mp (Int32.not_le.mp c3)
          refine go_blk 3 [some (.ref (ad 0 10)), some (.ref (ad 7 nx))] (pc' := 33) (vs' := [.ref (ad 0 0), .int (nI fr)]) (st' := [.ref (ad 7 nx)]) (M' := mm M (mI M) (mJ M)) (ps := [ob (mm M (mI M) (mJ M)) (ad 0 0) 11, mR (mm M (mI M) (mJ M)) (ad 0 0) 17 = some (ad 0 10), va_rf (some (ad 0 10)) = .ref (ad 0 10), ob (mm M (mI M) (mJ M)) (ad 0 10) 10, mR (mm M (mI M) (mJ M)) (ad 0 10) 0 = some (ad 7 nx), va_rf (some (ad 7 nx)) = .ref (ad 7 nx)]) rfl ⟨(hF.o 0), (hF.r 0 17 10), rfl, (hF.o 10), hX.1, rfl, trivial⟩ ?_
          refine go_callV rfl rfl rfl (by omega) rfl (by decide) (by decide) (hX.2.2 nx (by omega)).1 ?_
          refine s_Tx_firstFault (by omega) hXq hi nn3 nn1 (fun k hk => bts_lt (hbt k hk)) (fun f1 hk1 => ⟨ne_i, ?_⟩)
          · -- ('i', 'fltI (flt (mI M (ad 8 nx)) 0 nn (0, 0, 0, true))')
            rw [hfl]
            have w1 : f1 (ad 0 0) 7 = nI wk := (hk1 _ _ (fun z => absurd (hi _ _ _ _ z.1).1 (by decide))).trans wk1
            have w2 : f1 (ad 0 10) 2 = nI nx := (hk1 _ _ (fun z => absurd (hi _ _ _ _ z.1).1 (by decide))).trans jX.1.1
            show Go 1311 145 2 129 36 [.ref (ad 0 0), .int (nI fr)] [.int (-1)] (mm M f1 (mJ M)) R
            refine go_blk 1 [] (pc' := 37) (vs' := [.ref (ad 0 0), .int (nI fr)]) (st' := [.int (-1), .int (-1)]) (M' := mm M f1 (mJ M)) (ps := []) rfl trivial ?_
            refine go_icmp rfl (fun _ => ?_) (fun (z : ¬ (((-1) : Int32) = (-1))) => absurd (show ((-1) : Int32) = (-1) from (by decide)) z)
            refine go_blk 5 [some (.ref (ad 0 10)), some (.int (nI wk))] (pc' := 51) (vs' := [.ref (ad 0 0), .int (nI fr)]) (st' := [.int (nI wk), .int (nI fr), .ref (ad 0 10)]) (M' := mm M f1 (mJ M)) (ps := [ob (mm M f1 (mJ M)) (ad 0 0) 11, mR (mm M f1 (mJ M)) (ad 0 0) 17 = some (ad 0 10), va_rf (some (ad 0 10)) = .ref (ad 0 10), ob (mm M f1 (mJ M)) (ad 0 0) 11, (Value.int (f1 (ad 0 0) 7)) = .int (nI wk)]) rfl ⟨(hF.o 0), (hF.r 0 17 10), rfl, (hF.o 0), congrArg Value.int w1, trivial⟩ ?_
            have hn20 : nx < 20 := (nI_lts (a := nx) (b := 20) (by omega) (by decide)).mp c2
            have hw52 : wk < 52 := (nI_lts (a := wk) (b := 52) (by omega) (by decide)).mp (Int32.not_le.mp c3)
            refine go_callV rfl rfl rfl (by omega) rfl (by decide) (by decide) (hF.o 10) ?_
            refine s_Wa_keepTape (x1 := nI fr) (x2 := nI wk) (by omega) hF hX hi w2 hn20 (fun M' q q1 hKT => ⟨ne_i, ?_⟩)
            · -- ('i', 'nI nx')
              show Go 1311 145 0 0 54 [.ref (ad 0 0), .int (nI fr)] [.int (nI nx)] (mm M' (mI M') (mJ M')) R
              refine go_iret rfl rfl ?_
              obtain ⟨⟨k1, k2, k3⟩, k4, k5, k6, -⟩ := id hKT
              replace k1 : q ∉ mL M := k1
              replace k2 : q1 ∉ mL M := k2
              have hm : ∀ a, a ∈ mL M → (a ∈ mL M' ∧ mK M' a = mK M a ∧ mN M' a = mN M a) := fun a ha => ⟨k5 a ha, (k6 a (fun z => k1 (z ▸ ha)) (fun z => k2 (z ▸ ha))).1, (k6 a (fun z => k1 (z ▸ ha)) (fun z => k2 (z ▸ ha))).2.1⟩
              have hi10 : ∀ t i k, ad t i ∈ mL M → ¬ (t = 7) → ¬ (t = 0) → mI M' (ad t i) k = mI M (ad t i) k := fun t i k ha z1 z2 => ((k6 _ (fun z => k1 (z ▸ ha)) (fun z => k2 (z ▸ ha))).2.2.2.1 k (fun z => z1 (hi _ _ _ _ z.1).1) (fun z => z2 (hi _ _ _ _ z.1).1)).trans (hk1 _ _ (fun z => z1 (hi _ _ _ _ z.1).1))
              have hM' : Mx M' ad := by
                refine ⟨⟨(hm _ hM.1.1).1, (hm _ hM.1.1).2.1.trans hM.1.2⟩, fun p hp => ?_⟩
                obtain ⟨z1, z2, z3⟩ := hM.2 p hp
                exact ⟨((k6 _ (fun z => k1 (z ▸ hM.1.1)) (fun z => k2 (z ▸ hM.1.1))).2.2.2.2 _ (fun z => absurd (hi _ _ _ _ z.1).1 (by decide)) (fun z => absurd (hi _ _ _ _ z.1).1 (by decide))).trans z1, ⟨(hm _ z2.1).1, (hm _ z2.1).2.1.trans z2.2⟩, (hm _ z2.1).2.2.trans z3⟩
              refine K _ _ hM'.1 k4 (fun R2 h2 => ?_)
              refine s_Mo_terms (M := M') (f := mI M') (g := mJ M') (nx := nx) (n := nn) (wk := wk) (t := mI M (ad 8 nx)) (by omega) hM' hi ((hi10 10 0 81 hM.1.1 (by decide) (by decide)).trans jX.1.2.1) nx3 ((hi10 10 0 80 hM.1.1 (by decide) (by decide)).trans nn2) nn3 ((hi10 10 0 19 hM.1.1 (by decide) (by decide)).trans wk2) wk3 (fun k hk => by rw [hi10 9 75 k (hM.o 75 14 120).1 (by decide) (by decide)]; exact hbt k hk) (fun hC => absurd ⟨hfl, ⟨fr, by omega, rfl⟩, hn20, hw52⟩ hC) (fun _ f2 g2 hTM hgj => ?_)
              obtain ⟨ad', z1, z2, z3, hW2⟩ := hW.keepT (v := some (ad 9 75)) hn20 (show fr ≤ 51 by omega) hw52 hk1 hKT nn3 nn1 hbt hfl hTM hgj
              exact h2 _ ⟨k4.trans hsc, ad', nc, nb, nt, wk, nw, (nx + 1), nl, ne, nk, kd, op, z1, z2, z3, hW2⟩
      · -- ¬ ((nI nx) < 20)
        have nc2 : 20 ≤ nx := (nI_les (a := 20) (b := nx) (by omega) (by omega)).mp (Int32.not_lt.mp c2)
        refine go_blk 2 [] (pc' := 14) (vs' := [.ref (ad 0 10)]) (st' := [.int 1]) (M' := mm M (mI M) (mJ M)) (ps := []) rfl trivial ?_
        refine go_zret rfl rfl (Or.inr rfl) ?_
        refine ⟨ne_i, ?_⟩
        show Go 1311 145 2 129 14 [.ref (ad 0 0), .int (nI fr)] [.int 1] (mm M (mI M) (mJ M)) R
        refine go_if rfl (fun _ => ?_) (fun (z : ¬ (¬ (1 : Int32) = 0)) => absurd (show ¬ (1 : Int32) = 0 from (by decide)) z)
        refine go_blk 1 [] (pc' := 41) (vs' := [.ref (ad 0 0), .int (nI fr)]) (st' := [.int (-1)]) (M' := mm M (mI M) (mJ M)) (ps := []) rfl trivial ?_
        refine go_iret rfl rfl ?_
        refine K _ _ hM.1 rfl (fun R2 h2 => ?_)
        refine s_Mo_terms (M := M) (f := mI M) (g := mJ M) (nx := nx) (n := nn) (wk := wk) (t := mI M (ad 8 nx)) (by omega) hM hi jX.1.2.1 nx3 nn2 nn3 wk2 wk3 (fun k hk => hbt k hk) (fun _ f2 g2 hg hgj => ?_) (fun hC => absurd hC (fun hC => by have y := (nI_les (a := 20) (b := nx) (by decide) (by omega)).mp (Int32.not_lt.mp c2); have := hC.2.2.1; omega))
        exact h2 _ ⟨hsc, ad, nc, nb, nt, wk, nw, nx, nl, ne, nk, kd, op, rfl, rfl, rfl, hW.txt (q := nx) TK.refl hg hgj⟩
    · -- ('i', '0')
      show Go 1311 145 2 129 4 [.ref (ad 0 0), .int a1] [.int 0] (mm M (mI M) (mJ M)) R
      refine go_if rfl (fun _ => ?_) (fun (z : ¬ ((0 : Int32) = 0)) => absurd (show (0 : Int32) = 0 from (by decide)) z)
      refine go_blk 1 [] (pc' := 41) (vs' := [.ref (ad 0 0), .int a1]) (st' := [.int (-1)]) (M' := mm M (mI M) (mJ M)) (ps := []) rfl trivial ?_
      refine go_iret rfl rfl ?_
      refine K _ _ hM.1 rfl (fun R2 h2 => ?_)
      refine s_Mo_terms (M := M) (f := mI M) (g := mJ M) (nx := nx) (n := nn) (wk := wk) (t := mI M (ad 8 nx)) (by omega) hM hi jX.1.2.1 nx3 nn2 nn3 wk2 wk3 (fun k hk => hbt k hk) (fun _ f2 g2 hg hgj => ?_) (fun hC => absurd hC (fun hC => by obtain ⟨fr, q1, q2⟩ := hC.2.1; exact hno ⟨fr, by omega, q2⟩))
      exact h2 _ ⟨hsc, ad, nc, nb, nt, wk, nw, nx, nl, ne, nk, kd, op, rfl, rfl, rfl, hW.txt (q := nx) TK.refl hg hgj⟩
  | some e =>
    show Go 1311 145 2 129 0 [.ref (ad 0 0), .int a1] [] (mm M (mI M) (mJ M)) R
    refine go_blk 1 [] (pc' := 1) (vs' := [.ref (ad 0 0), .int a1]) (st' := [.int a1]) (M' := mm M (mI M) (mJ M)) (ps := []) rfl trivial ?_
    refine go_callS rfl (by decide) rfl rfl (by omega) rfl (by decide) (by decide) ?_
    refine s_CY_isWeekK (by omega) (fun fr hfr hxe => ⟨ne_i, ?_⟩) (fun hno => ⟨ne_i, ?_⟩)
    · -- ('i', '1')
      subst hxe
      show Go 1311 145 2 129 4 [.ref (ad 0 0), .int (nI fr)] [.int 1] (mm M (mI M) (mJ M)) R
      refine go_if rfl (fun (z : (1 : Int32) = 0) => absurd z (show ¬ ((1 : Int32) = 0) from (by decide))) (fun _ => ?_)
      refine go_blk 2 [some (.ref (ad 0 10))] (pc' := 11) (vs' := [.ref (ad 0 0), .int (nI fr)]) (st' := [.ref (ad 0 10)]) (M' := mm M (mI M) (mJ M)) (ps := [ob (mm M (mI M) (mJ M)) (ad 0 0) 11, mR (mm M (mI M) (mJ M)) (ad 0 0) 17 = some (ad 0 10), va_rf (some (ad 0 10)) = .ref (ad 0 10)]) rfl ⟨(hF.o 0), (hF.r 0 17 10), rfl, trivial⟩ ?_
      refine go_callV rfl rfl rfl (by omega) rfl (by decide) (by decide) (hF.o 10) ?_
      show Go (1311 - 1) 107 0 0 0 [.ref (ad 0 10)] [] (mm M (mI M) (mJ M)) _
      refine go_blk 3 [some (.int (nI nx))] (pc' := 6) (vs' := [.ref (ad 0 10)]) (st' := [.int 20, .int (nI nx)]) (M' := mm M (mI M) (mJ M)) (ps := [ob (mm M (mI M) (mJ M)) (ad 0 10) 10, (Value.int ((mI M) (ad 0 10) 2)) = .int (nI nx)]) rfl ⟨(hF.o 10), congrArg Value.int jX.1.1, trivial⟩ ?_
      refine go_icmp rfl (fun (c2 : (nI nx) < 20) => ?_) (fun (c2 : ¬ ((nI nx) < 20)) => ?_)
      · -- (nI nx) < 20
        have nc2 : nx < 20 := (nI_lts (a := nx) (b := 20) (by omega) (by omega)).mp c2
        refine go_blk 1 [] (pc' := 14) (vs' := [.ref (ad 0 10)]) (st' := [.int 0]) (M' := mm M (mI M) (mJ M)) (ps := []) rfl trivial ?_
        refine go_zret rfl rfl (Or.inl rfl) ?_
        refine ⟨ne_i, ?_⟩
        show Go 1311 145 2 129 14 [.ref (ad 0 0), .int (nI fr)] [.int 0] (mm M (mI M) (mJ M)) R
        refine go_if rfl (fun (z : ¬ (0 : Int32) = 0) => absurd z (show ¬ (¬ (0 : Int32) = 0) from (by decide))) (fun _ => ?_)
        refine go_blk 3 [some (.int (nI wk))] (pc' := 23) (vs' := [.ref (ad 0 0), .int (nI fr)]) (st' := [.int 52, .int (nI wk)]) (M' := mm M (mI M) (mJ M)) (ps := [ob (mm M (mI M) (mJ M)) (ad 0 0) 11, (Value.int ((mI M) (ad 0 0) 7)) = .int (nI wk)]) rfl ⟨(hF.o 0), congrArg Value.int wk1, trivial⟩ ?_
        refine go_icmp rfl (fun (c3 : 52 ≤ (nI wk)) => ?_) (fun (c3 : ¬ (52 ≤ (nI wk))) => ?_)
        · -- 52 ≤ (nI wk)
          have nc3 : 52 ≤ wk := (nI_les (a := 52) (b := wk) (by omega) (by omega)).mp c3
          refine go_blk 1 [] (pc' := 41) (vs' := [.ref (ad 0 0), .int (nI fr)]) (st' := [.int (-1)]) (M' := mm M (mI M) (mJ M)) (ps := []) rfl trivial ?_
          refine go_iret rfl rfl ?_
          refine K _ _ hM.1 rfl (fun R2 h2 => ?_)
          refine s_Mo_terms (M := M) (f := mI M) (g := mJ M) (nx := nx) (n := nn) (wk := wk) (t := mI M (ad 8 nx)) (by omega) hM hi jX.1.2.1 nx3 nn2 nn3 wk2 wk3 (fun k hk => hbt k hk) (fun _ f2 g2 hg hgj => ?_) (fun hC => absurd hC (fun hC => by have y := (nI_les (a := 52) (b := wk) (by decide) (by omega)).mp c3; have := hC.2.2.2; omega))
          exact h2 _ ⟨hsc, ad, nc, nb, nt, wk, nw, nx, nl, ne, nk, kd, op, rfl, rfl, rfl, hW.txt (q := nx) TK.refl hg hgj⟩
        · -- ¬ (52 ≤ (nI wk))
          have nc3 : wk < 52 := (nI_lts (a := wk) (b := 52) (by omega) (by omega)).mp (Int32.not_le.mp c3)
          refine go_blk 3 [some (.ref (ad 0 10)), some (.ref (ad 7 nx))] (pc' := 33) (vs' := [.ref (ad 0 0), .int (nI fr)]) (st' := [.ref (ad 7 nx)]) (M' := mm M (mI M) (mJ M)) (ps := [ob (mm M (mI M) (mJ M)) (ad 0 0) 11, mR (mm M (mI M) (mJ M)) (ad 0 0) 17 = some (ad 0 10), va_rf (some (ad 0 10)) = .ref (ad 0 10), ob (mm M (mI M) (mJ M)) (ad 0 10) 10, mR (mm M (mI M) (mJ M)) (ad 0 10) 0 = some (ad 7 nx), va_rf (some (ad 7 nx)) = .ref (ad 7 nx)]) rfl ⟨(hF.o 0), (hF.r 0 17 10), rfl, (hF.o 10), hX.1, rfl, trivial⟩ ?_
          refine go_callV rfl rfl rfl (by omega) rfl (by decide) (by decide) (hX.2.2 nx (by omega)).1 ?_
          refine s_Tx_firstFault (by omega) hXq hi nn3 nn1 (fun k hk => bts_lt (hbt k hk)) (fun f1 hk1 => ⟨ne_i, ?_⟩)
          · -- ('i', 'fltI (flt (mI M (ad 8 nx)) 0 nn (0, 0, 0, true))')
            rw [hfl]
            have hee : fltI (some e) = nI e := rfl
            rw [hee]
            have w1 : f1 (ad 0 0) 7 = nI wk := (hk1 _ _ (fun z => absurd (hi _ _ _ _ z.1).1 (by decide))).trans wk1
            have w2 : f1 (ad 0 10) 2 = nI nx := (hk1 _ _ (fun z => absurd (hi _ _ _ _ z.1).1 (by decide))).trans jX.1.1
            show Go 1311 145 2 129 36 [.ref (ad 0 0), .int (nI fr)] [.int (nI e)] (mm M f1 (mJ M)) R
            refine go_blk 1 [] (pc' := 37) (vs' := [.ref (ad 0 0), .int (nI fr)]) (st' := [.int (-1), .int (nI e)]) (M' := mm M f1 (mJ M)) (ps := []) rfl trivial ?_
            refine go_icmp rfl (fun (z : (nI e) = (-1)) => absurd z (show ¬ ((nI e) = (-1)) from (nI_m1 (n := e) (by have := flt_le hfl; omega)))) (fun _ => ?_)
            refine go_blk 1 [] (pc' := 41) (vs' := [.ref (ad 0 0), .int (nI fr)]) (st' := [.int (-1)]) (M' := mm M f1 (mJ M)) (ps := []) rfl trivial ?_
            refine go_iret rfl rfl ?_
            refine K _ _ hM.1 rfl (fun R2 h2 => ?_)
            refine s_Mo_terms (M := M) (f := f1) (g := mJ M) (nx := nx) (n := nn) (wk := wk) (t := mI M (ad 8 nx)) (by omega) hM hi ((hk1 _ _ (fun z => absurd (hi _ _ _ _ z.1).1 (by decide))).trans jX.1.2.1) nx3 ((hk1 _ _ (fun z => absurd (hi _ _ _ _ z.1).1 (by decide))).trans nn2) nn3 ((hk1 _ _ (fun z => absurd (hi _ _ _ _ z.1).1 (by decide))).trans wk2) wk3 (fun k hk => by rw [hk1 _ _ (fun z => absurd (hi _ _ _ _ z.1).1 (by decide))]; exact hbt k hk) (fun _ f2 g2 hg hgj => ?_) (fun hC => absurd hC (fun hC => by rw [hfl] at hC; cases hC.1))
            exact h2 _ ⟨hsc, ad, nc, nb, nt, wk, nw, nx, nl, ne, nk, kd, op, rfl, rfl, rfl, hW.txt (q := nx) hk1 hg hgj⟩
      · -- ¬ ((nI nx) < 20)
        have nc2 : 20 ≤ nx := (nI_les (a := 20) (b := nx) (by omega) (by omega)).mp (Int32.not_lt.mp c2)
        refine go_blk 2 [] (pc' := 14) (vs' := [.ref (ad 0 10)]) (st' := [.int 1]) (M' := mm M (mI M) (mJ M)) (ps := []) rfl trivial ?_
        refine go_zret rfl rfl (Or.inr rfl) ?_
        refine ⟨ne_i, ?_⟩
        show Go 1311 145 2 129 14 [.ref (ad 0 0), .int (nI fr)] [.int 1] (mm M (mI M) (mJ M)) R
        refine go_if rfl (fun _ => ?_) (fun (z : ¬ (¬ (1 : Int32) = 0)) => absurd (show ¬ (1 : Int32) = 0 from (by decide)) z)
        refine go_blk 1 [] (pc' := 41) (vs' := [.ref (ad 0 0), .int (nI fr)]) (st' := [.int (-1)]) (M' := mm M (mI M) (mJ M)) (ps := []) rfl trivial ?_
        refine go_iret rfl rfl ?_
        refine K _ _ hM.1 rfl (fun R2 h2 => ?_)
        refine s_Mo_terms (M := M) (f := mI M) (g := mJ M) (nx := nx) (n := nn) (wk := wk) (t := mI M (ad 8 nx)) (by omega) hM hi jX.1.2.1 nx3 nn2 nn3 wk2 wk3 (fun k hk => hbt k hk) (fun _ f2 g2 hg hgj => ?_) (fun hC => absurd hC (fun hC => by have y := (nI_les (a := 20) (b := nx) (by decide) (by omega)).mp (Int32.not_lt.mp c2); have := hC.2.2.1; omega))
        exact h2 _ ⟨hsc, ad, nc, nb, nt, wk, nw, nx, nl, ne, nk, kd, op, rfl, rfl, rfl, hW.txt (q := nx) TK.refl hg hgj⟩
    · -- ('i', '0')
      show Go 1311 145 2 129 4 [.ref (ad 0 0), .int a1] [.int 0] (mm M (mI M) (mJ M)) R
      refine go_if rfl (fun _ => ?_) (fun (z : ¬ ((0 : Int32) = 0)) => absurd (show (0 : Int32) = 0 from (by decide)) z)
      refine go_blk 1 [] (pc' := 41) (vs' := [.ref (ad 0 0), .int a1]) (st' := [.int (-1)]) (M' := mm M (mI M) (mJ M)) (ps := []) rfl trivial ?_
      refine go_iret rfl rfl ?_
      refine K _ _ hM.1 rfl (fun R2 h2 => ?_)
      refine s_Mo_terms (M := M) (f := mI M) (g := mJ M) (nx := nx) (n := nn) (wk := wk) (t := mI M (ad 8 nx)) (by omega) hM hi jX.1.2.1 nx3 nn2 nn3 wk2 wk3 (fun k hk => hbt k hk) (fun _ f2 g2 hg hgj => ?_) (fun hC => absurd hC (fun hC => by obtain ⟨fr, q1, q2⟩ := hC.2.1; exact hno ⟨fr, by omega, q2⟩))
      exact h2 _ ⟨hsc, ad, nc, nb, nt, wk, nw, nx, nl, ne, nk, kd, op, rfl, rfl, rfl, hW.txt (q := nx) TK.refl hg hgj⟩

