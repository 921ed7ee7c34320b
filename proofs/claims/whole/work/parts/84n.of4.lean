/-! openDay: the invariant behind it -/
set_option maxHeartbeats 8000000 in
theorem WI_open {M : Mem} {ad : Nat → Nat → Nat} {nc nb nt wk nw nx nl ne nk kd : Nat} {Q W : Nat → Option Nat} {F f : Nat → Nat → Int32} {r : Nat → Nat → Option Nat} {G : Nat → Nat → Int64} (hW : WI M ad nc nb nt wk nw nx nl ne nk kd false) (hwk : wk < 52) (hQ : ∀ c, Q c = cmO (fun i k => mI M (ad 9 i) k) nb wk c) (hWo : ∀ c, W c = waO (fun i k => mI M (ad 9 i) k) nb wk c) (hjs : JSb M ad nc nb nt nx wk ne Q W nc M ad r f) (h : OD M ad nc nb nt nx wk ne kd Q W F)
    (hg : G (ad 0 0) 12 = cdS (kd + cnQ Q nc) ∧ G (ad 10 0) 99 = cdS (kd + cnQ Q nc)) (hg1 : ∀ c, G (ad 1 c) 4 = mJ M (ad 1 c) 4) : WI (mm (mr M r) F G) ad nc nb nt wk 0 nx nl (ne + cnQ Q nc) nk (kd + cnQ Q nc) true := by
  have q := od_q hW hwk hQ hWo h
  have cnt := od_cnt hW q
  have le := ctB_le (fun b => F (ad 9 16) b == 1) nb
  rw [← cnt] at le
  have tBk := od_IBk hW h q
  have tJo := od_IJo hW hwk h q
  have tJr := od_IJr (G := G) hW hwk h q hjs
  have row := fun c (hc : c < 7) => od_row hW hwk hc
  have tBo := od_IBo hW h q le
  have tCd := od_ICd hW h q hg
  have nb3 : nb ≤ 60 := hW.2.2.1.1.2.1.2.2
  have tXt := od_IXt hW h q (by omega)
  have tTs := (JS_ts hW hjs).1
  obtain ⟨hi, ⟨hF, hM, hC, hB, hT, hX⟩, ⟨iS, iC, iB, iR, iL, iT⟩, ⟨jO, jR, jB, jX, jL⟩, kO, kC, kD, kP, kX⟩ := hW
  obtain ⟨c9, c91, c93, cj, ct, c0, c00, c08, c09, c032, c1, c2, c3, c45, c6, c78, c10⟩ := od_c h
  obtain ⟨-, ⟨s1, s2, s3, s4, s5, s6, s7, s8⟩, o3, o4, o5, o6, o7, o8, o9, o10⟩ := h
  obtain ⟨q1, q2, w1, w2, g16, n16, hj, hjw⟩ := q
  obtain ⟨hE, h1, h2, hJB, hJ', hN, h12⟩ := hjs
  have nc3 := iS.1.2.2
  have r0 : ∀ i k, i < 41 → ¬ (i = 4 ∨ i = 5) → r (ad 0 i) k = mR M (ad 0 i) k := fun i k z1 z2 => h1 0 i k (Ux.k0 z1) (by omega) (by omega) (by omega)
  refine ⟨hi, ⟨(show Fx (mr M r) ad from fx_mr hF (fun i k z => r0 i k (by omega) (by omega))), ⟨hM.1, fun p hp => ⟨(h1 10 0 p.1 (Or.inl (show Us nc nb nt nx 10 0 from rfl)) (by omega) (by omega) (by omega)).trans (hM.2 p hp).1, (hM.2 p hp).2⟩⟩, fun c hc => ⟨(r0 1 c (by omega) (by omega)).trans (hC c hc).1, (hC c hc).2⟩, fun b hb => ⟨(r0 2 b (by omega) (by omega)).trans (hB b hb).1, (hB b hb).2⟩, tTs, ?_⟩, ⟨?_, ?_, tBk, ?_, ?_, ?_⟩, ⟨tJo, tJr, tBo, ?_, ?_⟩, ?_, tCd, ?_, Or.inl s4, tXt⟩
  · exact ⟨(r0 10 0 (by omega) (by omega)).trans hX.1, fun i y => (r0 36 i (by omega) (by omega)).trans (hX.2.1 i y), fun i y => ⟨(hX.2.2 i y).1, (h1 7 i 0 (Or.inl (show Us nc nb nt nx 7 i from y)) (by omega) (by omega) (by omega)).trans (hX.2.2 i y).2.1, (hX.2.2 i y).2.2⟩⟩
  · show ISc (vw ad F) nc nb nt wk 0 true
    obtain ⟨t1, t2, t3, t4, t5, t6, t7⟩ := iS
    unfold ISc
    simp only [vw] at t1 t2 t3 t4 t7 ⊢
    rw [c00 1 (by omega), c00 3 (by omega), c00 5 (by omega), c00 6 (by omega), c00 7 (by omega), c10 17 (by omega), c10 18 (by omega), c10 19 (by omega), c10 30 (by omega), c10 98 (by omega)]
    exact ⟨t1, t2, t3, t4, ⟨s2, s7, by omega⟩, ⟨s1, s5, fun _ => hwk⟩, t7⟩
  · refine iC.congr nc3 (fun t i k z => ?_) (fun c _ => hg1 c)
    rcases z with ⟨rfl, z1, z2⟩ | ⟨rfl, z⟩
    · exact c1 i k z1 (by omega)
    · exact c9 i k (by unfold u9; omega) (by omega)
  · refine iR.congr (fun t i k z => ?_)
    rcases z with ⟨rfl, rfl⟩ | ⟨rfl, rfl, -⟩ | ⟨rfl, rfl⟩ | ⟨rfl, rfl, rfl⟩
    · exact c0 31 k (by omega) (by omega)
    · exact c0 16 k (by omega) (by omega)
    · exact c9 29 k (by unfold u9; omega) (by omega)
    · exact c10 31 (by omega)
  · obtain ⟨⟨l0, l1, l2, l3, l4, l5, l6, l7⟩, l8, l9⟩ := iL
    obtain ⟨m0, m2, m3, m5, m7⟩ := o10
    refine ⟨⟨m0, ?_, m2, m3, ?_, m5, ?_, m7⟩, ?_, ?_⟩
    · show F (ad 0 8) 1 = F (ad 10 0) 63
      rw [c08 1 (by omega), c10 63 (by omega)]; exact l1
    · show F (ad 0 8) 4 = F (ad 10 0) 67
      rw [c08 4 (by omega), c10 67 (by omega)]; exact l4
    · show F (ad 0 8) 6 = F (ad 10 0) 69
      rw [c08 6 (by omega), c10 69 (by omega)]; exact l6
    · show rg 0 100 (F (ad 10 0) 63)
      rw [c10 63 (by omega)]; exact l8
    · show F (ad 10 0) 71 = _
      rw [s6, if_pos (Or.inl rfl)]
  · refine ⟨fun t hlt => ?_, fun t z1 z2 => ?_⟩
    · obtain ⟨⟨t0, t1, -⟩, t2, t3, -⟩ := iT.1 t hlt
      obtain ⟨⟨m4, m5, m6, m7, m8, m9, m10⟩, v44, v45, v46, v47, v48, v49, v51⟩ := o9 t hlt
      refine ⟨⟨?_, ?_, m4.trans v51.symm, ?_, m6.trans v48.symm, m7.trans v44.symm, m8.trans v45.symm, m9.trans v46.symm, m10.trans v49.symm⟩, ?_, fun k hk => ?_, 0, by omega, v51, fun i hlt => absurd hlt (by omega)⟩
      · show F (ad 3 t) 0 = nI t
        rw [c3 t 0 hlt (by omega)]; exact t0
      · show F (ad 3 t) 1 = F (ad 9 28) t
        rw [c3 t 1 hlt (by omega), c9 28 t (by unfold u9; omega) (by omega)]; exact t1
      · show F (ad 3 t) 5 = F (ad 9 47) t
        rw [m5, v47]; exact t1
      · show rg 12 30 (F (ad 9 28) t)
        rw [c9 28 t (by unfold u9; omega) (by omega)]; exact t2
      · show F (ad 4 t) k = F (ad 9 97) (4 * t + k) ∧ ∃ m n, m ≤ n ∧ n ≤ 60 ∧ F (ad 9 97) (4 * t + k) = nI m ∧ F (ad 10 0) 98 = nI n
        rw [(c45 t k hlt).1, c9 97 _ (by unfold u9; omega) (by omega), c10 98 (by omega)]
        exact t3 k hk
    · show (F (ad 9 44) t = 0 ∧ F (ad 9 45) t = 0 ∧ F (ad 9 46) t = 0 ∧ F (ad 9 47) t = 0 ∧ F (ad 9 48) t = 0 ∧ F (ad 9 49) t = 0 ∧ F (ad 9 51) t = 0) ∧ ∀ k, k < 4 → F (ad 9 97) (4 * t + k) = 0
      rw [ct 44 t (by omega) z1, ct 45 t (by omega) z1, ct 46 t (by omega) z1, ct 47 t (by omega) z1, ct 48 t (by omega) z1, ct 49 t (by omega) z1, ct 51 t (by omega) z1]
      refine ⟨(iT.2 t z1 z2).1, fun k hk => ?_⟩
      rw [c9 97 _ (by unfold u9; omega) (by omega)]
      exact (iT.2 t z1 z2).2 k hk
  · refine jX.congr (fun t i k z => ?_)
    rcases z with ⟨rfl, rfl, rfl⟩ | ⟨rfl, rfl, z⟩ | ⟨rfl, z, -⟩ | ⟨rfl, z⟩ | ⟨rfl, z⟩
    · exact c0 10 2 (by omega) (by omega)
    · exact c10 k (by omega)
    · exact (c78 i k z).1
    · exact (c78 i k z).2
    · exact c9 i k (by unfold u9; omega) (by omega)
  · show ILn (mm (mr M r) F G) ad (vw ad F) nl nb wk true
    obtain ⟨⟨l1, l2, l3, l4⟩, l5⟩ := jL
    refine ⟨⟨(c0 10 6 (by omega) (by omega)).trans l1, (c10 73 (by omega)).trans l2, l3, ?_⟩, fun i hlt => ?_⟩
    · show F (ad 0 10) 7 = F (ad 10 0) 74
      rw [c0 10 7 (by omega) (by omega), c10 74 (by omega)]; exact l4
    · show F (ad 0 37) i = F (ad 9 72) (5 * i) ∧ F (ad 0 39) i = F (ad 9 72) (5 * i + 4) ∧ ∃ b, b < nb ∧ hJ (vw ad F) wk true b ∧ r (ad 0 38) i = some (ad 6 b) ∧ F (ad 6 b) 2 = F (ad 9 72) (5 * i + 1) ∧ F (ad 6 b) 1 = F (ad 9 72) (5 * i + 2) ∧ F (ad 6 b) 9 = F (ad 9 72) (5 * i + 3) ∧ ¬ F (ad 6 b) 8 = -1
      have e72 : ∀ k, F (ad 9 72) k = mI M (ad 9 72) k := fun k => c9 72 k (by unfold u9; omega) (by omega)
      obtain ⟨z1, z2, b, hb, z3, z4, z5, z6, z7, z8⟩ := l5 i hlt
      rw [e72, e72, e72, e72, e72, c0 37 i (by omega) (by omega), c0 39 i (by omega) (by omega)]
      refine ⟨z1, z2, b, hb, (hj b hb).mpr (Or.inl z3), (r0 38 i (by omega) (by omega)).trans z4, ?_, ?_, ?_, ?_⟩
      · rw [c6 b 2 hb z3]; exact z5
      · rw [c6 b 1 hb z3]; exact z6
      · rw [c6 b 9 hb z3]; exact z7
      · rw [c6 b 8 hb z3]; exact z8
  · show F (ad 10 0) 52 = nI (ctB (fun b => (F (ad 9 16) b == 1) && decide (F (ad 9 7) b + 1 < nI wk) && (F (ad 6 b) 8 == -1)) nb)
    rw [c10 52 (by omega)]
    refine kO.trans (congrArg nI (ctB_congr (fun b hb => ?_)))
    show ((mI M (ad 9 16) b == 1) && decide (mI M (ad 9 7) b + 1 < nI wk) && (mI M (ad 6 b) 8 == -1)) = _
    rw [c9 7 b (by unfold u9; omega) (by omega)]
    obtain ⟨w, x1, x2, x3⟩ := (iB.1 b hb).2.2.1
    have x2' : mI M (ad 9 7) b = nI w := x2
    rw [x2', show nI w + 1 = nI (w + 1) from nI_add w 1]
    by_cases lt : nI (w + 1) < nI wk
    · have lt2 := (nI_lts (a := w + 1) (b := wk) (by omega) (by omega)).mp lt
      have nq : ∀ c, c < nc → ¬ Q c = some b := fun c _ y => by
        have := (nI_eqs (a := w) (b := wk) (by omega) (by omega)).mp (x2'.symm.trans (q1 c b y).2.2.2.2)
        omega
      rw [(o6 b nq).1]
      by_cases e : mI M (ad 9 16) b = 1
      · rw [c6 b 8 hb ⟨e, w, x2', x1, Or.inl lt2⟩]
      · rw [show (mI M (ad 9 16) b == 1) = false from beq_eq_false_iff_ne.mpr e]; rfl
    · rw [decide_eq_false lt, Bool.and_false, Bool.and_false, Bool.false_and, Bool.false_and]
  · intro _
    refine ⟨fun t hlt => ?_, fun t n i hlt hn hn7 hi' => ?_, fun c hc z1 z2 => ?_⟩
    · obtain ⟨-, v44, v45, v46, v47, v48, v49, v51⟩ := o9 t hlt
      obtain ⟨-, ⟨k, k1, k2, k3⟩, -⟩ := iT.1 t hlt
      exact ⟨⟨k, by omega, k2, v47.trans k3⟩, ⟨0, by omega, by omega, v48⟩, Or.inl ⟨v44, v45, v46⟩⟩
    · have v51 := (o9 t hlt).2.2.2.2.2.2.2
      have hn' : F (ad 9 51) t = nI n := hn
      have := (nI_eqs (a := 0) (b := n) (by omega) (by omega)).mp ((show nI 0 = F (ad 9 51) t from v51.symm).trans hn')
      omega
    · show F (ad 9 37) (7 * wk + c) = -1 ∧ F (ad 9 38) (7 * wk + c) = -1
      have z1' : F (ad 9 32) (7 * wk + c) = 1 := z1
      cases hw : W c with
      | none =>
        rw [o8 32 _ (by unfold mjR; omega) (fun c' b' hc' hb' y => by
          have : c' = c := by omega
          rw [this, hw] at hb'
          cases hb'), (row c (by omega)).1] at z1'
        exact absurd z1' (by decide)
      | some b =>
        have := o7 c b hc hw
        exact ⟨this.2.2.2.2.2.2.1, this.2.2.2.2.2.2.2.1⟩
