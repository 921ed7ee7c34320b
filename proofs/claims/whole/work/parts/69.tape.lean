/-! one more text: the tape becomes terms -/
set_option maxHeartbeats 4000000 in
theorem WI.tape {A : Mem} {ad : Nat → Nat → Nat} {nc nb nt wk nw nx nl ne nk kd n fr : Nat} {op : Bool} {f : Nat → Nat → Int32} {g : Nat → Nat → Int64} (h : WI A ad nc nb nt wk nw nx nl ne nk kd op) (hnx : nx < 20)
    (hx7 : ob A (ad 7 (nx + 1)) 9 ∧ mR A (ad 7 (nx + 1)) 0 = some (ad 8 (nx + 1)) ∧ ob A (ad 8 (nx + 1)) 15 ∧ mN A (ad 8 (nx + 1)) = 120) (h36 : mR A (ad 0 36) nx = some (ad 7 nx))
    (ch : ∀ t i k, ¬ ((t = 0 ∧ i = 10 ∧ k = 2) ∨ (t = 7 ∧ i = nx ∧ 2 ≤ k) ∨ (t = 7 ∧ i = nx + 1) ∨ (t = 8 ∧ i = nx + 1) ∨ (t = 9 ∧ i = 76 ∧ 120 * nx ≤ k) ∨ (t = 9 ∧ 77 ≤ i ∧ i ≤ 79 ∧ k = nx) ∨ (t = 10 ∧ i = 0 ∧ (k = 0 ∨ k = 80 ∨ k = 81 ∨ (83 ≤ k ∧ k ≤ 89)))) → vw ad f t i k = vw ad (mI A) t i k)
    (chj : ∀ t i k, ¬ (t = 10 ∧ i = 0 ∧ k = 90) → vw ad g t i k = vw ad (mJ A) t i k)
    (e1 : vw ad f 0 10 2 = nI (nx + 1)) (e2 : vw ad f 10 0 81 = nI (nx + 1)) (e3 : vw ad f 10 0 80 = 0) (e4 : vw ad f 7 (nx + 1) 1 = 0) (e5 : vw ad f 7 nx 2 = nI fr ∧ vw ad f 9 78 nx = nI fr ∧ fr ≤ 51) (e6 : vw ad f 7 nx 3 = nI wk ∧ vw ad f 9 79 nx = nI wk ∧ wk < 52)
    (e7 : n ≤ 120 ∧ vw ad f 7 nx 1 = nI n ∧ vw ad f 9 77 nx = nI n ∧ ∀ k, k < n → bts (vw ad f 8 nx k) (vw ad f 9 76 (120 * nx + k))) (e8 : okT (vw ad f 8 nx) n) :
    WI (mm (sR A (ad 0 10) 0 (some (ad 7 (nx + 1)))) f g) ad nc nb nt wk nw (nx + 1) nl ne nk kd op := by
  obtain ⟨hi, ⟨hF, hM, hC, hB, hT, hX⟩, ⟨iS, iC, iB, iR, iL, iT⟩, ⟨jO, jR, jB, jX, jL⟩, kO, kC, kD, kP, kX⟩ := h
  have r : ∀ t i k, ¬ (t = 0 ∧ i = 10 ∧ k = 0) → mR (sR A (ad 0 10) 0 (some (ad 7 (nx + 1)))) (ad t i) k = mR A (ad t i) k := fun t i k q => up2_n _ _ (fun z => q ⟨(hi _ _ _ _ z.1).1, (hi _ _ _ _ z.1).2, z.2⟩)
  have eJ1 : eJ nb (vw ad (mI A)) (vw ad f) := fun i k q => ch 9 i k (by omega)
  refine ⟨hi, ⟨⟨hF.1, fun q hq => ?_⟩, ⟨hM.1, fun q hq => ⟨(r 10 0 _ (by omega)).trans (hM.2 q hq).1, (hM.2 q hq).2⟩⟩, fun c hc => ⟨(r 0 1 c (by omega)).trans (hC c hc).1, (hC c hc).2⟩, fun b hb => ⟨(r 0 2 b (by omega)).trans (hB b hb).1, (hB b hb).2⟩, fun t ht => ?_, ?_⟩,
    ⟨iS.congr (fun t k q => ch t 0 k (by omega)), iC.congr iS.1.2.2 (fun t i k q => ch t i k (by omega)) (fun c _ => chj 1 c 4 (by omega)), iB.congr (fun t i k q => ch t i k (by omega)), iR.congr (fun t i k q => ch t i k (by omega)), iL.congr (fun t i k q => ch t i k (by omega)), iT.congr (fun t i k q => ch t i k (by omega))⟩,
    ⟨jO.congr eJ1 (fun b k _ _ _ => ch 6 b k (by omega)), ?_, jB.congr iS.2.1.2.2 (fun t i k q => ch t i k (by omega)), ?_, ?_⟩,
    kO.congr iB iS.2.2.2.1.2.2 (fun t i k q => ch t i k (by omega)) (fun b _ _ => ch 6 b 8 (by omega)), kC.congr (fun t i k q => ch t i k (by omega)) ⟨chj 0 0 12 (by omega), chj 10 0 99 (by omega)⟩, kD.congr (fun i k q => ch 9 i k (by omega)), ?_, ?_⟩
  · have l := (show ∀ q ∈ fxR, ¬ (q.1 = 10 ∧ q.2.1 = 0) by decide) q hq
    exact (r 0 _ _ (by omega)).trans (hF.2 q hq)
  · obtain ⟨z1, z2, ⟨z3, z4⟩, z5, z6⟩ := hT t ht
    exact ⟨(r 0 3 t (by omega)).trans z1, z2, ⟨(r 3 t 2 (by omega)).trans z3, z4⟩, (r 3 t 3 (by omega)).trans z5, z6⟩
  · refine ⟨up2_s _ _ _ _, fun i q => ?_, fun i q => ?_⟩
    · by_cases c : i = nx
      · subst c; exact (r 0 36 i (by omega)).trans h36
      · exact (r 0 36 i (by omega)).trans (hX.2.1 i (by omega))
    · by_cases c : i = nx + 1
      · subst c; exact ⟨hx7.1, (r 7 _ 0 (by omega)).trans hx7.2.1, hx7.2.2⟩
      · exact ⟨(hX.2.2 i (by omega)).1, (r 7 i 0 (by omega)).trans (hX.2.2 i (by omega)).2.1, (hX.2.2 i (by omega)).2.2⟩
  · refine ⟨fun b hb => ?_, fun w c hw hc => ?_, fun ho c hc => ?_⟩
    · show (hJ (vw ad f) wk op b → _) ∧ (¬ hJ (vw ad f) wk op b → _)
      rw [hJ.congr eJ1 hb]
      refine ⟨fun q => ?_, fun q => (r 2 b 12 (by omega)).trans ((jR.1 b hb).2 q)⟩
      obtain ⟨z1, z2, z3⟩ := (jR.1 b hb).1 q
      exact ⟨(r 2 b 12 (by omega)).trans z1, z2, (r 6 b 0 (by omega)).trans z3⟩
    · rcases jR.2.1 w c hw hc with ⟨b, hb, q1, q2, q3, q4⟩ | ⟨q1, q2⟩
      · exact Or.inl ⟨b, hb, (eJ1 16 b (by omega)).trans q1, (eJ1 6 b (by omega)).trans q2, (eJ1 7 b (by omega)).trans q3, (r 0 4 _ (by omega)).trans q4⟩
      · exact Or.inr ⟨(r 0 4 _ (by omega)).trans q1, fun b hb p1 p2 p3 => q2 b hb ((eJ1 16 b (by omega)).symm.trans p1) ((eJ1 6 b (by omega)).symm.trans p2) ((eJ1 7 b (by omega)).symm.trans p3)⟩
    · rcases jR.2.2 ho c hc with ⟨b, hb, q1, q2, q3⟩ | ⟨q1, q2⟩
      · exact Or.inl ⟨b, hb, (hJ.congr eJ1 hb).mpr q1, (jAt.congr eJ1 hb).mpr q2, (r 0 5 _ (by omega)).trans q3⟩
      · exact Or.inr ⟨(r 0 5 _ (by omega)).trans q1, (eJ1 32 _ (by omega)).trans q2⟩
  · refine ⟨⟨e1, e2, by omega⟩, ⟨0, by omega, e4, e3, fun k hk => absurd hk (by omega)⟩, fun i hi2 => ?_⟩
    by_cases c : i = nx
    · subst c
      exact ⟨⟨e5.1.trans e5.2.1.symm, e6.1.trans e6.2.1.symm, ⟨fr, by omega, e5.2.2, e5.2.1⟩, ⟨wk, by omega, by omega, e6.2.1⟩⟩, n, e7⟩
    · obtain ⟨⟨z1, z2, ⟨a, a1, a2, a3⟩, b, b1, b2, b3⟩, m, m1, m2, m3, m4⟩ := jX.2.2 i (by omega)
      refine ⟨⟨?_, ?_, ⟨a, a1, a2, (ch 9 78 i (by omega)).trans a3⟩, ⟨b, b1, b2, (ch 9 79 i (by omega)).trans b3⟩⟩, m, m1, (ch 7 i 1 (by omega)).trans m2, (ch 9 77 i (by omega)).trans m3, fun k hk => ?_⟩
      · show vw ad f 7 i 2 = vw ad f 9 78 i
        rw [ch 7 i 2 (by omega), ch 9 78 i (by omega)]; exact z1
      · show vw ad f 7 i 3 = vw ad f 9 79 i
        rw [ch 7 i 3 (by omega), ch 9 79 i (by omega)]; exact z2
      · show bts (vw ad f 8 i k) (vw ad f 9 76 (120 * i + k))
        rw [ch 8 i k (by omega), ch 9 76 _ (by omega)]
        exact m4 k hk
  · refine ⟨?_, fun i q => ?_⟩
    · show vw ad f 0 10 6 = nI nl ∧ vw ad f 10 0 73 = nI nl ∧ nl ≤ 3000 ∧ vw ad f 0 10 7 = vw ad f 10 0 74
      rw [ch 0 10 6 (by omega), ch 10 0 73 (by omega), ch 0 10 7 (by omega), ch 10 0 74 (by omega)]
      exact jL.1
    · obtain ⟨h1, h2, b, hb, h3, h4, h5, h6, h7, h8⟩ := jL.2 i q
      refine ⟨?_, ?_, b, hb, (hJ.congr eJ1 hb).mpr h3, (r 0 38 i (by omega)).trans h4, ?_, ?_, ?_, ?_⟩
      · exact (ch 0 37 i (by omega)).trans (h1.trans (ch 9 72 _ (by omega)).symm)
      · exact (ch 0 39 i (by omega)).trans (h2.trans (ch 9 72 _ (by omega)).symm)
      · exact (ch 6 b 2 (by omega)).trans (h5.trans (ch 9 72 _ (by omega)).symm)
      · exact (ch 6 b 1 (by omega)).trans (h6.trans (ch 9 72 _ (by omega)).symm)
      · exact (ch 6 b 9 (by omega)).trans (h7.trans (ch 9 72 _ (by omega)).symm)
      · exact fun z => h8 ((ch 6 b 8 (by omega)).symm.trans z)
  · have e9 : ∀ i k, ppS i = true → vw ad f 9 i k = vw ad (mI A) 9 i k := fun i k q => ch 9 i k (by have := ppS_sp q; omega)
    show IPl _ ad (vw ad f) (vw ad g) nb nt nc wk nw op
    unfold IPl at kP ⊢
    rw [ppv_congr e9 (ch 10 0 31 (by omega)), ch 0 7 19 (by omega), ch 0 7 2 (by omega), ch 0 7 4 (by omega), chj 0 7 17 (by omega)]
    rcases kP with q | ⟨q1, q2⟩
    · exact Or.inl q
    · refine Or.inr ⟨q1, fun ho => ?_⟩
      obtain ⟨g1, g2, g3⟩ := q2 ho
      refine ⟨g1, fun k c hk => ?_, fun q => ?_⟩
      · obtain ⟨b, hb, z1, z2, z3⟩ := g2 k c hk
        exact ⟨b, hb, (hJ.congr eJ1 hb).mpr z1, (jAt.congr eJ1 hb).mpr z2, (r 0 17 k (by omega)).trans z3⟩
      · obtain ⟨rows, z1, z2, z3⟩ := g3 q
        exact ⟨rows, z1, z2, fun t ht => by rw [ch 0 30 t (by omega)]; exact z3 t ht⟩
  · obtain ⟨h1, h2, h3, h4, h5⟩ := kX
    refine ⟨h1, fun b hb hb2 => ?_, fun i hi2 => ?_, fun q hq => ?_, fun a b ha hb => ?_⟩
    · show vw ad f 9 11 b = 0 ∧ vw ad f 9 13 b = 0 ∧ vw ad f 9 16 b = 0
      rw [ch 9 11 b (by omega), ch 9 13 b (by omega), ch 9 16 b (by omega)]
      exact h2 b hb hb2
    · by_cases c : i = nx
      · subst c; exact ⟨⟨wk, Nat.le_refl _, e6.2.1⟩, n, e7.1, e7.2.1, e8⟩
      · obtain ⟨⟨a, g1, g1'⟩, m, g2, g3, g4⟩ := h3 i (by omega)
        exact ⟨⟨a, g1, (ch 9 79 i (by omega)).trans g1'⟩, m, g2, (ch 7 i 1 (by omega)).trans g3, g4.congr (fun k hk => ch 8 i k (by omega))⟩
    · rcases h4 q hq with z | ⟨i, a, z1, z2, z3⟩
      · exact Or.inl ((ch 9 41 q (by omega)).trans z)
      · exact Or.inr ⟨i, a, by omega, (ch 9 78 i (by omega)).trans z2, z3⟩
    · show vw ad f 9 16 a = 1 → vw ad f 9 16 b = 1 → vw ad f 9 12 a = vw ad f 9 12 b → a = b
      rw [ch 9 16 a (by omega), ch 9 16 b (by omega), ch 9 12 a (by omega), ch 9 12 b (by omega)]
      exact h5 a b ha hb
