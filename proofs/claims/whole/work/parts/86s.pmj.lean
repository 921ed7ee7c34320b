/-! findPlan: the invariant behind it -/
set_option maxHeartbeats 4000000 in
theorem WI_plan {M : Mem} {ad : Nat → Nat → Nat} {nc nb nt wk nw nx nl ne nk kd : Nat} {r : Nat → Nat → Option Nat} {f : Nat → Nat → Int32} {g : Nat → Nat → Int64} (hW : WI M ad nc nb nt wk nw nx nl ne nk kd true) (k : FPm M ad nb nt nc wk nw r f g) : WI (mm (mr M r) f g) ad nc nb nt wk nw nx nl ne nk kd true := by
  obtain ⟨k1, k2, k3, ⟨k4, k5, k6⟩, k7, k8⟩ := k
  obtain ⟨hi, ⟨hF, hM, hC, hB, hT, hX⟩, ⟨iS, iC, iB, iR, iL, iT⟩, ⟨jO, jR, jB, jX, jL⟩, kO, kC, kD, kP, kX⟩ := hW
  have nc3 := iS.1.2.2
  have nb3 := iS.2.1.2.2
  have wk3 := iS.2.2.2.1.2.2
  have e : ∀ t i j, ¬ (t = 0 ∧ (i = 7 ∨ i = 18 ∨ (20 ≤ i ∧ i ≤ 30))) → vw ad f t i j = vw ad (mI M) t i j := fun t i j z => k2 t i j (by omega) (by omega)
  have ej : ∀ t i j, ¬ (t = 0 ∧ (i = 7 ∨ i = 19 ∨ i = 25 ∨ i = 28)) → vw ad g t i j = vw ad (mJ M) t i j := fun t i j z => k3 t i j (by omega) (by omega)
  have r0 : ∀ i j, ¬ i = 17 → r (ad 0 i) j = mR M (ad 0 i) j := fun i j z => k1 0 i j (by omega)
  have rn : ∀ t i j, ¬ t = 0 → r (ad t i) j = mR M (ad t i) j := fun t i j z => k1 t i j (by omega)
  have e9 : ∀ i j, vw ad f 9 i j = vw ad (mI M) 9 i j := fun i j => e 9 i j (by omega)
  have e6 : ∀ b j, vw ad f 6 b j = vw ad (mI M) 6 b j := fun b j => e 6 b j (by omega)
  have hJc : ∀ b, hJ (vw ad f) wk true b ↔ hJ (vw ad (mI M)) wk true b := fun b => by
    unfold hJ
    rw [e9 16 b, e9 7 b]
  have jAc : ∀ b j, jAt (vw ad f) b j ↔ jAt (vw ad (mI M)) b j := fun b j => by
    unfold jAt
    rw [e9 6 b, e9 7 b]
  have pp : ppv (vw ad f) = ppv (vw ad (mI M)) := ppv_congr (fun i j _ => e9 i j) (e 10 0 31 (by omega))
  refine ⟨hi, ⟨(show Fx (mr M r) ad from fx_mr hF (fun i j z => r0 i j (by omega))), ⟨hM.1, fun p hp => ⟨(rn 10 0 p.1 (by decide)).trans (hM.2 p hp).1, (hM.2 p hp).2⟩⟩, fun c hc => ⟨(r0 1 c (by decide)).trans (hC c hc).1, (hC c hc).2⟩, fun b hb => ⟨(r0 2 b (by decide)).trans (hB b hb).1, (hB b hb).2⟩, fun t ht => ?_, ?_⟩, ⟨iS.congr (fun t j h => e t 0 j (by omega)), iC.congr nc3 (fun t i j h => e t i j (by omega)) (fun c _ => ej 1 c 4 (by omega)), iB.congr (fun t i j h => e t i j (by omega)), iR.congr (fun t i j h => e t i j (by omega)), iL.congr (fun t i j h => e t i j (by omega)), iT.congr (fun t i j h => e t i j (by omega))⟩, ⟨jO.congr (fun i j _ => e9 i j) (fun b j _ _ _ => e6 b j), ⟨fun b hb => ⟨fun q => ?_, fun q => ?_⟩, fun w c hw hc => ?_, fun _ c hc => ?_⟩, jB.congr nb3 (fun t i j h => e t i j (by omega)), jX.congr (fun t i j h => e t i j (by omega)), ⟨?_, fun i hlt => ?_⟩⟩, ?_, kC.congr (fun t i j h => e t i j (by omega)) ⟨ej 0 0 12 (by omega), ej 10 0 99 (by omega)⟩, kD.congr (fun i j _ => e9 i j), Or.inr ⟨k4, fun _ => ⟨⟨?_, k6⟩, fun j c h => ?_, fun z => ?_⟩⟩, kX.congr (fun t i j h => e t i j (by omega))⟩
  · obtain ⟨z1, z2, ⟨z3, z4⟩, z5, z6⟩ := hT t ht
    exact ⟨(r0 3 t (by decide)).trans z1, z2, ⟨(rn 3 t 2 (by decide)).trans z3, z4⟩, (rn 3 t 3 (by decide)).trans z5, z6⟩
  · exact ⟨(r0 10 0 (by decide)).trans hX.1, fun i q => (r0 36 i (by decide)).trans (hX.2.1 i q), fun i q => ⟨(hX.2.2 i q).1, (rn 7 i 0 (by decide)).trans (hX.2.2 i q).2.1, (hX.2.2 i q).2.2⟩⟩
  · obtain ⟨z1, z2, z3⟩ := (jR.1 b hb).1 ((hJc b).mp q)
    exact ⟨(rn 2 b 12 (by decide)).trans z1, z2, (rn 6 b 0 (by decide)).trans z3⟩
  · exact (rn 2 b 12 (by decide)).trans ((jR.1 b hb).2 (fun y => q ((hJc b).mpr y)))
  · show (∃ b, b < nb ∧ vw ad f 9 16 b = 1 ∧ vw ad f 9 6 b = nI c ∧ vw ad f 9 7 b = nI w ∧ r (ad 0 4) (7 * w + c) = some (ad 2 b)) ∨ (r (ad 0 4) (7 * w + c) = none ∧ ∀ b, b < nb → vw ad f 9 16 b = 1 → vw ad f 9 6 b = nI c → vw ad f 9 7 b = nI w → False)
    simp only [e9]
    rw [r0 4 _ (by decide)]
    exact jR.2.1 w c hw hc
  · show (∃ b, b < nb ∧ hJ (vw ad f) wk true b ∧ jAt (vw ad f) b (7 * wk + c) ∧ r (ad 0 5) c = some (ad 6 b)) ∨ (r (ad 0 5) c = none ∧ vw ad f 9 32 (7 * wk + c) = 0)
    rw [r0 5 _ (by decide), e9]
    rcases jR.2.2 rfl c hc with ⟨b, b1, b2, b3, b4⟩ | h
    · exact Or.inl ⟨b, b1, (hJc b).mpr b2, (jAc b _).mpr b3, b4⟩
    · exact Or.inr h
  · show vw ad f 0 10 6 = nI nl ∧ vw ad f 10 0 73 = nI nl ∧ nl ≤ 3000 ∧ vw ad f 0 10 7 = vw ad f 10 0 74
    rw [e 0 10 6 (by omega), e 0 10 7 (by omega), e 10 0 73 (by omega), e 10 0 74 (by omega)]
    exact jL.1
  · show vw ad f 0 37 i = vw ad f 9 72 (5 * i) ∧ vw ad f 0 39 i = vw ad f 9 72 (5 * i + 4) ∧ ∃ b, b < nb ∧ hJ (vw ad f) wk true b ∧ r (ad 0 38) i = some (ad 6 b) ∧ vw ad f 6 b 2 = vw ad f 9 72 (5 * i + 1) ∧ vw ad f 6 b 1 = vw ad f 9 72 (5 * i + 2) ∧ vw ad f 6 b 9 = vw ad f 9 72 (5 * i + 3) ∧ ¬ vw ad f 6 b 8 = -1
    simp only [e9, e6]
    rw [e 0 37 i (by omega), e 0 39 i (by omega), r0 38 i (by decide)]
    obtain ⟨z1, z2, b, b1, b2, b3⟩ := jL.2 i hlt
    exact ⟨z1, z2, b, b1, (hJc b).mpr b2, b3⟩
  · show vw ad f 10 0 52 = nI (ctB (fun b => (vw ad f 9 16 b == 1) && decide (vw ad f 9 7 b + 1 < nI wk) && (vw ad f 6 b 8 == -1)) nb)
    simp only [e9, e6]
    rw [e 10 0 52 (by omega)]
    exact kO
  · show f (ad 0 7) 2 = nI (tdL (ppv (vw ad f)) nc wk).length
    rw [pp]; exact k5
  · have h' : (tdL (ppv (vw ad f)) nc wk)[j]? = some c := h
    rw [pp] at h'
    obtain ⟨b, b1, b2, b3, b4⟩ := k7 j c h'
    exact ⟨b, b1, (hJc b).mpr b2, (jAc b _).mpr b3, b4⟩
  · have z' : tdL (ppv (vw ad f)) nc wk = [] ∨ 0 < nt := z
    rw [pp] at z'
    have key := k8 z'
    rw [← pp] at key
    exact key
