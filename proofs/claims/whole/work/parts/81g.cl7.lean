/-! closeDay: the invariant behind it, all of it -/
set_option maxHeartbeats 8000000 in
theorem WI_close {M : Mem} {ad : Nat → Nat → Nat} {nc nb nt wk nw nx nl ne nk kd K : Nat} {bj : Nat → Nat} {f : Nat → Nat → Int32} {g : Nat → Nat → Int64} {rr : Nat → Nat → Option Nat} {dl : List Nat} (hdl : dl = gsL (lnP M ad wk nx bj) 364) (hfit : nl + dl.length ≤ 3000) (hW : WI M ad nc nb nt wk nw nx nl ne nk kd true) (hbj : ∀ j, j < 364 → mI M (ad 9 32) j = 1 → bj j < nb ∧ hJ (vw ad (mI M)) wk true (bj j) ∧ jAt (vw ad (mI M)) (bj j) j)
    (r : ∀ t i k, ¬ irR t i k → ¬ (t = 0 ∧ i = 38 ∧ nl ≤ k) → rr (ad t i) k = mR M (ad t i) k) (r38 : ∀ k, k < dl.length → rr (ad 0 38) (nl + k) = some (ad 6 (bj (dl.getD k 0))))
    (ej : ∀ t i k, (t = 1 ∧ k = 4) ∨ (t = 0 ∧ i = 0 ∧ k = 12) ∨ (t = 10 ∧ i = 0 ∧ k = 99) ∨ (t = 0 ∧ i = 7 ∧ k = 17) → vw ad g t i k = vw ad (mJ M) t i k)
    (e : ∀ t i k, irr t i k = false → ¬ ((t = 0 ∧ i = 0 ∧ (k = 7 ∨ k = 8)) ∨ (t = 10 ∧ i = 0 ∧ (k = 19 ∨ k = 21 ∨ k = 52 ∨ (65 ≤ k ∧ k ≤ 69) ∨ k = 73 ∨ k = 74)) ∨ (t = 0 ∧ i = 8 ∧ 2 ≤ k ∧ k ≤ 6) ∨ (t = 0 ∧ i = 10 ∧ (k = 6 ∨ k = 7)) ∨ (t = 0 ∧ (i = 37 ∨ i = 39) ∧ nl ≤ k) ∨ (t = 9 ∧ i = 72 ∧ 5 * nl ≤ k) ∨ (t = 9 ∧ i = 41) ∨ (t = 6 ∧ k = 11)) → vw ad f t i k = vw ad (mI M) t i k)
    (h6 : ∀ b, (∀ j, j ∈ dl → ¬ b = bj j) → f (ad 6 b) 11 = mI M (ad 6 b) 11) (h6d : ∀ j, j ∈ dl → f (ad 6 (bj j)) 11 = pyJ M ad wk nx bj j) (h41 : ∀ j, f (ad 9 41) j = if j < 364 ∧ lnP M ad wk nx bj j = true then pyJ M ad wk nx bj j else mI M (ad 9 41) j)
    (hs : f (ad 0 0) 7 = nI (wk + 1) ∧ f (ad 0 0) 8 = 0 ∧ f (ad 10 0) 19 = nI (wk + 1) ∧ f (ad 10 0) 21 = 0)
    (hla : f (ad 0 8) 2 = f (ad 10 0) 65 ∧ f (ad 0 8) 3 = f (ad 10 0) 66 ∧ f (ad 0 8) 4 = f (ad 10 0) 67 ∧ f (ad 0 8) 5 = f (ad 10 0) 68 ∧ f (ad 0 8) 6 = f (ad 10 0) 69)
    (hln : f (ad 0 10) 6 = nI (nl + dl.length) ∧ f (ad 10 0) 73 = nI (nl + dl.length) ∧ f (ad 0 10) 7 = f (ad 10 0) 74)
    (hK : mI M (ad 10 0) 52 = nI K) (h52 : f (ad 10 0) 52 = nI (K + ctB (fun c => (mI M (ad 9 32) (7 * wk + c) == 1) && (mI M (ad 9 38) (7 * wk + c) == -1)) nc))
    (hlk : ∀ k, k < dl.length → f (ad 0 37) (nl + k) = nI wk ∧ f (ad 0 39) (nl + k) = lnC M ad wk nx bj dl k ∧ f (ad 9 72) (5 * (nl + k)) = nI wk ∧ f (ad 9 72) (5 * (nl + k) + 1) = nI (dl.getD k 0 / 7) ∧ f (ad 9 72) (5 * (nl + k) + 2) = nI (dl.getD k 0 % 7) ∧ f (ad 9 72) (5 * (nl + k) + 3) = mI M (ad 9 39) (dl.getD k 0) ∧ f (ad 9 72) (5 * (nl + k) + 4) = lnC M ad wk nx bj dl k) :
    WI (mm (mr M rr) f g) ad nc nb nt (wk + 1) nw nx (nl + dl.length) ne nk kd false := by
  obtain ⟨hi, ⟨hF, hM, hC, hB, hT, hX⟩, ⟨iS, iC, iB, iR, iL, iT⟩, ⟨jO, jR, jB, jX, jL⟩, kO, kC, kD, kP, kX⟩ := id hW
  have wk3 : wk < 52 := iS.2.2.2.2.2.1.2.2 rfl
  have nc3 : nc ≤ 7 := iS.1.2.2
  have nb3 : nb ≤ 60 := iS.2.1.2.2
  have nx3 := jX.1.2.2
  have r0 : ∀ i k, ¬ (i = 11 ∨ i = 13 ∨ i = 38) → rr (ad 0 i) k = mR M (ad 0 i) k := fun i k z => r 0 i k (by unfold irR; omega) (by omega)
  have rn : ∀ t i k, ¬ t = 0 → ¬ t = 10 → rr (ad t i) k = mR M (ad t i) k := fun t i k z1 z2 => r t i k (by unfold irR; omega) (by omega)
  have m82 : ∀ q ∈ moL, ¬ q.1 = 82 := by decide
  have ir : ∀ t i k, ¬ ((t = 10 ∧ (k = 0 ∨ (25 ≤ k ∧ k ≤ 27) ∨ (58 ≤ k ∧ k ≤ 61) ∨ (82 ≤ k ∧ k ≤ 90))) ∨ (t = 9 ∧ (i = 22 ∨ i = 23 ∨ i = 24 ∨ (53 ≤ i ∧ i ≤ 57))) ∨ (t = 0 ∧ (i = 6 ∨ (11 ≤ i ∧ i ≤ 15) ∨ (18 ≤ i ∧ i ≤ 29))) ∨ (t = 7 ∧ 4 ≤ k) ∨ (t = 0 ∧ i = 10 ∧ k = 8)) → ¬ ((t = 0 ∧ i = 0 ∧ (k = 7 ∨ k = 8)) ∨ (t = 10 ∧ i = 0 ∧ (k = 19 ∨ k = 21 ∨ k = 52 ∨ (65 ≤ k ∧ k ≤ 69) ∨ k = 73 ∨ k = 74)) ∨ (t = 0 ∧ i = 8 ∧ 2 ≤ k ∧ k ≤ 6) ∨ (t = 0 ∧ i = 10 ∧ (k = 6 ∨ k = 7)) ∨ (t = 0 ∧ (i = 37 ∨ i = 39) ∧ nl ≤ k) ∨ (t = 9 ∧ i = 72 ∧ 5 * nl ≤ k) ∨ (t = 9 ∧ i = 41) ∨ (t = 6 ∧ k = 11)) → vw ad f t i k = vw ad (mI M) t i k := by
    intro t i k hn hm
    refine e t i k ?_ hm
    clear hm
    simp only [irr, Bool.or_eq_false_iff, Bool.and_eq_false_iff, beq_eq_false_iff_ne, decide_eq_false_iff_not, ne_eq]
    omega
  clear e
  have i9 : ∀ i k, ¬ (i = 22 ∨ i = 23 ∨ i = 24 ∨ (53 ≤ i ∧ i ≤ 57)) → ¬ (i = 72 ∧ 5 * nl ≤ k) → ¬ i = 41 → vw ad f 9 i k = vw ad (mI M) 9 i k := fun i k z1 z2 z3 => ir 9 i k (by omega) (by omega)
  have i6 : ∀ b k, ¬ k = 11 → vw ad f 6 b k = vw ad (mI M) 6 b k := fun b k z => ir 6 b k (by omega) (by omega)
  have e16 : ∀ i k, k < nb → (i = 7 ∨ i = 16) → vw ad f 9 i k = vw ad (mI M) 9 i k := fun i k _ z => i9 i k (by omega) (by omega) (by omega)
  have hJc : ∀ b, b < nb → (hJ (vw ad f) (wk + 1) false b ↔ hJ (vw ad (mI M)) wk true b) := fun b hb => hJ_close e16 hb
  have jAc : ∀ b j, b < nb → (jAt (vw ad f) b j ↔ jAt (vw ad (mI M)) b j) := fun b j hb => by
    unfold jAt
    rw [i9 6 b (by omega) (by omega) (by omega), i9 7 b (by omega) (by omega) (by omega)]
  have mdl : ∀ j, j ∈ dl ↔ (j < 364 ∧ lnP M ad wk nx bj j = true) := fun j => by rw [hdl]; unfold gsL; rw [List.mem_filter, List.mem_range]
  have mjob : ∀ j, j ∈ dl → j < 364 ∧ mI M (ad 9 32) j = 1 := fun j hj => ⟨((mdl j).mp hj).1, (lnP_of.mp ((mdl j).mp hj).2).1⟩
  have pyr : ∀ j, rg 0 10000 (pyJ M ad wk nx bj j) := fun j => by
    unfold pyJ
    split
    · exact ⟨0, by omega, by omega, rfl⟩
    · exact rg_py _ _ _ _
  refine ⟨hi, ⟨(show Fx (mr M rr) ad from fx_mr hF (fun i k z => r0 i k (by omega))), ⟨hM.1, fun q hq => ⟨(r 10 0 q.1 (by unfold irR; have := m82 q hq; omega) (by omega)).trans (hM.2 q hq).1, (hM.2 q hq).2⟩⟩, fun c hc => ⟨(r0 1 c (by decide)).trans (hC c hc).1, (hC c hc).2⟩, fun b hb => ⟨(r0 2 b (by decide)).trans (hB b hb).1, (hB b hb).2⟩, fun t ht => ?_, ?_⟩, ⟨?_, iC.congr nc3 (fun t i k h => ir t i k (by omega) (by omega)) (fun c _ => ej 1 c 4 (by omega)), ?_, iR.congr (fun t i k h => ir t i k (by omega) (by omega)), ?_, iT.congr (fun t i k h => ir t i k (by omega) (by omega))⟩, ⟨?_, ?_, jB.congr nb3 (fun t i k h => ir t i k (by omega) (by omega)), jX.congr (fun t i k h => ir t i k (by omega) (by omega)), ?_⟩, ?_, kC.congr (fun t i k h => ir t i k (by omega) (by omega)) ⟨ej 0 0 12 (by omega), ej 10 0 99 (by omega)⟩, (fun z => by cases z), ?_, ?_⟩
  · obtain ⟨z1, z2, ⟨z3, z4⟩, z5, z6⟩ := hT t ht
    exact ⟨(r0 3 t (by decide)).trans z1, z2, ⟨(rn 3 t 2 (by decide) (by decide)).trans z3, z4⟩, (rn 3 t 3 (by decide) (by decide)).trans z5, z6⟩
  · exact ⟨(r0 10 0 (by decide)).trans hX.1, fun i q => (r0 36 i (by decide)).trans (hX.2.1 i q), fun i q => ⟨(hX.2.2 i q).1, (rn 7 i 0 (by decide) (by decide)).trans (hX.2.2 i q).2.1, (hX.2.2 i q).2.2⟩⟩
  · show ISc (vw ad f) nc nb nt (wk + 1) nw false
    obtain ⟨s1, s2, s3, s4, s5, s6, s7⟩ := iS
    unfold ISc
    rw [ir 0 0 1 (by omega) (by omega), ir 0 0 3 (by omega) (by omega), ir 0 0 5 (by omega) (by omega), ir 0 0 6 (by omega) (by omega), ir 0 0 9 (by omega) (by omega), ir 10 0 17 (by omega) (by omega), ir 10 0 18 (by omega) (by omega), ir 10 0 20 (by omega) (by omega), ir 10 0 30 (by omega) (by omega), ir 10 0 98 (by omega) (by omega)]
    exact ⟨s1, s2, s3, ⟨hs.1, hs.2.2.1, by omega⟩, s5, ⟨hs.2.1, hs.2.2.2, fun z => by cases z⟩, s7⟩
  · show IBk (vw ad f) nb nc (wk + 1) false
    have h2 : IBk (vw ad f) nb nc wk true := iB.congr (fun t i k h => ir t i k (by omega) (by omega))
    refine ⟨fun b hb => ?_, h2.2⟩
    obtain ⟨g1, g2, ⟨w, w1, w2, w3⟩, g4⟩ := h2.1 b hb
    refine ⟨g1, g2, ⟨w, w1, w2, fun z => ⟨(w3 z).1, Or.inl ?_⟩⟩, g4⟩
    rcases (w3 z).2 with y | ⟨y, -⟩ <;> omega
  · show ILa (vw ad f) (wk + 1) false
    obtain ⟨⟨l0, l1, l2, l3, l4, l5, l6, l7⟩, l8, l9⟩ := iL
    refine ⟨⟨?_, ?_, hla.1, hla.2.1, hla.2.2.1, hla.2.2.2.1, hla.2.2.2.2, ?_⟩, ?_, ?_⟩
    · rw [ir 0 8 0 (by omega) (by omega), ir 10 0 64 (by omega) (by omega)]; exact l0
    · rw [ir 0 8 1 (by omega) (by omega), ir 10 0 63 (by omega) (by omega)]; exact l1
    · rw [ir 0 8 7 (by omega) (by omega), ir 10 0 70 (by omega) (by omega)]; exact l7
    · rw [ir 10 0 63 (by omega) (by omega)]; exact l8
    · rw [ir 10 0 71 (by omega) (by omega), l9, if_pos (Or.inl rfl), if_pos (Or.inr (by omega))]
  · show IJo (vw ad f) nb nt (wk + 1) false
    refine ⟨fun b hb hj j hja => ?_, fun j hj => ?_⟩
    · have hj0 := (hJc b hb).mp hj
      have hja0 := (jAc b j hb).mp hja
      obtain ⟨⟨p1, p2, p3, p4, p5, p6, p7, p8, p9, p10, p11⟩, q, r1, r2, r3, r4, r5, r6, r7, r8, r9, r10⟩ := jO.1 b hb hj0 j hja0
      have c9 : ∀ i k, ¬ (i = 22 ∨ i = 23 ∨ i = 24 ∨ (53 ≤ i ∧ i ≤ 57)) → ¬ i = 72 → ¬ i = 41 → vw ad f 9 i k = vw ad (mI M) 9 i k := fun i k z1 z2 z3 => i9 i k z1 (by omega) z3
      have hj364 : j < 364 := by
        obtain ⟨c, w, y1, y2, y3, y4, y5⟩ := id hja0
        obtain ⟨-, w', x1, x2, x3⟩ := id hj0
        have ew : w = w' := (nI_eqs (by omega) (by omega)).mp (y4.symm.trans x1)
        omega
      have h32 : mI M (ad 9 32) j = 1 := q.2.2
      have hbb : b = bj j := by
        obtain ⟨y1, y2, y3⟩ := hbj j hj364 h32
        exact jAt_inj iB hb y1 hj0 y2 hja0 y3
      have e11 : vw ad f 6 b 11 = vw ad f 9 41 j ∧ rg 0 10000 (vw ad f 9 41 j) := by
        show f (ad 6 b) 11 = f (ad 9 41) j ∧ rg 0 10000 (f (ad 9 41) j)
        rw [h41 j]
        by_cases z : j < 364 ∧ lnP M ad wk nx bj j = true
        · rw [if_pos z, hbb, h6d j ((mdl j).mpr z)]; exact ⟨rfl, pyr j⟩
        · rw [if_neg z, h6 b (fun j' hj' y => ?_)]
          · exact ⟨p11, r9⟩
          · obtain ⟨y1, y2⟩ := mjob j' hj'
            obtain ⟨x1, x2, x3⟩ := hbj j' y1 y2
            rw [y] at hja0
            have := jAt_uni hja0 x3
            rw [this] at z
            exact z ((mdl j').mp hj')
      rw [i6 b 1 (by decide), i6 b 2 (by decide), i6 b 3 (by decide), i6 b 4 (by decide), i6 b 5 (by decide), i6 b 6 (by decide), i6 b 7 (by decide), i6 b 8 (by decide), i6 b 9 (by decide), i6 b 10 (by decide), c9 6 b (by omega) (by decide) (by decide), c9 7 b (by omega) (by decide) (by decide), c9 8 b (by omega) (by decide) (by decide), c9 14 b (by omega) (by decide) (by decide), c9 32 j (by omega) (by decide) (by decide), c9 33 j (by omega) (by decide) (by decide), c9 34 j (by omega) (by decide) (by decide), c9 35 j (by omega) (by decide) (by decide), c9 36 j (by omega) (by decide) (by decide), c9 37 j (by omega) (by decide) (by decide), c9 38 j (by omega) (by decide) (by decide), c9 39 j (by omega) (by decide) (by decide), c9 40 j (by omega) (by decide) (by decide), c9 42 j (by omega) (by decide) (by decide), c9 43 j (by omega) (by decide) (by decide)]
      exact ⟨⟨p1, p2, p3, p4, p5, p6, p7, p8, p9, p10, e11.1⟩, q, r1, r2, r3, r4, r5, r6, r7, r8, e11.2, r10⟩
    · rw [i9 32 j (by omega) (by omega) (by omega), i9 39 j (by omega) (by omega) (by omega), i9 40 j (by omega) (by omega) (by omega)]
      rcases jO.2 j hj with ⟨b, hb, h1, h2⟩ | ⟨h1, h2, h3, h4⟩
      · exact Or.inl ⟨b, hb, (hJc b hb).mpr h1, (jAc b j hb).mpr h2⟩
      · refine Or.inr ⟨h1, h2, h3, ?_⟩
        show f (ad 9 41) j = 0
        rw [h41 j, if_neg (fun z => absurd ((lnP_of.mp z.2).1.symm.trans h1) (by decide))]
        exact h4
  · show IJr (mm (mr M rr) f g) ad (vw ad f) nb nc (wk + 1) false
    refine ⟨fun b hb => ⟨fun q => ?_, fun q => (rn 2 b 12 (by decide) (by decide)).trans ((jR.1 b hb).2 (fun y => q ((hJc b hb).mpr y)))⟩, fun w c hw hc => ?_, fun z => by cases z⟩
    · obtain ⟨z1, z2, z3⟩ := (jR.1 b hb).1 ((hJc b hb).mp q)
      exact ⟨(rn 2 b 12 (by decide) (by decide)).trans z1, z2, (rn 6 b 0 (by decide) (by decide)).trans z3⟩
    · rcases jR.2.1 w c hw hc with ⟨b, hb, q1, q2, q3, q4⟩ | ⟨q1, q2⟩
      · exact Or.inl ⟨b, hb, by rw [i9 16 b (by omega) (by omega) (by omega)]; exact q1, by rw [i9 6 b (by omega) (by omega) (by omega)]; exact q2, by rw [i9 7 b (by omega) (by omega) (by omega)]; exact q3, (r0 4 _ (by decide)).trans q4⟩
      · refine Or.inr ⟨(r0 4 _ (by decide)).trans q1, fun b hb => ?_⟩
        rw [i9 16 b (by omega) (by omega) (by omega), i9 6 b (by omega) (by omega) (by omega), i9 7 b (by omega) (by omega) (by omega)]
        exact q2 b hb
  · show ILn (mm (mr M rr) f g) ad (vw ad f) (nl + dl.length) nb (wk + 1) false
    refine ⟨⟨hln.1, hln.2.1, hfit, hln.2.2⟩, fun i hi' => ?_⟩
    by_cases c : i < nl
    · obtain ⟨z1, z2, b, hb, z3, z4, z5, z6, z7, z8⟩ := jL.2 i c
      rw [ir 0 37 i (by omega) (by omega), ir 0 39 i (by omega) (by omega), i9 72 _ (by omega) (by omega) (by omega), i9 72 _ (by omega) (by omega) (by omega), i9 72 _ (by omega) (by omega) (by omega), i9 72 _ (by omega) (by omega) (by omega), i9 72 _ (by omega) (by omega) (by omega)]
      refine ⟨z1, z2, b, hb, (hJc b hb).mpr z3, (r 0 38 i (by unfold irR; omega) (by omega)).trans z4, ?_, ?_, ?_, ?_⟩
      · rw [i6 b 2 (by decide)]; exact z5
      · rw [i6 b 1 (by decide)]; exact z6
      · rw [i6 b 9 (by decide)]; exact z7
      · rw [i6 b 8 (by decide)]; exact z8
    · obtain ⟨k, hk⟩ : ∃ k, i = nl + k := ⟨i - nl, by omega⟩
      subst hk
      have hk : k < dl.length := by omega
      obtain ⟨a1, a2, a3, a4, a5, a6, a7⟩ := hlk k hk
      obtain ⟨y1, y2⟩ := mjob _ (gtD_mem hk)
      obtain ⟨x1, x2, x3⟩ := hbj _ y1 y2
      obtain ⟨⟨p1, p2, p3, p4, p5, p6, p7, p8, p9, p10, p11⟩, -⟩ := jO.1 _ x1 x2 _ x3
      obtain ⟨c', w', u1, u2, u3, u4, u5⟩ := id x3
      have hrd := (lnP_of.mp ((mdl _).mp (gtD_mem hk)).2).2.1
      refine ⟨a1.trans a3.symm, a2.trans a7.symm, bj (dl.getD k 0), x1, (hJc _ x1).mpr x2, r38 k hk, ?_, ?_, ?_, ?_⟩
      · rw [i6 _ 2 (by decide), p2, u4, show nI w' + 1 = nI (w' + 1) from nI_add w' 1]
        show _ = f (ad 9 72) (5 * (nl + k) + 1)
        rw [a4, u5, show (7 * (w' + 1) + c') / 7 = w' + 1 by omega]
      · rw [i6 _ 1 (by decide), p1, u3]
        show _ = f (ad 9 72) (5 * (nl + k) + 2)
        rw [a5, u5, show (7 * (w' + 1) + c') % 7 = c' by omega]
      · rw [i6 _ 9 (by decide), p9]; exact a6.symm
      · rw [i6 _ 8 (by decide), p8]; exact hrd
  · show ILo (vw ad f) nb (wk + 1)
    unfold ILo at *
    show f (ad 10 0) 52 = _
    rw [h52]
    have hK2 : nI K = nI (ctB (fun b => (vw ad (mI M) 9 16 b == 1) && decide (vw ad (mI M) 9 7 b + 1 < nI wk) && (vw ad (mI M) 6 b 8 == -1)) nb) := hK.symm.trans kO
    rw [← nI_add, hK2, nI_add]
    refine congrArg nI ?_
    symm
    refine ctB_re (pos := fun b => if vw ad (mI M) 9 16 b = 1 ∧ vw ad (mI M) 9 7 b + 1 = nI wk then some (vw ad (mI M) 9 6 b).toNatClampNeg else none) (fun b hb => ?_) (fun b c hb h1 h2 h3 => ?_) (fun b c hb h1 => ?_) (fun a b c ha hb h1 h2 => ?_) (fun c hc h1 => ?_)
    · rw [i9 16 b (by omega) (by omega) (by omega), i9 7 b (by omega) (by omega) (by omega), i6 b 8 (by decide)]
      obtain ⟨w, w1, w2, w3⟩ := (iB.1 b hb).2.2.1
      obtain ⟨c, c1, c2⟩ := (iB.1 b hb).2.1.1
      have l1 : (vw ad (mI M) 9 7 b + 1 < nI (wk + 1)) ↔ w + 1 < wk + 1 := by rw [w2, show nI w + 1 = nI (w + 1) from nI_add w 1, nI_lts (by omega) (by omega)]
      have l2 : (vw ad (mI M) 9 7 b + 1 < nI wk) ↔ w + 1 < wk := by rw [w2, show nI w + 1 = nI (w + 1) from nI_add w 1, nI_lts (by omega) (by omega)]
      have l3 : (vw ad (mI M) 9 7 b + 1 = nI wk) ↔ w + 1 = wk := by rw [w2, show nI w + 1 = nI (w + 1) from nI_add w 1, nI_eqs (by omega) (by omega)]
      by_cases z16 : vw ad (mI M) 9 16 b = 1
      · by_cases zw : w + 1 = wk
        · -- today's job
          have hj0 : hJ (vw ad (mI M)) wk true b := ⟨z16, w, w2, w1, Or.inr ⟨zw, rfl⟩⟩
          obtain ⟨⟨-, -, -, -, -, -, -, p8, -, -, -⟩, q, -⟩ := jO.1 b hb hj0 (7 * wk + c) ⟨c, w, by omega, w1, c2, w2, by rw [← zw]⟩
          have q32 : mI M (ad 9 32) (7 * wk + c) = 1 := q.2.2
          have p8' : vw ad (mI M) 6 b 8 = mI M (ad 9 38) (7 * wk + c) := p8
          have k1 : ¬ (vw ad (mI M) 9 7 b + 1 < nI wk) := by rw [l2]; omega
          have k2 : vw ad (mI M) 9 7 b + 1 < nI (wk + 1) := by rw [l1]; omega
          have k3 : vw ad (mI M) 9 7 b + 1 = nI wk := l3.mpr zw
          have k4 : nI wk < nI (wk + 1) := (nI_lts (by omega) (by omega)).mpr (by omega)
          rw [c2, nI_clamp (by omega)]
          simp only [z16, k1, k2, k3, k4, decide_true, decide_false, beq_self_eq_true, Bool.true_and, Bool.and_true, Bool.and_false, Bool.false_and, true_and, and_self, if_true, Bool.false_eq_true, false_or, beq_iff_eq, Option.some.injEq, exists_eq_left', q32, p8', Int32.lt_irrefl]
        · have k3 : ¬ (vw ad (mI M) 9 7 b + 1 = nI wk) := fun z => zw (l3.mp z)
          have kk : (vw ad (mI M) 9 7 b + 1 < nI (wk + 1)) ↔ (vw ad (mI M) 9 7 b + 1 < nI wk) := by rw [l1, l2]; omega
          rw [if_neg (fun z => k3 z.2)]
          simp only [decide_eq_decide.mpr kk]
          simp
      · rw [if_neg (fun z => z16 z.1)]
        simp [z16]
    · by_cases z : vw ad (mI M) 9 16 b = 1 ∧ vw ad (mI M) 9 7 b + 1 = nI wk
      · simp only [Bool.and_eq_true, decide_eq_true_eq] at h1
        rw [z.2] at h1
        exact absurd h1.1.2 (Int32.lt_irrefl)
      · rw [if_neg z] at h2; cases h2
    · by_cases z : vw ad (mI M) 9 16 b = 1 ∧ vw ad (mI M) 9 7 b + 1 = nI wk
      · rw [if_pos z] at h1
        obtain ⟨c', c1, c2⟩ := (iB.1 b hb).2.1.1
        rw [c2, nI_clamp (by omega)] at h1
        cases h1; exact c1
      · rw [if_neg z] at h1; cases h1
    · by_cases z : vw ad (mI M) 9 16 a = 1 ∧ vw ad (mI M) 9 7 a + 1 = nI wk
      · by_cases y : vw ad (mI M) 9 16 b = 1 ∧ vw ad (mI M) 9 7 b + 1 = nI wk
        · rw [if_pos z] at h1
          rw [if_pos y] at h2
          obtain ⟨c', c1, c2⟩ := (iB.1 a ha).2.1.1
          obtain ⟨c'', d1, d2⟩ := (iB.1 b hb).2.1.1
          rw [c2, nI_clamp (by omega)] at h1
          rw [d2, nI_clamp (by omega)] at h2
          have ecc : c' = c'' := (Option.some.inj h1).trans (Option.some.inj h2).symm
          obtain ⟨w, w1, w2, -⟩ := (iB.1 a ha).2.2.1
          obtain ⟨w', v1, v2, -⟩ := (iB.1 b hb).2.2.1
          have z2 := z.2
          have y2 := y.2
          rw [w2, show nI w + 1 = nI (w + 1) from nI_add w 1, nI_eqs (by omega) (by omega)] at z2
          rw [v2, show nI w' + 1 = nI (w' + 1) from nI_add w' 1, nI_eqs (by omega) (by omega)] at y2
          exact stay_uni iB ha hb z.1 y.1 (by rw [c2, d2, ecc]) (by rw [w2, v2, show w = w' by omega])
        · rw [if_neg y] at h2; cases h2
      · rw [if_neg z] at h1; cases h1
    · simp only [Bool.and_eq_true, beq_iff_eq] at h1
      obtain ⟨y1, y2, y3⟩ := hbj (7 * wk + c) (by omega) h1.1
      obtain ⟨c', w, u1, u2, u3, u4, u5⟩ := y3
      have hcc : c' = c := by omega
      refine ⟨_, y1, ?_⟩
      rw [if_pos ⟨y2.1, by rw [u4, show nI w + 1 = nI (w + 1) from nI_add w 1]; exact congrArg nI (by omega)⟩, u3, nI_clamp (by omega), hcc]
  · show IPl (mm (mr M rr) f g) ad (vw ad f) (vw ad g) nb nt nc (wk + 1) nw false
    unfold IPl
    rw [ir 0 7 19 (by omega) (by omega)]
    rcases kP with q | ⟨q1, -⟩
    · exact Or.inl q
    · exact Or.inr ⟨q1, fun z => by cases z⟩
  · show IXt (vw ad f) nb nx ne nk kd (wk + 1)
    obtain ⟨x1, x2, x3, x4, x5⟩ := kX
    refine ⟨x1, fun b hb hb2 => ?_, fun i hix => ?_, fun j hj => ?_, fun a b ha hb => ?_⟩
    · rw [i9 11 b (by omega) (by omega) (by omega), i9 13 b (by omega) (by omega) (by omega), i9 16 b (by omega) (by omega) (by omega)]
      exact x2 b hb hb2
    · obtain ⟨⟨k, k1, k2⟩, n, n1, n2, n3⟩ := x3 i hix
      rw [i9 79 i (by omega) (by omega) (by omega), ir 7 i 1 (by omega) (by omega)]
      exact ⟨⟨k, by omega, k2⟩, n, n1, n2, n3.congr (fun k hk => ir 8 i k (by omega) (by omega))⟩
    · show f (ad 9 41) j = 0 ∨ _
      rw [h41 j]
      by_cases z : j < 364 ∧ lnP M ad wk nx bj j = true
      · rw [if_pos z]
        unfold pyJ
        rcases tmV_is (mI M (ad 9 78)) (mI M (ad 9 79)) (nI (j / 7)) (nI wk) nx with t | ⟨k, t1, t2, t3, t4⟩
        · refine Or.inl (if_pos ?_)
          unfold tmW'; rw [t]
        · refine Or.inr ?_
          obtain ⟨-, -, ⟨fr, f1, f2, f3⟩, -⟩ := (jX.2.2 k t1).1
          refine ⟨k, fr, t1, ?_, f2, ?_⟩
          · rw [i9 78 k (by omega) (by omega) (by omega)]; exact f3
          · rw [show mI M (ad 9 78) k = nI fr from f3, nI_les (by omega) (by omega)] at t4
            omega
      · rw [if_neg z]
        rcases x4 j hj with q | ⟨i, fr, q1, q2, q3⟩
        · exact Or.inl q
        · exact Or.inr ⟨i, fr, q1, by rw [i9 78 i (by omega) (by omega) (by omega)]; exact q2, q3⟩
    · rw [i9 16 a (by omega) (by omega) (by omega), i9 16 b (by omega) (by omega) (by omega), i9 12 a (by omega) (by omega) (by omega), i9 12 b (by omega) (by omega) (by omega)]
      exact x5 a b ha hb
