/-! call: fault -/
theorem WI.s82 {M : Mem} {ad : Nat → Nat → Nat} {nc nb nt wk nw nx nl ne nk kd : Nat} {op : Bool} {v : Option Nat} (h : WI M ad nc nb nt wk nw nx nl ne nk kd op) : WI (sR M (ad 10 0) 82 v) ad nc nb nt wk nw nx nl ne nk kd op := by
  obtain ⟨hi, ⟨hF, hM, hC, hB, hT, hX⟩, h1, ⟨jO, jR, jB, jX, jL⟩, kO, kC, kD, kP, kX⟩ := h
  have r : ∀ t i k, ¬ t = 10 → mR (sR M (ad 10 0) 82 v) (ad t i) k = mR M (ad t i) k := fun t i k q => up2_n _ _ (fun z => q (hi _ _ _ _ z.1).1)
  refine ⟨hi, ⟨⟨hF.1, fun q hq => (r 0 _ _ (by decide)).trans (hF.2 q hq)⟩, hM.s82, fun c hc => ⟨(r 0 1 c (by decide)).trans (hC c hc).1, (hC c hc).2⟩, fun b hb => ⟨(r 0 2 b (by decide)).trans (hB b hb).1, (hB b hb).2⟩, fun t ht => ?_, ?_⟩, h1, ⟨jO, ?_, jB, jX, ?_⟩, kO, kC, kD, ?_, kX⟩
  · obtain ⟨z1, z2, ⟨z3, z4⟩, z5, z6⟩ := hT t ht
    exact ⟨(r 0 3 t (by decide)).trans z1, z2, ⟨(r 3 t 2 (by decide)).trans z3, z4⟩, (r 3 t 3 (by decide)).trans z5, z6⟩
  · exact ⟨(r 0 10 0 (by decide)).trans hX.1, fun i q => (r 0 36 i (by decide)).trans (hX.2.1 i q), fun i q => ⟨(hX.2.2 i q).1, (r 7 i 0 (by decide)).trans (hX.2.2 i q).2.1, (hX.2.2 i q).2.2⟩⟩
  · refine ⟨fun b hb => ⟨fun q => ?_, fun q => (r 2 b 12 (by decide)).trans ((jR.1 b hb).2 q)⟩, fun w c hw hc => ?_, fun ho c hc => ?_⟩
    · obtain ⟨z1, z2, z3⟩ := (jR.1 b hb).1 q
      exact ⟨(r 2 b 12 (by decide)).trans z1, z2, (r 6 b 0 (by decide)).trans z3⟩
    · rcases jR.2.1 w c hw hc with ⟨b, hb, q1, q2, q3, q4⟩ | ⟨q1, q2⟩
      · exact Or.inl ⟨b, hb, q1, q2, q3, (r 0 4 _ (by decide)).trans q4⟩
      · exact Or.inr ⟨(r 0 4 _ (by decide)).trans q1, q2⟩
    · rcases jR.2.2 ho c hc with ⟨b, hb, q1, q2, q3⟩ | ⟨q1, q2⟩
      · exact Or.inl ⟨b, hb, q1, q2, (r 0 5 _ (by decide)).trans q3⟩
      · exact Or.inr ⟨(r 0 5 _ (by decide)).trans q1, q2⟩
  · refine ⟨jL.1, fun i q => ?_⟩
    obtain ⟨z1, z2, b, hb, z3, z4, z5⟩ := jL.2 i q
    exact ⟨z1, z2, b, hb, z3, (r 0 38 i (by decide)).trans z4, z5⟩
  · rcases kP with q | ⟨q1, q2⟩
    · exact Or.inl q
    · refine Or.inr ⟨q1, fun ho => ?_⟩
      obtain ⟨g1, g2, g3⟩ := q2 ho
      refine ⟨g1, fun k c hk => ?_, g3⟩
      obtain ⟨b, hb, z1, z2, z3⟩ := g2 k c hk
      exact ⟨b, hb, z1, z2, (r 0 17 k (by decide)).trans z3⟩
theorem bts_lt {x y : Int32} (h : bts x y) : ∃ m, m < 256 ∧ x = nI m := by
  obtain ⟨m, hm, e⟩ := pk_andE y (m := 255) 8 (by decide)
  exact ⟨m, hm, h.1.symm.trans e⟩
/-- the world where only what isn't looked at has changed, behind a text gone through -/
theorem WI.txt {M : Mem} {ad : Nat → Nat → Nat} {nc nb nt wk nw nx nl ne nk kd q : Nat} {op : Bool} {v : Option Nat} {f1 f2 : Nat → Nat → Int32} {g2 : Nat → Nat → Int64} {y : Int32} (h : WI M ad nc nb nt wk nw nx nl ne nk kd op) (h1 : TK (mI M) f1 (ad 7 q)) (h2 : GT ad (up2 f1 (ad 10 0) 0 y) f2) (h3 : GK ad (mJ M) g2) : WI (mm (sR M (ad 10 0) 82 v) f2 g2) ad nc nb nt wk nw nx nl ne nk kd op := by
  have hi := h.1
  have hk : WI (mm M f2 g2) ad nc nb nt wk nw nx nl ne nk kd op := by
    refine h.keep (fun t i k hq => ?_) (fun t i k hq => ?_)
    · show f2 (ad t i) k = mI M (ad t i) k
      have hn : ¬ (t = 10 ∧ (k = 0 ∨ (83 ≤ k ∧ k ≤ 89))) ∧ ¬ (t = 7 ∧ 4 ≤ k) := by
        simp only [irr, Bool.or_eq_false_iff, Bool.and_eq_false_iff, beq_eq_false_iff_ne, decide_eq_false_iff_not, ne_eq] at hq
        omega
      rw [h2 _ _ (fun z => hn.1 ⟨(hi _ _ _ _ z.1).1, Or.inr z.2⟩), up2_n _ _ (fun z => hn.1 ⟨(hi _ _ _ _ z.1).1, Or.inl z.2⟩), h1 _ _ (fun z => hn.2 ⟨(hi _ _ _ _ z.1).1, z.2.1⟩)]
    · exact h3 _ _ (fun z => by have z1 := (hi _ _ _ _ z.1).1; omega)
  exact hk.s82

set_option maxHeartbeats 20000000 in
set_option maxRecDepth 100000 in
theorem op28 {x o u : Nat} {sc : Nat × Nat × (Nat → Int32)} : Op28 (II x o u sc) x o := by
  intro M hI R K
  obtain ⟨hsc, ad, nc, nb, nt, wk, nw, nx, nl, ne, nk, kd, op, rfl, rfl, rfl, hW⟩ := hI
  obtain ⟨hi, ⟨hF, hM, hC, hB, hT, hX⟩, ⟨iS, iC, iB, iR, iL, iT⟩, ⟨jO, jR, jB, jX, jL⟩, kO, kC, kD, kP, kX⟩ := id hW
  obtain ⟨⟨nc1, nc2, nc3⟩, ⟨nb1, nb2, nb3⟩, ⟨nt1, nt2, nt3⟩, ⟨wk1, wk2, wk3⟩, ⟨nw1, nw2, nw3⟩, ⟨op1, op2, op3⟩, ncm, ncm1, ncm2, ncm3⟩ := id iS
  simp only [vw] at nc1 nc2 nb1 nb2 nt1 nt2 wk1 wk2 nw1 nw2 op1 op2 ncm2 ncm3
  obtain ⟨nn, nn3, nn1, nn2, nnb⟩ := jX.2.1
  simp only [vw] at nn1 nn2
  have nl3 := jL.1.2.2.1
  have nx3 := jX.1.2.2
  have nk3 := jB.1.2.2.2.2.1
  have ne3 := jB.1.2.2.2.2.2
  have hXq : Xq M ad nx := ⟨(hX.2.2 nx (Nat.le_refl _)).1, (hX.2.2 nx (Nat.le_refl _)).2.1, (hX.2.2 nx (Nat.le_refl _)).2.2.1, (hX.2.2 nx (Nat.le_refl _)).2.2.2⟩
  have hbt : ∀ k, k < nn → bts (mI M (ad 8 nx) k) (mI M (ad 9 75) k) := nnb
  show Go 1311 144 0 0 0 [.ref (ad 0 0)] [] (mm M (mI M) (mJ M)) R
  refine go_blk 3 [some (.ref (ad 0 10)), some (.ref (ad 7 nx))] (pc' := 7) (vs' := [.ref (ad 0 0)]) (st' := [.ref (ad 7 nx)]) (M' := mm M (mI M) (mJ M)) (ps := [ob (mm M (mI M) (mJ M)) (ad 0 0) 11, mR (mm M (mI M) (mJ M)) (ad 0 0) 17 = some (ad 0 10), va_rf (some (ad 0 10)) = .ref (ad 0 10), ob (mm M (mI M) (mJ M)) (ad 0 10) 10, mR (mm M (mI M) (mJ M)) (ad 0 10) 0 = some (ad 7 nx), va_rf (some (ad 7 nx)) = .ref (ad 7 nx)]) rfl ⟨hF.o 0, hF.r 0 17 10, rfl, hF.o 10, hX.1, rfl, trivial⟩ ?_
  refine go_callV rfl rfl rfl (by omega) rfl (by decide) (by decide) hXq.1 ?_
  refine s_Tx_firstFault (by omega) hXq hi nn3 nn1 (fun k hk => bts_lt (hbt k hk)) (fun f1 hk1 => ⟨ne_i, ?_⟩)
  refine go_iret rfl rfl ?_
  refine K _ _ hM.1 rfl (fun R2 h2 => ?_)
  have k80 : f1 (ad 10 0) 80 = nI nn := (hk1 _ _ (fun z => absurd (hi _ _ _ _ z.1).1 (by decide))).trans nn2
  have k75 : ∀ k, (up2 f1 (ad 10 0) 0 0) (ad 9 75) k = mI M (ad 9 75) k := fun k => (up2_n _ _ (fun z => absurd (hi _ _ _ _ z.1).1 (by decide))).trans (hk1 _ _ (fun z => absurd (hi _ _ _ _ z.1).1 (by decide)))
  show Go 1311 253 0 0 0 [.ref (ad 10 0)] [] (mm M f1 (mJ M)) R2
  refine go_blk 10 [some (.ref (ad 9 75)), some (.int (nI nn))] (pc' := 16) (vs' := [.ref (ad 10 0)]) (st' := [.int 0, .int (nI nn), .int 0, .ref (ad 9 75), .ref (ad 10 0)]) (M' := mm M (up2 f1 (ad 10 0) 0 0) (mJ M)) (ps := [ob (mm M f1 (mJ M)) (ad 10 0) 12, ob (mm M (up2 f1 (ad 10 0) 0 0) (mJ M)) (ad 10 0) 12, mR (mm M (up2 f1 (ad 10 0) 0 0) (mJ M)) (ad 10 0) 75 = some (ad 9 75), va_rf (some (ad 9 75)) = .ref (ad 9 75), ob (mm M (up2 f1 (ad 10 0) 0 0) (mJ M)) (ad 10 0) 12, Value.int ((up2 f1 (ad 10 0) 0 0) (ad 10 0) 80) = .int (nI nn)]) rfl ⟨hM.1, hM.1, hM.r 75 14 120, rfl, hM.1, congrArg Value.int ((up2_n _ _ (fun z => absurd z.2 (by decide))).trans k80), trivial⟩ ?_
  refine go_callV rfl rfl rfl (by omega) rfl (by decide) (by decide) hM.1 ?_
  refine s_Mo_goThrough (fr := 0) (j := 0) (t := mI M (ad 8 nx)) (lv := lvM (up2 f1 (ad 10 0) 0 0) ad 0) (by omega) hM hi (Or.inl rfl) (hM.o 75 14 120) (by rw [hM.n 75 14 120]; omega) nn3 (by omega) (by omega) (fun k hk => ⟨by rw [Nat.zero_add, k75]; exact hbt k hk, bts_lt (hbt k hk)⟩) (fun _ _ => rfl) (fun e f2 g2 hz he hg hgj hf => ⟨ne_v, ?_⟩) (fun o f2 g2 hz hg hgj hf hpd => ⟨ne_v, ?_⟩)
  · have hfl := thr_fl.1 e hz
    show Go 1311 253 0 0 19 [.ref (ad 10 0)] [] (mm (sR M (ad 10 0) 82 (some (ad 9 75))) f2 g2) R2
    refine go_blk 2 [some (.int (nI e))] (pc' := 23) (vs' := [.ref (ad 10 0)]) (st' := [.int (nI e)]) (M' := mm (sR M (ad 10 0) 82 (some (ad 9 75))) f2 g2) (ps := [ob (mm (sR M (ad 10 0) 82 (some (ad 9 75))) f2 g2) (ad 10 0) 12, Value.int (f2 (ad 10 0) 86) = .int (nI e)]) rfl ⟨hM.1, congrArg Value.int hf, trivial⟩ ?_
    refine go_iret rfl rfl ?_
    rw [hfl] at h2
    exact h2 _ ⟨hsc, ad, nc, nb, nt, wk, nw, nx, nl, ne, nk, kd, op, rfl, rfl, rfl, hW.txt hk1 hg hgj⟩
  · have hfl := thr_fl.2 o hz
    show Go 1311 253 0 0 19 [.ref (ad 10 0)] [] (mm (sR M (ad 10 0) 82 (some (ad 9 75))) f2 g2) R2
    refine go_blk 2 [some (.int (-1))] (pc' := 23) (vs' := [.ref (ad 10 0)]) (st' := [.int (-1)]) (M' := mm (sR M (ad 10 0) 82 (some (ad 9 75))) f2 g2) (ps := [ob (mm (sR M (ad 10 0) 82 (some (ad 9 75))) f2 g2) (ad 10 0) 12, Value.int (f2 (ad 10 0) 86) = .int (-1)]) rfl ⟨hM.1, congrArg Value.int hf, trivial⟩ ?_
    refine go_iret rfl rfl ?_
    rw [hfl] at h2
    exact h2 _ ⟨hsc, ad, nc, nb, nt, wk, nw, nx, nl, ne, nk, kd, op, rfl, rfl, rfl, hW.txt hk1 hg hgj⟩

