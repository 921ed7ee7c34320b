/-! call: openDay -/
theorem op_f9 {M : Mem} {ad : Nat → Nat → Nat} {nc nb nt nx wk ne kd c : Nat} {Q W : Nat → Option Nat} {r : Nat → Nat → Option Nat} {f f2 f3 : Nat → Nat → Int32} {n : Int32} (h : JSb M ad nc nb nt nx wk ne Q W c M ad r f) (hg : GC ad Q (soF f (ad 0 8) n) kd nc f2) (ht : TD ad f2 nt f3) :
    (∀ i k, u9 i → up2 f3 (ad 0 7) 19 0 (ad 9 i) k = mI M (ad 9 i) k) ∧ ∀ k, up2 f3 (ad 0 7) 19 0 (ad 10 0) k = mI M (ad 10 0) k := by
  obtain ⟨hE, h1, h2, -⟩ := h
  have hi := hE.1
  have nn : ∀ t i t' i', ¬ (t = t' ∧ i = i') → ¬ ad t i = ad t' i' := fun t i t' i' z y => z (hi _ _ _ _ y)
  have key : ∀ t i k, (t = 9 ∧ u9 i) ∨ (t = 10 ∧ i = 0) → up2 f3 (ad 0 7) 19 0 (ad t i) k = mI M (ad t i) k := fun t i k z => by
    have t0 : t = 9 ∨ t = 10 := by
      rcases z with z | z
      · exact Or.inl z.1
      · exact Or.inr z.1
    have u : Ux M ad nc nb nt nx wk t i := by
      rcases z with ⟨rfl, z⟩ | ⟨rfl, rfl⟩
      · exact Or.inl (show Us nc nb nt nx 9 i from z)
      · exact Or.inl (show Us nc nb nt nx 10 0 from rfl)
    clear z
    rw [up2_n _ _ (fun y => nn t i 0 7 (by omega) y.1), ht.1 _ (fun j _ => nn t i 3 j (by omega)), hg.1 t i k (by omega) (by omega), soF_row (nn t i 0 8 (by omega))]
    exact h2 t i k u (by omega)
  exact ⟨fun i k u => key 9 i k (Or.inl ⟨rfl, u⟩), fun k => key 10 0 k (Or.inr ⟨rfl, rfl⟩)⟩
theorem op_MOh {M : Mem} {ad : Nat → Nat → Nat} {nc nb nt wk nw nx nl ne nk kd : Nat} {Q W : Nat → Option Nat} {F : Nat → Nat → Int32} (hW : WI M ad nc nb nt wk nw nx nl ne nk kd false) (hwk : wk < 52) (hQ : ∀ c, Q c = cmO (fun i k => mI M (ad 9 i) k) nb wk c) (hWo : ∀ c, W c = waO (fun i k => mI M (ad 9 i) k) nb wk c) (f9 : ∀ i k, u9 i → F (ad 9 i) k = mI M (ad 9 i) k) (f10 : ∀ k, F (ad 10 0) k = mI M (ad 10 0) k) : MOh ad F nb nc wk ne kd Q W := by
  obtain ⟨a1, a2, a3, a4, a5⟩ := op_Q hW hwk
  obtain ⟨b1, b2, b3, b4, b5⟩ := op_W hW hwk
  have eQ : Q = cmO (fun i k => mI M (ad 9 i) k) nb wk := funext hQ
  rw [← eQ] at a3 a4
  obtain ⟨hi, -, ⟨iS, iC, iB, iR, iL, iT⟩, ⟨jO, jR, jB, jX, jL⟩, kO, kC, kD, kP, kX⟩ := hW
  have e : ∀ i, u9 i → F (ad 9 i) = mI M (ad 9 i) := fun i u => funext (fun k => f9 i k u)
  have one : ∀ b, b < nb → ¬ mI M (ad 9 15) b = 0 → mI M (ad 9 15) b = 1 := fun b hb z => by
    rcases (iB.1 b hb).2.1.2.2.2.2.2.1 with y | y
    · exact absurd y z
    · exact y
  unfold MOh
  rw [e 15 (by unfold u9; omega), e 6 (by unfold u9; omega), e 7 (by unfold u9; omega), e 16 (by unfold u9; omega), e 92 (by unfold u9; omega), e 12 (by unfold u9; omega), f10 17, f10 18, f10 19]
  refine ⟨fun c => (hQ c).trans (cmO_congr (fun i k z => (f9 i k (by unfold u9; omega)).symm)), fun c => (hWo c).trans (waO_congr (fun i k z => (f9 i k (by unfold u9; omega)).symm)), fun a b ha hb z1 z2 z3 z4 => iB.2 a b ha hb (one a ha z1) (one b hb z2) z3 z4, fun b hb => ⟨(iB.1 b hb).2.1.2.2.2.2.2.2, fun z y => ?_⟩, fun c b z => ?_, fun i hlt => ?_, fun z c hc => (hWo c).trans (b4 z c hc), a3, a4, ⟨iS.2.1.2.2, iS.1.2.2, hwk⟩, iS.1.2.1, iS.2.1.2.1, iS.2.2.2.1.2.1⟩
  · obtain ⟨w, w1, w2, w3⟩ := (iB.1 b hb).2.2.1
    have := (w3 z).1
    rw [show vw ad (mI M) 9 15 b = 0 from y] at this
    exact absurd this (by decide)
  · rw [hQ c] at z
    exact ⟨(a1 c b z).1, beq_eq_false_iff_ne.mp (a1 c b z).2⟩
  · rcases (jB.2.2.1 i hlt).2.2 with ⟨b, z1, z2, z3, z4⟩ | ⟨z, -⟩
    · obtain ⟨k, k1, k2⟩ := kC.2.2.2.1 b z1 z3
      exact Or.inr ⟨b, k, by have := iS.2.1.2.2; omega, z2, z3, k1, k2⟩
    · exact Or.inl z
set_option maxHeartbeats 4000000 in
theorem op13s {M : Mem} {ad : Nat → Nat → Nat} {nc nb nt wk nw nx nl ne nk kd : Nat} {sc : Nat × Nat × (Nat → Int32)} {R : Option Value → Mem → Prop} (hsc : mSc M = sc) (hW : WI M ad nc nb nt wk nw nx nl ne nk kd false) (hwk : wk < 52)
    (K : ∀ (r : Int32) (M1 : Mem), ob M1 (ad 10 0) 12 → mSc M1 = mSc M → (∀ R2 : Option Value → Mem → Prop, (∀ M2, II (ad 0 0) (ad 10 0) (ad 0 40) sc M2 → R2 (some (.int r)) M2) → Call 1311 209 [.ref (ad 10 0)] M1 R2) → R (some (.int r)) M1) : Call 1311 129 [.ref (ad 0 0)] M R := by
  refine s_CY_openDay (by omega) hW hwk (fun M' ad' r f f2 f3 hjs hg ht => ?_)
  have hE := hjs.1
  have e00 : ad' 0 0 = ad 0 0 := (hE.2.2 0 0 (Ux.k0 (by omega))).1
  have e10 : ad' 10 0 = ad 10 0 := (hE.2.2 10 0 (Or.inl (show Us nc nb nt nx 10 0 from rfl))).1
  have e40 : ad' 0 40 = ad 0 40 := (hE.2.2 0 40 (Ux.k0 (by omega))).1
  have hW' := JE_wi hW hE
  have r9 : ∀ i k, u9 i → mI M (ad 9 i) k = mI M' (ad' 9 i) k := fun i k u => by
    have z := hE.2.2 9 i (Or.inl (show Us nc nb nt nx 9 i from u))
    rw [z.1, z.2.1.2.2.2.1]
  have hQ : ∀ c, cmO (fun i k => mI M (ad 9 i) k) nb wk c = cmO (fun i k => mI M' (ad' 9 i) k) nb wk c := fun c => cmO_congr (fun i k z => r9 i k (by unfold u9; omega))
  have hWo : ∀ c, waO (fun i k => mI M (ad 9 i) k) nb wk c = waO (fun i k => mI M' (ad' 9 i) k) nb wk c := fun c => waO_congr (fun i k z => r9 i k (by unfold u9; omega))
  have js2 := JS_self hjs
  have a1 := (op_Q hW hwk).1
  obtain ⟨Q, eQ⟩ : ∃ Q, cmO (fun i k => mI M (ad 9 i) k) nb wk = Q := ⟨_, rfl⟩
  obtain ⟨W, eW⟩ : ∃ W, waO (fun i k => mI M (ad 9 i) k) nb wk = W := ⟨_, rfl⟩
  rw [eQ] at hg hQ js2 a1 ⊢
  rw [eW] at hWo js2 ⊢
  obtain ⟨f9, f10⟩ := op_f9 js2 hg ht
  have H := op_MOh hW' hwk hQ hWo f9 f10
  obtain ⟨hi, ⟨hF, hM, -⟩, ⟨iS, -⟩, ⟨jO, jR, jB, -⟩, kO, kC, -⟩ := id hW'
  have hM2 : Mx (mr M' r) ad' := ⟨hM.1, fun p hp => ⟨(js2.2.1 10 0 p.1 (Or.inl (show Us nc nb nt nx 10 0 from rfl)) (by omega) (by omega) (by omega)).trans (hM.2 p hp).1, (hM.2 p hp).2⟩⟩
  refine K _ _ ?_ (hE.2.1) (fun R2 h2 => ?_)
  · rw [← e10]; exact hM2.1
  · rw [← e10]
    refine s_Mo_openDay (by omega) hi hM2 H ((f10 21).trans iS.2.2.2.2.2.1.2.1) ((f10 95).trans jB.1.2.1) ((up2_n _ _ (fun y => absurd (hi _ _ _ _ y.1).1 (by decide))).trans kC.2.1) ((f10 30).trans iS.2.2.1.2.1) iS.2.2.1.2.2 (fun f1 F hl hm => ?_)
    have od := od_F hW' (fun c b z => (a1 c b z).1) js2 hg ht hl hm
    refine h2 _ ⟨(show mSc M' = sc from hE.2.1.trans hsc), ad', nc, nb, nt, wk, 0, nx, nl, ne + cnQ Q nc, nk, kd + cnQ Q nc, true, e00, e10, e40, WI_open hW' hwk hQ hWo js2 od ⟨?_, up2_s _ _ _ _⟩ (fun c => ?_)⟩
    · rw [up2_n _ _ (fun y => absurd (hi _ _ _ _ y.1).1 (by decide))]; exact up2_s _ _ _ _
    · rw [up2_n _ _ (fun y => absurd (hi _ _ _ _ y.1).1 (by decide)), up2_n _ _ (fun y => absurd (hi _ _ _ _ y.1).1 (by decide))]

set_option maxHeartbeats 20000000 in
set_option maxRecDepth 100000 in
theorem op13 {x o u : Nat} {sc : Nat × Nat × (Nat → Int32)} : Op13 (II x o u sc) x o := by
  intro M hI R K
  obtain ⟨hsc, ad, nc, nb, nt, wk, nw, nx, nl, ne, nk, kd, op, rfl, rfl, rfl, hW⟩ := hI
  obtain ⟨hi, ⟨hF, hM, hC, hB, hT, hX⟩, ⟨iS, iC, iB, iR, iL, iT⟩, ⟨jO, jR, jB, jX, jL⟩, kO, kC, kD, kP, kX⟩ := id hW
  obtain ⟨⟨nc1, nc2, nc3⟩, ⟨nb1, nb2, nb3⟩, ⟨nt1, nt2, nt3⟩, ⟨wk1, wk2, wk3⟩, ⟨nw1, nw2, nw3⟩, ⟨op1, op2, op3⟩, ncm, ncm1, ncm2, ncm3⟩ := id iS
  simp only [vw] at nc1 nc2 nb1 nb2 nt1 nt2 wk1 wk2 nw1 nw2 op1 op2 ncm2 ncm3
  obtain ⟨nn, nn3, nn1, nn2, nnb⟩ := jX.2.1
  simp only [vw] at nn1 nn2
  have nl3 := jL.1.2.2.1
  have nx3 := jX.1.2.2
  have nk3 := jB.1.2.2.2.2.1
  have ne3 := jB.1.2.2.2.2.2
  rcases op with _ | _
  · replace op1 : mI M (ad 0 0) 8 = 0 := op1
    replace op2 : mI M (ad 10 0) 21 = 0 := op2
    by_cases hwk : wk < 52
    · exact op13s hsc hW hwk K
    show Go 1311 129 7 84 0 [.ref (ad 0 0), .retAddr 0, .retAddr 0] [] (mm M (mI M) (mJ M)) R
    refine go_blk 2 [some (.int 0)] (pc' := 4) (vs' := [.ref (ad 0 0), .retAddr 0, .retAddr 0]) (st' := [.int 0]) (M' := mm M (mI M) (mJ M)) (ps := [ob (mm M (mI M) (mJ M)) (ad 0 0) 11, (Value.int ((mI M) (ad 0 0) 8)) = .int 0]) rfl ⟨(hF.o 0), congrArg Value.int op1, trivial⟩ ?_
    refine go_if rfl (fun (z : ¬ (0 : Int32) = 0) => absurd z (show ¬ (¬ (0 : Int32) = 0) from (by decide))) (fun _ => ?_)
    refine go_blk 3 [some (.int (nI wk))] (pc' := 13) (vs' := [.ref (ad 0 0), .retAddr 0, .retAddr 0]) (st' := [.int 52, .int (nI wk)]) (M' := mm M (mI M) (mJ M)) (ps := [ob (mm M (mI M) (mJ M)) (ad 0 0) 11, (Value.int ((mI M) (ad 0 0) 7)) = .int (nI wk)]) rfl ⟨(hF.o 0), congrArg Value.int wk1, trivial⟩ ?_
    refine go_icmp rfl (fun (z : (nI wk) < 52) => absurd z (show ¬ ((nI wk) < 52) from (fun z => hwk ((nI_lts (a := wk) (b := 52) (by omega) (by decide)).mp z)))) (fun _ => ?_)
    refine go_blk 1 [] (pc' := 17) (vs' := [.ref (ad 0 0), .retAddr 0, .retAddr 0]) (st' := [.int (-1)]) (M' := mm M (mI M) (mJ M)) (ps := []) rfl trivial ?_
    refine go_iret rfl rfl ?_
    refine K _ _ hM.1 rfl (fun R2 h2 => ?_)
    show Go 1311 209 0 0 0 [.ref (ad 10 0), .retAddr 0, .retAddr 0, .retAddr 0, .retAddr 0, .retAddr 0, .retAddr 0, .retAddr 0] [] (mm M (mI M) (mJ M)) R2
    refine go_blk 5 [some (.int 0)] (pc' := 9) (vs' := [.ref (ad 10 0), .retAddr 0, .retAddr 0, .retAddr 0, .retAddr 0, .retAddr 0, .retAddr 0, .retAddr 0]) (st' := [.int 0]) (M' := mm M (up2 (mI M) (ad 10 0) 0 0) (mJ M)) (ps := [ob (mm M (mI M) (mJ M)) (ad 10 0) 12, ob (mm M (up2 (mI M) (ad 10 0) 0 0) (mJ M)) (ad 10 0) 12, (Value.int ((up2 (mI M) (ad 10 0) 0 0) (ad 10 0) 21)) = .int 0]) rfl ⟨hM.1, hM.1, congrArg Value.int (((up2_n _ _ (fun z => absurd z.2 (by decide))).trans (rfl)).trans op2), trivial⟩ ?_
    refine go_if rfl (fun (z : ¬ (0 : Int32) = 0) => absurd z (show ¬ (¬ (0 : Int32) = 0) from (by decide))) (fun _ => ?_)
    refine go_blk 3 [some (.int (nI wk))] (pc' := 18) (vs' := [.ref (ad 10 0), .retAddr 0, .retAddr 0, .retAddr 0, .retAddr 0, .retAddr 0, .retAddr 0, .retAddr 0]) (st' := [.int 52, .int (nI wk)]) (M' := mm M (up2 (mI M) (ad 10 0) 0 0) (mJ M)) (ps := [ob (mm M (up2 (mI M) (ad 10 0) 0 0) (mJ M)) (ad 10 0) 12, (Value.int ((up2 (mI M) (ad 10 0) 0 0) (ad 10 0) 19)) = .int (nI wk)]) rfl ⟨hM.1, congrArg Value.int (((up2_n _ _ (fun z => absurd z.2 (by decide))).trans (rfl)).trans wk2), trivial⟩ ?_
    refine go_icmp rfl (fun (z : ¬ (nI wk) = 52) => absurd z (show ¬ (¬ (nI wk) = 52) from (fun z => z (by rw [show wk = 52 by omega]; rfl)))) (fun _ => ?_)
    refine go_blk 1 [] (pc' := 22) (vs' := [.ref (ad 10 0), .retAddr 0, .retAddr 0, .retAddr 0, .retAddr 0, .retAddr 0, .retAddr 0, .retAddr 0]) (st' := [.int (-1)]) (M' := mm M (up2 (mI M) (ad 10 0) 0 0) (mJ M)) (ps := []) rfl trivial ?_
    refine go_iret rfl rfl ?_
    exact h2 _ ⟨hsc, ad, nc, nb, nt, wk, nw, nx, nl, ne, nk, kd, false, rfl, rfl, rfl, hW.thr⟩
  · replace op1 : mI M (ad 0 0) 8 = 1 := op1
    replace op2 : mI M (ad 10 0) 21 = 1 := op2
    replace op3 : wk < 52 := op3 rfl
    show Go 1311 129 7 84 0 [.ref (ad 0 0), .retAddr 0, .retAddr 0] [] (mm M (mI M) (mJ M)) R
    refine go_blk 2 [some (.int 1)] (pc' := 4) (vs' := [.ref (ad 0 0), .retAddr 0, .retAddr 0]) (st' := [.int 1]) (M' := mm M (mI M) (mJ M)) (ps := [ob (mm M (mI M) (mJ M)) (ad 0 0) 11, (Value.int ((mI M) (ad 0 0) 8)) = .int 1]) rfl ⟨(hF.o 0), congrArg Value.int op1, trivial⟩ ?_
    refine go_if rfl (fun _ => ?_) (fun (z : ¬ (¬ (1 : Int32) = 0)) => absurd (show ¬ (1 : Int32) = 0 from (by decide)) z)
    refine go_blk 1 [] (pc' := 17) (vs' := [.ref (ad 0 0), .retAddr 0, .retAddr 0]) (st' := [.int (-1)]) (M' := mm M (mI M) (mJ M)) (ps := []) rfl trivial ?_
    refine go_iret rfl rfl ?_
    refine K _ _ hM.1 rfl (fun R2 h2 => ?_)
    show Go 1311 209 0 0 0 [.ref (ad 10 0), .retAddr 0, .retAddr 0, .retAddr 0, .retAddr 0, .retAddr 0, .retAddr 0, .retAddr 0] [] (mm M (mI M) (mJ M)) R2
    refine go_blk 5 [some (.int 1)] (pc' := 9) (vs' := [.ref (ad 10 0), .retAddr 0, .retAddr 0, .retAddr 0, .retAddr 0, .retAddr 0, .retAddr 0, .retAddr 0]) (st' := [.int 1]) (M' := mm M (up2 (mI M) (ad 10 0) 0 0) (mJ M)) (ps := [ob (mm M (mI M) (mJ M)) (ad 10 0) 12, ob (mm M (up2 (mI M) (ad 10 0) 0 0) (mJ M)) (ad 10 0) 12, (Value.int ((up2 (mI M) (ad 10 0) 0 0) (ad 10 0) 21)) = .int 1]) rfl ⟨hM.1, hM.1, congrArg Value.int (((up2_n _ _ (fun z => absurd z.2 (by decide))).trans (rfl)).trans op2), trivial⟩ ?_
    refine go_if rfl (fun _ => ?_) (fun (z : ¬ (¬ (1 : Int32) = 0)) => absurd (show ¬ (1 : Int32) = 0 from (by decide)) z)
    refine go_blk 1 [] (pc' := 22) (vs' := [.ref (ad 10 0), .retAddr 0, .retAddr 0, .retAddr 0, .retAddr 0, .retAddr 0, .retAddr 0, .retAddr 0]) (st' := [.int (-1)]) (M' := mm M (up2 (mI M) (ad 10 0) 0 0) (mJ M)) (ps := []) rfl trivial ?_
    refine go_iret rfl rfl ?_
    exact h2 _ ⟨hsc, ad, nc, nb, nt, wk, nw, nx, nl, ne, nk, kd, true, rfl, rfl, rfl, hW.thr⟩

