/-! openDay: makeJobs -/
theorem JS_env {M : Mem} {ad : Nat → Nat → Nat} {r : Nat → Nat → Option Nat} {f : Nat → Nat → Int32} {c : Nat} {M0 : Mem} {a0 : Nat → Nat → Nat} {nc nb nt wk nw nx nl ne nk kd : Nat} {Q W : Nat → Option Nat} (hW : WI M0 a0 nc nb nt wk nw nx nl ne nk kd false) (h : JSb M0 a0 nc nb nt nx wk ne Q W c M ad r f) :
    Inj ad ∧ (Fx (mr M r) ad ∧ Cs (mr M r) ad nc ∧ Bs (mr M r) ad nb) ∧ (f (ad 0 0) 1 = nI nc ∧ f (ad 0 0) 7 = nI wk) ∧ (nc ≤ 7 ∧ nb ≤ 60) ∧ (∀ c, c < nc → f (ad 1 c) 2 = mI M0 (a0 9 3) c) ∧ ∀ b, b < nb → f (ad 2 b) 0 = mI M0 (a0 9 6) b ∧ f (ad 2 b) 1 = mI M0 (a0 9 7) b ∧ f (ad 2 b) 2 = mI M0 (a0 9 8) b ∧ f (ad 2 b) 3 = mI M0 (a0 9 14) b := by
  have hV := JE_wi hW h.1
  obtain ⟨hi, ⟨hF0, hM, hC0, hB0, hT, hX0⟩, ⟨iS, iC, iB, iR, iL, iT⟩, -, -, -, -, -, -⟩ := hV
  obtain ⟨⟨nc1, nc2, nc3⟩, ⟨nb1, nb2, nb3⟩, ⟨nt1, nt2, nt3⟩, ⟨wk1, wk2, wk3⟩, -⟩ := iS
  simp only [vw] at nc1 wk1
  obtain ⟨hE, h1, h2, -⟩ := h
  have e9 : ∀ i, u9 i → mI M (ad 9 i) = mI M0 (a0 9 i) := fun i hu => by
    obtain ⟨q1, q2, -⟩ := hE.2.2 9 i (Or.inl hu)
    rw [q1]; exact q2.2.2.2.1
  refine ⟨hi, ⟨fx_mr hF0 (fun i k z => h1 0 i k (Ux.k0 (by omega)) (by omega) (by omega) (by omega)), fun c hc => ⟨(h1 0 1 c (Ux.k0 (by omega)) (by omega) (by omega) (by omega)).trans (hC0 c hc).1, (hC0 c hc).2⟩, fun b hb => ⟨(h1 0 2 b (Ux.k0 (by omega)) (by omega) (by omega) (by omega)).trans (hB0 b hb).1, (hB0 b hb).2⟩⟩, ⟨(h2 0 0 1 (Ux.k0 (by omega)) (by omega)).trans nc1, (h2 0 0 7 (Ux.k0 (by omega)) (by omega)).trans wk1⟩, ⟨nc3, nb3⟩, fun c hc => ?_, fun b hb => ?_⟩
  · have q := (iC.1 c hc).1.2.2.1
    simp only [vw] at q
    rw [h2 1 c 2 (Or.inl (show Us nc nb nt nx 1 c from hc)) (by omega), q, e9 3 (by unfold u9; omega)]
  · obtain ⟨⟨q0, q1, q2, q3, -⟩, -⟩ := iB.1 b hb
    simp only [vw] at q0 q1 q2 q3
    rw [h2 2 b 0 (Ux.k2 hb) (by omega), h2 2 b 1 (Ux.k2 hb) (by omega), h2 2 b 2 (Ux.k2 hb) (by omega), h2 2 b 3 (Ux.k2 hb) (by omega), q0, q1, q2, q3, e9 6 (by unfold u9; omega), e9 7 (by unfold u9; omega), e9 8 (by unfold u9; omega), e9 14 (by unfold u9; omega)]
    exact ⟨rfl, rfl, rfl, rfl⟩

set_option maxHeartbeats 4000000 in
set_option maxRecDepth 100000 in
theorem mj_half {d bc bs : Nat} {R : Option Value → Mem → Prop} {M : Mem} {ad : Nat → Nat → Nat} {r : Nat → Nat → Option Nat} {f : Nat → Nat → Int32} {c b : Nat} {M0 : Mem} {a0 : Nat → Nat → Nat} {nc nb nt wk nw nx nl ne nk kd : Nat} {Q W : Nat → Option Nat} (hd : 3 ≤ d) (hW : WI M0 a0 nc nb nt wk nw nx nl ne nk kd false) (hwk : wk < 52) (hQb : ∀ c b, c < nc → Q c = some b → b < nb) (hQn : ∀ c, c < nc → Q c = none → mR M0 (a0 0 4) (7 * wk + c) = none) (hWb : ∀ c b, c < nc → W c = some b → b < nb ∧ mI M0 (a0 9 6) b = nI c ∧ mI M0 (a0 9 7) b + 1 = nI wk ∧ ¬ hJ (vw a0 (mI M0)) wk false b) (hWu : ∀ c c' b, c < nc → c' < c → W c = some b → ¬ W c' = some b) (hc : c < nc) (hb : W c = some b) (h : JSb M0 a0 nc nb nt nx wk ne Q W c M ad r f) (hO : ob M (ad 6 b) 3) (h10 : f (ad 6 b) 10 = 0) (h11 : f (ad 6 b) 11 = 0) (ih : ∀ r f u3, JSb M0 a0 nc nb nt nx wk ne Q W (c + 1) M ad r f → Go d 172 bc bs 4 [.ref (ad 0 0), .int (nI (cnQ W (c + 1))), .int (nI (c + 1)), u3] [] (mm (mr M r) f (mJ M)) R) : Go d 172 bc bs 39 [.ref (ad 0 0), .int (nI (cnQ W c)), .int (nI c), .ref (ad 2 b)] [.ref (ad 6 b), .ref (ad 2 b)] (mm (mr M r) f (mJ M)) R := by
  obtain ⟨hi, ⟨hF, hC, hB⟩, ⟨nc1, wk1⟩, ⟨nc3, nb3⟩, hmn, hbk⟩ := JS_env hW h
  obtain ⟨hbn, hb6, hb7, hbJ⟩ := hWb c b hc hb
  have hmc := hmn c hc
  obtain ⟨v0, v1, v2, v3⟩ := hbk b hbn
  have n62 : ∀ x, ¬ ad 2 x = ad 6 b := fun x y => absurd (hi _ _ _ _ y).1 (by decide)
  rw [cnQ_s hb] at ih
  cases hq : Q c with
  | some b2 =>
    have hb2 := hQb c b2 hc hq
    have v2b := (hbk b2 hb2).2.2.1
    have hr : mR (mr M r) (ad 0 4) (7 * wk + c) = some (ad 2 b2) := (h.2.2.2.1.2.1 c b2 hc hq).1
    show Go d 172 bc bs 39 [.ref (ad 0 0), .int (nI (cnQ W c)), .int (nI c), .ref (ad 2 b)] [.ref (ad 6 b), .ref (ad 2 b)] (mm (mr M r) f (mJ M)) R
    refine go_blk 6 [some (.int (nI wk))] (pc' := 47) (vs' := [.ref (ad 0 0), .int (nI (cnQ W c)), .int (nI c), .ref (ad 2 b)]) (st' := [.int (nI c), .int (nI wk), .ref (ad 0 0), .ref (ad 2 b), .ref (ad 6 b), .ref (ad 6 b), .ref (ad 2 b)]) (M' := mm (mr M r) f (mJ M)) (ps := [(.ref (ad 6 b) : Value).category = 1, ob (mm (mr M r) f (mJ M)) (ad 0 0) 11, (Value.int (f (ad 0 0) 7)) = .int (nI wk)]) rfl ⟨rfl, (hF.o 0), congrArg Value.int wk1, trivial⟩ ?_
    refine go_callV rfl rfl rfl (by omega) rfl (Nat.zero_le _) (Nat.zero_le _) (hF.o 0) ?_
    refine s_CY_stayAt (q := some (ad 2 b2)) (by omega) hF hC nc1 nc3 hwk hc hr ⟨ne_a, ?_⟩
    show Go d 172 bc bs 50 [.ref (ad 0 0), .int (nI (cnQ W c)), .int (nI c), .ref (ad 2 b)] [.ref (ad 2 b2), .ref (ad 2 b), .ref (ad 6 b), .ref (ad 6 b), .ref (ad 2 b)] (mm (mr M r) f (mJ M)) R
    refine go_blk 5 [some (.ref (ad 0 1)), some (.ref (ad 1 c))] (pc' := 59) (vs' := [.ref (ad 0 0), .int (nI (cnQ W c)), .int (nI c), .ref (ad 2 b)]) (st' := [.int (f (ad 1 c) 2), .ref (ad 2 b2), .ref (ad 2 b), .ref (ad 6 b), .ref (ad 6 b), .ref (ad 2 b)]) (M' := mm (mr M r) f (mJ M)) (ps := [ob (mm (mr M r) f (mJ M)) (ad 0 0) 11, mR (mm (mr M r) f (mJ M)) (ad 0 0) 0 = some (ad 0 1), va_rf (some (ad 0 1)) = .ref (ad 0 1), ob (mm (mr M r) f (mJ M)) (ad 0 1) 18, 17 ≤ 18 ∧ 18 < 22, vp_in (nI c) (mN (mm (mr M r) f (mJ M)) (ad 0 1)), mR (mm (mr M r) f (mJ M)) (ad 0 1) ((nI c).toNatClampNeg) = some (ad 1 c), va_rf (some (ad 1 c)) = .ref (ad 1 c), ob (mm (mr M r) f (mJ M)) (ad 1 c) 2]) rfl ⟨(hF.o 0), (hF.r 0 0 1), rfl, (hF.o 1), (by decide), (vpi (hF.n 1) (show _ < 7 by omega)), (cl_rf rfl (by omega) (hC c (by assumption)).1), rfl, (hC c hc).2, trivial⟩ ?_
    refine go_callI rfl (by decide) rfl rfl (by omega) rfl (Nat.zero_le _) (Nat.zero_le _) ?_
    refine s_Jb_init1 (b2 := b2) (by omega) hi hB hbn hb2 hO ⟨rfl, ?_⟩
    obtain ⟨f2, hf2⟩ : ∃ f2, up2 (up2 (up2 (up2 (up2 (up2 (up2 (up2 (up2 f (ad 6 b) 5 600) (ad 6 b) 7 (-1)) (ad 6 b) 8 (-1)) (ad 6 b) 9 (-1)) (ad 6 b) 1 (f (ad 2 b) 0)) (ad 6 b) 2 (f (ad 2 b) 1 + 1)) (ad 6 b) 3 960) (ad 6 b) 4 (f (ad 2 b2) 2)) (ad 6 b) 6 ((f (ad 1 c) 2) + 3 * f (ad 2 b) 2 + (if f (ad 2 b) 3 = 0 then 0 else 20)) = f2 := ⟨_, rfl⟩
    have hf : ∀ a, ¬ a = ad 6 b → f2 a = f a := fun a ha => by rw [← hf2, up2_row ha, up2_row ha, up2_row ha, up2_row ha, up2_row ha, up2_row ha, up2_row ha, up2_row ha, up2_row ha]
    have hv : JV M0 a0 wk Q c b (f2 (ad 6 b)) := by
      rw [← hf2]
      unfold JV jDue jLin
      rw [hq]
      simp only [up2, true_and, if_true, Nat.reduceEqDiff, and_false, and_true, if_false, reduceCtorEq, and_self, v0, v1, v2, v3, hmc, hb6, hb7, h10, h11, v2b]
    rw [hf2]
    show Go d 172 bc bs 62 [.ref (ad 0 0), .int (nI (cnQ W c)), .int (nI c), .ref (ad 2 b)] [.ref (ad 6 b), .ref (ad 2 b)] (mm (mr M (up2 r (ad 6 b) 0 (some (ad 2 b)))) f2 (mJ M)) R
    show Go d 172 bc bs 62 [.ref (ad 0 0), .int (nI (cnQ W c)), .int (nI c), .ref (ad 2 b)] [.ref (ad 6 b), .ref (ad 2 b)] (mm (mr M (up2 r (ad 6 b) 0 (some (ad 2 b)))) f2 (mJ M)) R
    refine go_blk 6 [some (.ref (ad 0 5)), some (.ref (ad 6 b))] (pc' := 74) (vs' := [.ref (ad 0 0), .int (nI (cnQ W c)), .int (nI c), .ref (ad 2 b)]) (st' := [.ref (ad 6 b), .int (nI c), .ref (ad 0 5)]) (M' := mm (mr M (up2 (up2 r (ad 6 b) 0 (some (ad 2 b))) (ad 2 b) 12 (some (ad 6 b)))) f2 (mJ M)) (ps := [ob (mm (mr M (up2 r (ad 6 b) 0 (some (ad 2 b)))) f2 (mJ M)) (ad 2 b) 0, ob (mm (mr M (up2 (up2 r (ad 6 b) 0 (some (ad 2 b))) (ad 2 b) 12 (some (ad 6 b)))) f2 (mJ M)) (ad 0 0) 11, mR (mm (mr M (up2 (up2 r (ad 6 b) 0 (some (ad 2 b))) (ad 2 b) 12 (some (ad 6 b)))) f2 (mJ M)) (ad 0 0) 11 = some (ad 0 5), va_rf (some (ad 0 5)) = .ref (ad 0 5), ob (mm (mr M (up2 (up2 r (ad 6 b) 0 (some (ad 2 b))) (ad 2 b) 12 (some (ad 6 b)))) f2 (mJ M)) (ad 2 b) 0, mR (mm (mr M (up2 (up2 r (ad 6 b) 0 (some (ad 2 b))) (ad 2 b) 12 (some (ad 6 b)))) f2 (mJ M)) (ad 2 b) 12 = some (ad 6 b), va_rf (some (ad 6 b)) = .ref (ad 6 b)]) rfl ⟨(hB b hbn).2, (hF.o 0), ((up2_n _ _ (fun y => absurd (hi _ _ _ _ y.1).1 (by decide))).trans ((up2_n _ _ (fun y => absurd (hi _ _ _ _ y.1).1 (by decide))).trans (hF.r 0 11 5))), rfl, (hB b hbn).2, (up2_s _ _ _ _), rfl, trivial⟩ ?_
    refine go_blk 1 [] (pc' := 75) (vs' := [.ref (ad 0 0), .int (nI (cnQ W c)), .int (nI c), .ref (ad 2 b)]) (st' := []) (M' := mm (sR (mr M (up2 (up2 r (ad 6 b) 0 (some (ad 2 b))) (ad 2 b) 12 (some (ad 6 b)))) (ad 0 5) ((nI c).toNatClampNeg) (some (ad 6 b))) f2 (mJ M)) (ps := [ob (mm (mr M (up2 (up2 r (ad 6 b) 0 (some (ad 2 b))) (ad 2 b) 12 (some (ad 6 b)))) f2 (mJ M)) (ad 0 5) 19, 17 ≤ 19 ∧ 19 < 22, ob (mm (mr M (up2 (up2 r (ad 6 b) 0 (some (ad 2 b))) (ad 2 b) 12 (some (ad 6 b)))) f2 (mJ M)) (ad 6 b) (zaI.getD (19 - 17) 0), vp_in (nI c) (mN (mm (mr M (up2 (up2 r (ad 6 b) 0 (some (ad 2 b))) (ad 2 b) 12 (some (ad 6 b)))) f2 (mJ M)) (ad 0 5))]) rfl ⟨(hF.o 5), (by decide), hO, (vpi (hF.n 5) (show c < 7 by omega)), trivial⟩ ?_
    rw [nI_clamp (n := c) (by omega)]
    show Go d 172 bc bs 75 [.ref (ad 0 0), .int (nI (cnQ W c)), .int (nI c), .ref (ad 2 b)] [] (mm (mr M (up2 (up2 (up2 r (ad 6 b) 0 (some (ad 2 b))) (ad 2 b) 12 (some (ad 6 b))) (ad 0 5) c (some (ad 6 b)))) f2 (mJ M)) R
    refine go_blk 3 [] (pc' := 4) (vs' := [.ref (ad 0 0), .int ((nI (cnQ W c)) + 1), .int ((nI c) + 1), .ref (ad 2 b)]) (st' := []) (M' := mm (mr M (up2 (up2 (up2 r (ad 6 b) 0 (some (ad 2 b))) (ad 2 b) 12 (some (ad 6 b))) (ad 0 5) c (some (ad 6 b)))) f2 (mJ M)) (ps := []) rfl trivial ?_
    rw [show nI c + 1 = nI (c + 1) from nI_add c 1, show nI (cnQ W c) + 1 = nI (cnQ W c + 1) from nI_add _ 1]
    exact ih _ _ _ (h.job hQb hb hbJ (fun c' hc' => hWu c c' b hc hc' hb) hO hf hv)
  | none =>
    have hr : mR (mr M r) (ad 0 4) (7 * wk + c) = none := by
      obtain ⟨q1, -, q3⟩ := h.1.2.2 0 4 (Ux.k0 (by omega))
      refine (h.2.2.2.1.2.2.1 c (by omega) (Or.inr hq)).trans ?_
      rw [q1, q3]
      exact hQn c hc hq
    show Go d 172 bc bs 39 [.ref (ad 0 0), .int (nI (cnQ W c)), .int (nI c), .ref (ad 2 b)] [.ref (ad 6 b), .ref (ad 2 b)] (mm (mr M r) f (mJ M)) R
    refine go_blk 6 [some (.int (nI wk))] (pc' := 47) (vs' := [.ref (ad 0 0), .int (nI (cnQ W c)), .int (nI c), .ref (ad 2 b)]) (st' := [.int (nI c), .int (nI wk), .ref (ad 0 0), .ref (ad 2 b), .ref (ad 6 b), .ref (ad 6 b), .ref (ad 2 b)]) (M' := mm (mr M r) f (mJ M)) (ps := [(.ref (ad 6 b) : Value).category = 1, ob (mm (mr M r) f (mJ M)) (ad 0 0) 11, (Value.int (f (ad 0 0) 7)) = .int (nI wk)]) rfl ⟨rfl, (hF.o 0), congrArg Value.int wk1, trivial⟩ ?_
    refine go_callV rfl rfl rfl (by omega) rfl (Nat.zero_le _) (Nat.zero_le _) (hF.o 0) ?_
    refine s_CY_stayAt (q := none) (by omega) hF hC nc1 nc3 hwk hc hr ⟨ne_0, ?_⟩
    show Go d 172 bc bs 50 [.ref (ad 0 0), .int (nI (cnQ W c)), .int (nI c), .ref (ad 2 b)] [.null, .ref (ad 2 b), .ref (ad 6 b), .ref (ad 6 b), .ref (ad 2 b)] (mm (mr M r) f (mJ M)) R
    refine go_blk 5 [some (.ref (ad 0 1)), some (.ref (ad 1 c))] (pc' := 59) (vs' := [.ref (ad 0 0), .int (nI (cnQ W c)), .int (nI c), .ref (ad 2 b)]) (st' := [.int (f (ad 1 c) 2), .null, .ref (ad 2 b), .ref (ad 6 b), .ref (ad 6 b), .ref (ad 2 b)]) (M' := mm (mr M r) f (mJ M)) (ps := [ob (mm (mr M r) f (mJ M)) (ad 0 0) 11, mR (mm (mr M r) f (mJ M)) (ad 0 0) 0 = some (ad 0 1), va_rf (some (ad 0 1)) = .ref (ad 0 1), ob (mm (mr M r) f (mJ M)) (ad 0 1) 18, 17 ≤ 18 ∧ 18 < 22, vp_in (nI c) (mN (mm (mr M r) f (mJ M)) (ad 0 1)), mR (mm (mr M r) f (mJ M)) (ad 0 1) ((nI c).toNatClampNeg) = some (ad 1 c), va_rf (some (ad 1 c)) = .ref (ad 1 c), ob (mm (mr M r) f (mJ M)) (ad 1 c) 2]) rfl ⟨(hF.o 0), (hF.r 0 0 1), rfl, (hF.o 1), (by decide), (vpi (hF.n 1) (show _ < 7 by omega)), (cl_rf rfl (by omega) (hC c (by assumption)).1), rfl, (hC c hc).2, trivial⟩ ?_
    refine go_callI rfl (by decide) rfl rfl (by omega) rfl (Nat.zero_le _) (Nat.zero_le _) ?_
    refine s_Jb_init0 (b2 := b) (by omega) hi hB hbn hbn hO ⟨rfl, ?_⟩
    obtain ⟨f2, hf2⟩ : ∃ f2, up2 (up2 (up2 (up2 (up2 (up2 (up2 (up2 (up2 f (ad 6 b) 5 600) (ad 6 b) 7 (-1)) (ad 6 b) 8 (-1)) (ad 6 b) 9 (-1)) (ad 6 b) 1 (f (ad 2 b) 0)) (ad 6 b) 2 (f (ad 2 b) 1 + 1)) (ad 6 b) 3 1440) (ad 6 b) 4 (0)) (ad 6 b) 6 ((f (ad 1 c) 2) + 3 * f (ad 2 b) 2 + (if f (ad 2 b) 3 = 0 then 0 else 20)) = f2 := ⟨_, rfl⟩
    have hf : ∀ a, ¬ a = ad 6 b → f2 a = f a := fun a ha => by rw [← hf2, up2_row ha, up2_row ha, up2_row ha, up2_row ha, up2_row ha, up2_row ha, up2_row ha, up2_row ha, up2_row ha]
    have hv : JV M0 a0 wk Q c b (f2 (ad 6 b)) := by
      rw [← hf2]
      unfold JV jDue jLin
      rw [hq]
      simp only [up2, true_and, if_true, Nat.reduceEqDiff, and_false, and_true, if_false, reduceCtorEq, and_self, v0, v1, v2, v3, hmc, hb6, hb7, h10, h11]
    rw [hf2]
    show Go d 172 bc bs 62 [.ref (ad 0 0), .int (nI (cnQ W c)), .int (nI c), .ref (ad 2 b)] [.ref (ad 6 b), .ref (ad 2 b)] (mm (mr M (up2 r (ad 6 b) 0 (some (ad 2 b)))) f2 (mJ M)) R
    show Go d 172 bc bs 62 [.ref (ad 0 0), .int (nI (cnQ W c)), .int (nI c), .ref (ad 2 b)] [.ref (ad 6 b), .ref (ad 2 b)] (mm (mr M (up2 r (ad 6 b) 0 (some (ad 2 b)))) f2 (mJ M)) R
    refine go_blk 6 [some (.ref (ad 0 5)), some (.ref (ad 6 b))] (pc' := 74) (vs' := [.ref (ad 0 0), .int (nI (cnQ W c)), .int (nI c), .ref (ad 2 b)]) (st' := [.ref (ad 6 b), .int (nI c), .ref (ad 0 5)]) (M' := mm (mr M (up2 (up2 r (ad 6 b) 0 (some (ad 2 b))) (ad 2 b) 12 (some (ad 6 b)))) f2 (mJ M)) (ps := [ob (mm (mr M (up2 r (ad 6 b) 0 (some (ad 2 b)))) f2 (mJ M)) (ad 2 b) 0, ob (mm (mr M (up2 (up2 r (ad 6 b) 0 (some (ad 2 b))) (ad 2 b) 12 (some (ad 6 b)))) f2 (mJ M)) (ad 0 0) 11, mR (mm (mr M (up2 (up2 r (ad 6 b) 0 (some (ad 2 b))) (ad 2 b) 12 (some (ad 6 b)))) f2 (mJ M)) (ad 0 0) 11 = some (ad 0 5), va_rf (some (ad 0 5)) = .ref (ad 0 5), ob (mm (mr M (up2 (up2 r (ad 6 b) 0 (some (ad 2 b))) (ad 2 b) 12 (some (ad 6 b)))) f2 (mJ M)) (ad 2 b) 0, mR (mm (mr M (up2 (up2 r (ad 6 b) 0 (some (ad 2 b))) (ad 2 b) 12 (some (ad 6 b)))) f2 (mJ M)) (ad 2 b) 12 = some (ad 6 b), va_rf (some (ad 6 b)) = .ref (ad 6 b)]) rfl ⟨(hB b hbn).2, (hF.o 0), ((up2_n _ _ (fun y => absurd (hi _ _ _ _ y.1).1 (by decide))).trans ((up2_n _ _ (fun y => absurd (hi _ _ _ _ y.1).1 (by decide))).trans (hF.r 0 11 5))), rfl, (hB b hbn).2, (up2_s _ _ _ _), rfl, trivial⟩ ?_
    refine go_blk 1 [] (pc' := 75) (vs' := [.ref (ad 0 0), .int (nI (cnQ W c)), .int (nI c), .ref (ad 2 b)]) (st' := []) (M' := mm (sR (mr M (up2 (up2 r (ad 6 b) 0 (some (ad 2 b))) (ad 2 b) 12 (some (ad 6 b)))) (ad 0 5) ((nI c).toNatClampNeg) (some (ad 6 b))) f2 (mJ M)) (ps := [ob (mm (mr M (up2 (up2 r (ad 6 b) 0 (some (ad 2 b))) (ad 2 b) 12 (some (ad 6 b)))) f2 (mJ M)) (ad 0 5) 19, 17 ≤ 19 ∧ 19 < 22, ob (mm (mr M (up2 (up2 r (ad 6 b) 0 (some (ad 2 b))) (ad 2 b) 12 (some (ad 6 b)))) f2 (mJ M)) (ad 6 b) (zaI.getD (19 - 17) 0), vp_in (nI c) (mN (mm (mr M (up2 (up2 r (ad 6 b) 0 (some (ad 2 b))) (ad 2 b) 12 (some (ad 6 b)))) f2 (mJ M)) (ad 0 5))]) rfl ⟨(hF.o 5), (by decide), hO, (vpi (hF.n 5) (show c < 7 by omega)), trivial⟩ ?_
    rw [nI_clamp (n := c) (by omega)]
    show Go d 172 bc bs 75 [.ref (ad 0 0), .int (nI (cnQ W c)), .int (nI c), .ref (ad 2 b)] [] (mm (mr M (up2 (up2 (up2 r (ad 6 b) 0 (some (ad 2 b))) (ad 2 b) 12 (some (ad 6 b))) (ad 0 5) c (some (ad 6 b)))) f2 (mJ M)) R
    refine go_blk 3 [] (pc' := 4) (vs' := [.ref (ad 0 0), .int ((nI (cnQ W c)) + 1), .int ((nI c) + 1), .ref (ad 2 b)]) (st' := []) (M' := mm (mr M (up2 (up2 (up2 r (ad 6 b) 0 (some (ad 2 b))) (ad 2 b) 12 (some (ad 6 b))) (ad 0 5) c (some (ad 6 b)))) f2 (mJ M)) (ps := []) rfl trivial ?_
    rw [show nI c + 1 = nI (c + 1) from nI_add c 1, show nI (cnQ W c) + 1 = nI (cnQ W c + 1) from nI_add _ 1]
    exact ih _ _ _ (h.job hQb hb hbJ (fun c' hc' => hWu c c' b hc hc' hb) hO hf hv)

