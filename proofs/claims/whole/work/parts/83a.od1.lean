/-! openDay: the class's beginStays -/
def BX (M : Mem) (ad : Nat → Nat → Nat) (nb wk ne c i : Nat) (r : Nat → Nat → Option Nat) (f : Nat → Nat → Int32) : Prop := (∀ b, cmO (fun i k => mI M (ad 9 i) k) nb wk c = some b → b < i → BS M ad nb wk ne (c + 1) r f) ∧ ((∀ b, cmO (fun i k => mI M (ad 9 i) k) nb wk c = some b → ¬ b < i) → BS M ad nb wk ne c r f)
theorem BX.fr {M : Mem} {ad : Nat → Nat → Nat} {nb wk ne c i : Nat} {r : Nat → Nat → Option Nat} {f : Nat → Nat → Int32} (h : BX M ad nb wk ne c i r f) : (∀ t i k, ¬ (t = 0 ∧ i = 4 ∧ 7 * wk ≤ k) → r (ad t i) k = mR M (ad t i) k) ∧ (∀ t i k, ¬ ((t = 0 ∧ i = 0 ∧ (k = 8 ∨ k = 9)) ∨ (t = 2 ∧ (k = 7 ∨ k = 11)) ∨ (t = 0 ∧ i = 9 ∧ k = 2) ∨ (t = 0 ∧ (i = 32 ∨ i = 33) ∧ ne ≤ k)) → f (ad t i) k = mI M (ad t i) k) := by
  by_cases q : ∃ b, cmO (fun i k => mI M (ad 9 i) k) nb wk c = some b ∧ b < i
  · obtain ⟨b, q1, q2⟩ := q
    exact ⟨(h.1 b q1 q2).1, (h.1 b q1 q2).2.1⟩
  · have z := h.2 (fun b q1 q2 => q ⟨b, q1, q2⟩)
    exact ⟨z.1, z.2.1⟩
theorem BX.next {M : Mem} {ad : Nat → Nat → Nat} {nb wk ne c i : Nat} {r : Nat → Nat → Option Nat} {f : Nat → Nat → Int32} (h : BX M ad nb wk ne c i r f) (hn : ¬ cmO (fun i k => mI M (ad 9 i) k) nb wk c = some i) : BX M ad nb wk ne c (i + 1) r f := by
  refine ⟨fun b hb hl => h.1 b hb ?_, fun hq => h.2 (fun b hb hl => hq b hb (by omega))⟩
  have : ¬ b = i := fun z => hn (by rw [← z]; exact hb)
  omega

set_option maxRecDepth 100000 in
theorem s_Bs_addStay {d : Nat} {M : Mem} {f : Nat → Nat → Int32} {g : Nat → Nat → Int64} {ad : Nat → Nat → Nat} {R : Option Value → Mem → Prop} {x c : Nat} (hd : 1 ≤ d) (hi : Inj ad) (hF : Fx M ad) (hx : x < 120) (h2 : f (ad 0 9) 2 = nI x) (hR : R (some (.int (nI x))) (mm M (up2 (up2 (up2 f (ad 0 32) x (nI c)) (ad 0 33) x (-1)) (ad 0 9) 2 (nI (x + 1))) g)) : Call d 13 [.ref (ad 0 9), .int (nI c)] (mm M f g) R := by
  show Go d 13 0 0 0 [.ref (ad 0 9), .int (nI c)] [] (mm M f g) R
  refine go_blk 3 [] (pc' := 3) (vs' := [.ref (ad 0 9), .int (nI c)]) (st' := [.int (-1), .int (nI c), .ref (ad 0 9)]) (M' := mm M f g) (ps := []) rfl trivial ?_
  refine go_callV rfl rfl rfl (by omega) rfl (by decide) (by decide) (hF.o 9) ?_
  show Go (d - 1) 14 0 0 0 [.ref (ad 0 9), .int (nI c), .int (-1)] [] (mm M f g) _
  refine go_blk 3 [some (.int (nI x))] (pc' := 6) (vs' := [.ref (ad 0 9), .int (nI c), .int (-1)]) (st' := [.int 120, .int (nI x)]) (M' := mm M f g) (ps := [ob (mm M f g) (ad 0 9) 1, (Value.int (f (ad 0 9) 2)) = .int (nI x)]) rfl ⟨(hF.o 9), congrArg Value.int h2, trivial⟩ ?_
  refine go_icmp rfl (fun (z : 120 ≤ (nI x)) => absurd z (show ¬ (120 ≤ (nI x)) from (Int32.not_le.mpr ((nI_lts (a := x) (b := 120) (by omega) (by decide)).mpr hx)))) (fun _ => ?_)
  refine go_blk 18 [some (.ref (ad 0 32)), some (.int (nI x)), some (.ref (ad 0 33)), some (.int (nI x)), some (.int (nI x))] (pc' := 39) (vs' := [.ref (ad 0 9), .int (nI c), .int (-1)]) (st' := []) (M' := mm M (up2 (up2 (up2 f (ad 0 32) ((nI x).toNatClampNeg) (nI c)) (ad 0 33) ((nI x).toNatClampNeg) (-1)) (ad 0 9) 2 ((nI x) + 1)) g) (ps := [ob (mm M f g) (ad 0 9) 1, mR (mm M f g) (ad 0 9) 0 = some (ad 0 32), va_rf (some (ad 0 32)) = .ref (ad 0 32), ob (mm M f g) (ad 0 9) 1, (Value.int (f (ad 0 9) 2)) = .int (nI x), ob (mm M f g) (ad 0 32) 15, vp_in (nI x) (mN (mm M f g) (ad 0 32)), ob (mm M (up2 f (ad 0 32) ((nI x).toNatClampNeg) (nI c)) g) (ad 0 9) 1, mR (mm M (up2 f (ad 0 32) ((nI x).toNatClampNeg) (nI c)) g) (ad 0 9) 1 = some (ad 0 33), va_rf (some (ad 0 33)) = .ref (ad 0 33), ob (mm M (up2 f (ad 0 32) ((nI x).toNatClampNeg) (nI c)) g) (ad 0 9) 1, (Value.int ((up2 f (ad 0 32) ((nI x).toNatClampNeg) (nI c)) (ad 0 9) 2)) = .int (nI x), ob (mm M (up2 f (ad 0 32) ((nI x).toNatClampNeg) (nI c)) g) (ad 0 33) 15, vp_in (nI x) (mN (mm M (up2 f (ad 0 32) ((nI x).toNatClampNeg) (nI c)) g) (ad 0 33)), (.ref (ad 0 9) : Value).category = 1, ob (mm M (up2 (up2 f (ad 0 32) ((nI x).toNatClampNeg) (nI c)) (ad 0 33) ((nI x).toNatClampNeg) (-1)) g) (ad 0 9) 1, (Value.int ((up2 (up2 f (ad 0 32) ((nI x).toNatClampNeg) (nI c)) (ad 0 33) ((nI x).toNatClampNeg) (-1)) (ad 0 9) 2)) = .int (nI x), ob (mm M (up2 (up2 f (ad 0 32) ((nI x).toNatClampNeg) (nI c)) (ad 0 33) ((nI x).toNatClampNeg) (-1)) g) (ad 0 9) 1]) rfl ⟨(hF.o 9), (hF.r 9 0 32), rfl, (hF.o 9), congrArg Value.int h2, (hF.o 32), (vpi (hF.n 32) hx), (hF.o 9), (hF.r 9 1 33), rfl, (hF.o 9), congrArg Value.int (((up2_n _ _ (fun z => absurd (hi _ _ _ _ z.1).2 (by decide))).trans (rfl)).trans h2), (hF.o 33), (vpi (hF.n 33) hx), rfl, (hF.o 9), congrArg Value.int (((up2_n _ _ (fun z => absurd (hi _ _ _ _ z.1).2 (by decide))).trans ((up2_n _ _ (fun z => absurd (hi _ _ _ _ z.1).2 (by decide))).trans (rfl))).trans h2), (hF.o 9), trivial⟩ ?_
  rw [nI_clamp (n := x) (by omega)]
  refine go_vret rfl rfl ?_
  refine ⟨ne_v, ?_⟩
  show Go d 13 0 0 6 [.ref (ad 0 9), .int (nI c)] [] (mm M (up2 (up2 (up2 f (ad 0 32) (x) (nI c)) (ad 0 33) (x) (-1)) (ad 0 9) 2 ((nI x) + 1)) g) R
  refine go_blk 4 [some (.int ((nI x) + 1))] (pc' := 12) (vs' := [.ref (ad 0 9), .int (nI c)]) (st' := [.int (((nI x) + 1) - 1)]) (M' := mm M (up2 (up2 (up2 f (ad 0 32) (x) (nI c)) (ad 0 33) (x) (-1)) (ad 0 9) 2 ((nI x) + 1)) g) (ps := [ob (mm M (up2 (up2 (up2 f (ad 0 32) (x) (nI c)) (ad 0 33) (x) (-1)) (ad 0 9) 2 ((nI x) + 1)) g) (ad 0 9) 1, (Value.int ((up2 (up2 (up2 f (ad 0 32) (x) (nI c)) (ad 0 33) (x) (-1)) (ad 0 9) 2 ((nI x) + 1)) (ad 0 9) 2)) = .int ((nI x) + 1)]) rfl ⟨(hF.o 9), congrArg Value.int (up2_s _ _ _ _), trivial⟩ ?_
  refine go_iret rfl rfl ?_
  rw [show nI x + 1 - 1 = nI x by rw [show nI x + 1 = nI (x + 1) from nI_add x 1]; exact nI_pred x, show nI x + 1 = nI (x + 1) from nI_add x 1]
  exact hR

set_option maxHeartbeats 4000000 in
set_option maxRecDepth 100000 in
theorem lp_begin {d : Nat} {M : Mem} {ad : Nat → Nat → Nat} {R : Option Value → Mem → Prop} {nc nb nt wk nw nx nl ne nk kd : Nat} {c : Nat} (hd : 3 ≤ d) (hW : WI M ad nc nb nt wk nw nx nl ne nk kd false) (hwk : wk < 52) (hfit : ne + cnO (fun i k => mI M (ad 9 i) k) nb wk nc ≤ 120) (hc : c < nc) (hR : ∀ r f u3, BX M ad nb wk ne c nb r f → Go d 171 0 0 107 [.ref (ad 0 0), .int (nI c), .int (nI nb), u3] [] (mm (mr M r) f (mJ M)) R) : ∀ i, i ≤ nb → ∀ r f u3, BX M ad nb wk ne c i r f → Go d 171 0 0 12 [.ref (ad 0 0), .int (nI c), .int (nI i), u3] [] (mm (mr M r) f (mJ M)) R := by
  obtain ⟨hi, ⟨hF0, hM, hC0, hB0, hT, hX0⟩, ⟨iS, iC, iB, iR, iL, iT⟩, ⟨jO, jR, jB, jX, jL⟩, kO, kC, kD, kP, kX⟩ := id hW
  obtain ⟨⟨nc1, nc2, nc3⟩, ⟨nb1, nb2, nb3⟩, ⟨nt1, nt2, nt3⟩, ⟨wk1, wk2, wk3⟩, ⟨nw1, nw2, nw3⟩, ⟨op1, op2, op3⟩, ncm, ncm1, ncm2, ncm3⟩ := id iS
  simp only [vw] at nc1 nc2 nb1 nb2 nt1 nt2 wk1 wk2 nw1 nw2 op1 op2 ncm2 ncm3
  have nl3 := jL.1.2.2.1
  have nx3 := jX.1.2.2
  have hC0 := hC0
  have h15 : ∀ b, b < nb → (mI M (ad 9 15) b = 0 ∨ mI M (ad 9 15) b = 1) := fun b hb => (iB.1 b hb).2.1.2.2.2.2.2.1
  have huni : ∀ a b, a < nb → b < nb → ¬ mI M (ad 9 15) a = 0 → ¬ mI M (ad 9 15) b = 0 → mI M (ad 9 6) a = mI M (ad 9 6) b → mI M (ad 9 7) a = mI M (ad 9 7) b → a = b := fun a b ha hb z1 z2 => iB.2 a b ha hb ((h15 a ha).resolve_left z1) ((h15 b hb).resolve_left z2)
  have env : ∀ i r f, BX M ad nb wk ne c i r f → Fx (mr M r) ad ∧ Cs (mr M r) ad nc ∧ Bs (mr M r) ad nb := fun i r f h => ⟨fx_mr hF0 (fun i k z => h.fr.1 0 i k (by omega)), fun c hc => ⟨(h.fr.1 0 1 c (by omega)).trans (hC0 c hc).1, (hC0 c hc).2⟩, fun b hb => ⟨(h.fr.1 0 2 b (by omega)).trans (hB0 b hb).1, (hB0 b hb).2⟩⟩
  refine up_ind (P := fun i => ∀ r f u3, BX M ad nb wk ne c i r f → Go d 171 0 0 12 [.ref (ad 0 0), .int (nI c), .int (nI i), u3] [] (mm (mr M r) f (mJ M)) R) nb (fun r f u3 h => ?_) (fun i hlt ih r f u3 h => ?_)
  ·
    obtain ⟨hF, hC, hB⟩ := env nb r f h
    show Go d 171 0 0 12 [.ref (ad 0 0), .int (nI c), .int (nI nb), u3] [] (mm (mr M r) f (mJ M)) R
    refine go_blk 3 [some (.int (nI nb))] (pc' := 17) (vs' := [.ref (ad 0 0), .int (nI c), .int (nI nb), u3]) (st' := [.int (nI nb), .int (nI nb)]) (M' := mm (mr M r) f (mJ M)) (ps := [ob (mm (mr M r) f (mJ M)) (ad 0 0) 11, (Value.int (f (ad 0 0) 3)) = .int (nI nb)]) rfl ⟨(hF.o 0), congrArg Value.int ((h.fr.2 0 0 3 (by omega)).trans nb1), trivial⟩ ?_
    refine go_icmp rfl (fun _ => ?_) (fun (z : ¬ (nI nb ≤ (nI nb))) => absurd (show nI nb ≤ (nI nb) from Int32.le_refl _) z)
    exact hR r f u3 h
  · obtain ⟨hF, hC, hB⟩ := env i r f h
    obtain ⟨⟨q0, q1, q2, q3, q4, q5, q6, -⟩, -⟩ := iB.1 i hlt
    simp only [vw] at q0 q1 q6
    have b0 : f (ad 2 i) 0 = mI M (ad 9 6) i := (h.fr.2 2 i 0 (by omega)).trans q0
    have b1 : f (ad 2 i) 1 = mI M (ad 9 7) i := (h.fr.2 2 i 1 (by omega)).trans q1
    have b6 : f (ad 2 i) 6 = mI M (ad 9 15) i := (h.fr.2 2 i 6 (by omega)).trans q6
    have hcp := cmP_of (V := (fun i k => mI M (ad 9 i) k)) (wk := wk) (c := c) (b := i)
    show Go d 171 0 0 12 [.ref (ad 0 0), .int (nI c), .int (nI i), u3] [] (mm (mr M r) f (mJ M)) R
    refine go_blk 3 [some (.int (nI nb))] (pc' := 17) (vs' := [.ref (ad 0 0), .int (nI c), .int (nI i), u3]) (st' := [.int (nI nb), .int (nI i)]) (M' := mm (mr M r) f (mJ M)) (ps := [ob (mm (mr M r) f (mJ M)) (ad 0 0) 11, (Value.int (f (ad 0 0) 3)) = .int (nI nb)]) rfl ⟨(hF.o 0), congrArg Value.int ((h.fr.2 0 0 3 (by omega)).trans nb1), trivial⟩ ?_
    refine go_icmp rfl (fun (z : nI nb ≤ (nI i)) => absurd z (show ¬ (nI nb ≤ (nI i)) from (Int32.not_le.mpr ((nI_lts (a := i) (b := nb) (by omega) (by omega)).mpr hlt)))) (fun _ => ?_)
    refine go_blk 7 [some (.ref (ad 0 2)), some (.ref (ad 2 i)), some (.int (mI M (ad 9 15) i))] (pc' := 31) (vs' := [.ref (ad 0 0), .int (nI c), .int (nI i), .ref (ad 2 i)]) (st' := [.int (mI M (ad 9 15) i)]) (M' := mm (mr M r) f (mJ M)) (ps := [ob (mm (mr M r) f (mJ M)) (ad 0 0) 11, mR (mm (mr M r) f (mJ M)) (ad 0 0) 2 = some (ad 0 2), va_rf (some (ad 0 2)) = .ref (ad 0 2), ob (mm (mr M r) f (mJ M)) (ad 0 2) 17, 17 ≤ 17 ∧ 17 < 22, vp_in (nI i) (mN (mm (mr M r) f (mJ M)) (ad 0 2)), mR (mm (mr M r) f (mJ M)) (ad 0 2) ((nI i).toNatClampNeg) = some (ad 2 i), va_rf (some (ad 2 i)) = .ref (ad 2 i), ob (mm (mr M r) f (mJ M)) (ad 2 i) 0, (Value.int (f (ad 2 i) 6)) = .int (mI M (ad 9 15) i)]) rfl ⟨(hF.o 0), (hF.r 0 2 2), rfl, (hF.o 2), (by decide), (vpi (hF.n 2) (show _ < 60 by omega)), (cl_rf rfl (by omega) (hB i (by assumption)).1), rfl, (hB i (by assumption)).2, congrArg Value.int b6, trivial⟩ ?_
    refine go_if rfl (fun (c21 : (mI M (ad 9 15) i) = 0) => ?_) (fun (c21 : ¬ ((mI M (ad 9 15) i) = 0)) => ?_)
    · -- (mI M (ad 9 15) i) = 0
      refine go_blk 2 [] (pc' := 12) (vs' := [.ref (ad 0 0), .int (nI c), .int ((nI i) + 1), .ref (ad 2 i)]) (st' := []) (M' := mm (mr M r) f (mJ M)) (ps := []) rfl trivial ?_
      rw [show nI i + 1 = nI (i + 1) from nI_add i 1]
      exact ih r f _ (h.next (fun z => by have := hcp.mp (cmO_some z).2; grind))
    · -- ¬ ((mI M (ad 9 15) i) = 0)
      refine go_blk 4 [some (.int (mI M (ad 9 7) i)), some (.int (nI wk))] (pc' := 42) (vs' := [.ref (ad 0 0), .int (nI c), .int (nI i), .ref (ad 2 i)]) (st' := [.int (nI wk), .int (mI M (ad 9 7) i)]) (M' := mm (mr M r) f (mJ M)) (ps := [ob (mm (mr M r) f (mJ M)) (ad 2 i) 0, (Value.int (f (ad 2 i) 1)) = .int (mI M (ad 9 7) i), ob (mm (mr M r) f (mJ M)) (ad 0 0) 11, (Value.int (f (ad 0 0) 7)) = .int (nI wk)]) rfl ⟨(hB i (by assumption)).2, congrArg Value.int b1, (hF.o 0), congrArg Value.int ((h.fr.2 0 0 7 (by omega)).trans wk1), trivial⟩ ?_
      refine go_icmp rfl (fun (c22 : ¬ (mI M (ad 9 7) i) = nI wk) => ?_) (fun (c22 : ¬ (¬ (mI M (ad 9 7) i) = nI wk)) => ?_)
      · -- ¬ (mI M (ad 9 7) i) = nI wk
        refine go_blk 2 [] (pc' := 12) (vs' := [.ref (ad 0 0), .int (nI c), .int ((nI i) + 1), .ref (ad 2 i)]) (st' := []) (M' := mm (mr M r) f (mJ M)) (ps := []) rfl trivial ?_
        rw [show nI i + 1 = nI (i + 1) from nI_add i 1]
        exact ih r f _ (h.next (fun z => by have := hcp.mp (cmO_some z).2; grind))
      · -- ¬ (¬ (mI M (ad 9 7) i) = nI wk)
        refine go_blk 3 [some (.int (mI M (ad 9 6) i))] (pc' := 50) (vs' := [.ref (ad 0 0), .int (nI c), .int (nI i), .ref (ad 2 i)]) (st' := [.int (nI c), .int (mI M (ad 9 6) i)]) (M' := mm (mr M r) f (mJ M)) (ps := [ob (mm (mr M r) f (mJ M)) (ad 2 i) 0, (Value.int (f (ad 2 i) 0)) = .int (mI M (ad 9 6) i)]) rfl ⟨(hB i (by assumption)).2, congrArg Value.int b0, trivial⟩ ?_
        refine go_icmp rfl (fun (c23 : ¬ (mI M (ad 9 6) i) = nI c) => ?_) (fun (c23 : ¬ (¬ (mI M (ad 9 6) i) = nI c)) => ?_)
        · -- ¬ (mI M (ad 9 6) i) = nI c
          refine go_blk 2 [] (pc' := 12) (vs' := [.ref (ad 0 0), .int (nI c), .int ((nI i) + 1), .ref (ad 2 i)]) (st' := []) (M' := mm (mr M r) f (mJ M)) (ps := []) rfl trivial ?_
          rw [show nI i + 1 = nI (i + 1) from nI_add i 1]
          exact ih r f _ (h.next (fun z => by have := hcp.mp (cmO_some z).2; grind))
        · -- ¬ (¬ (mI M (ad 9 6) i) = nI c)
          refine go_blk 6 [some (.ref (ad 0 1)), some (.ref (ad 1 c)), some (.int (nI wk))] (pc' := 63) (vs' := [.ref (ad 0 0), .int (nI c), .int (nI i), .ref (ad 2 i)]) (st' := [.int (nI wk), .ref (ad 1 c)]) (M' := mm (mr M r) f (mJ M)) (ps := [ob (mm (mr M r) f (mJ M)) (ad 0 0) 11, mR (mm (mr M r) f (mJ M)) (ad 0 0) 0 = some (ad 0 1), va_rf (some (ad 0 1)) = .ref (ad 0 1), ob (mm (mr M r) f (mJ M)) (ad 0 1) 18, 17 ≤ 18 ∧ 18 < 22, vp_in (nI c) (mN (mm (mr M r) f (mJ M)) (ad 0 1)), mR (mm (mr M r) f (mJ M)) (ad 0 1) ((nI c).toNatClampNeg) = some (ad 1 c), va_rf (some (ad 1 c)) = .ref (ad 1 c), ob (mm (mr M r) f (mJ M)) (ad 0 0) 11, (Value.int (f (ad 0 0) 7)) = .int (nI wk)]) rfl ⟨(hF.o 0), (hF.r 0 0 1), rfl, (hF.o 1), (by decide), (vpi (hF.n 1) (show _ < 7 by omega)), (cl_rf rfl (by omega) (hC c (by assumption)).1), rfl, (hF.o 0), congrArg Value.int ((h.fr.2 0 0 7 (by omega)).trans wk1), trivial⟩ ?_
          refine go_callV rfl rfl rfl (by omega) rfl (by decide) (by decide) (hC c (by assumption)).2 ?_
          refine s_Co_isShut (by omega) hC hc hwk ((iC.1 c hc).2.2.2.2.2 wk hwk) ⟨ne_i, ?_⟩
          show Go d 171 0 0 66 [.ref (ad 0 0), .int (nI c), .int (nI i), .ref (ad 2 i)] [.int (mI M (ad 9 5) (7 * wk + c))] (mm (mr M r) f (mJ M)) R
          refine go_if rfl (fun (c24 : ¬ (mI M (ad 9 5) (7 * wk + c)) = 0) => ?_) (fun (c24 : ¬ (¬ (mI M (ad 9 5) (7 * wk + c)) = 0)) => ?_)
          · -- ¬ (mI M (ad 9 5) (7 * wk + c)) = 0
            refine go_blk 2 [] (pc' := 12) (vs' := [.ref (ad 0 0), .int (nI c), .int ((nI i) + 1), .ref (ad 2 i)]) (st' := []) (M' := mm (mr M r) f (mJ M)) (ps := []) rfl trivial ?_
            rw [show nI i + 1 = nI (i + 1) from nI_add i 1]
            exact ih r f _ (h.next (fun z => by have := hcp.mp (cmO_some z).2; grind))
          · -- ¬ (¬ (mI M (ad 9 5) (7 * wk + c)) = 0)
            have hcm : cmO (fun i k => mI M (ad 9 i) k) nb wk c = some i := cmO_is huni hlt (hcp.mpr ⟨(by first | assumption | exact Classical.not_not.mp (by assumption)), (by first | assumption | exact Classical.not_not.mp (by assumption)), (by first | assumption | exact Classical.not_not.mp (by assumption)), (by first | assumption | exact Classical.not_not.mp (by assumption))⟩)
            have hbs := h.2 (fun b hb => by rw [hcm] at hb; cases hb; exact Nat.lt_irrefl _)
            have hfx : ne + cnO (fun i k => mI M (ad 9 i) k) nb wk c < 120 := by have m1 := cnO_mono (fun i k => mI M (ad 9 i) k) nb wk (show c + 1 ≤ nc by omega); rw [cnO_s, hcm] at m1; simp at m1; omega
            obtain ⟨x, hx⟩ : ∃ x, ne + cnO (fun i k => mI M (ad 9 i) k) nb wk c = x := ⟨_, rfl⟩
            have hadd := BS.add hi (by omega) hbs hcm
            have h92 := hbs.2.2.1.2.2
            rw [hx] at hadd h92 hfx
            show Go d 171 0 0 69 [.ref (ad 0 0), .int (nI c), .int (nI i), .ref (ad 2 i)] [] (mm (mr M r) f (mJ M)) R
            refine go_blk 7 [some (.ref (ad 0 9))] (pc' := 80) (vs' := [.ref (ad 0 0), .int (nI c), .int (nI i), .ref (ad 2 i)]) (st' := [.int (nI c), .ref (ad 0 9), .ref (ad 2 i)]) (M' := mm (mr M r) (up2 f (ad 2 i) 7 1) (mJ M)) (ps := [ob (mm (mr M r) f (mJ M)) (ad 2 i) 0, 1 = 0 ∨ 1 = 1, ob (mm (mr M r) (up2 f (ad 2 i) 7 1) (mJ M)) (ad 0 0) 11, mR (mm (mr M r) (up2 f (ad 2 i) 7 1) (mJ M)) (ad 0 0) 16 = some (ad 0 9), va_rf (some (ad 0 9)) = .ref (ad 0 9)]) rfl ⟨(hB i (by assumption)).2, (Or.inr rfl), (hF.o 0), (hF.r 0 16 9), rfl, trivial⟩ ?_
            refine go_callV rfl rfl rfl (by omega) rfl (by decide) (by decide) (hF.o 9) ?_
            refine s_Bs_addStay (x := x) (by omega) hi hF hfx ((up2_n _ _ (fun z => absurd (hi _ _ _ _ z.1).1 (by decide))).trans h92) ⟨ne_i, ?_⟩
            show Go d 171 0 0 83 [.ref (ad 0 0), .int (nI c), .int (nI i), .ref (ad 2 i)] [.int (nI x), .ref (ad 2 i)] (mm (mr M r) (up2 (up2 (up2 (up2 f (ad 2 i) 7 1) (ad 0 32) x (nI c)) (ad 0 33) x (-1)) (ad 0 9) 2 (nI (x + 1))) (mJ M)) R
            refine go_blk 9 [some (.ref (ad 0 4)), some (.int (nI wk))] (pc' := 99) (vs' := [.ref (ad 0 0), .int (nI c), .int (nI i), .ref (ad 2 i)]) (st' := [.int (((nI wk) * 7) + (nI c)), .ref (ad 0 4)]) (M' := mm (mr M r) (up2 (up2 (up2 (up2 (up2 f (ad 2 i) 7 1) (ad 0 32) x (nI c)) (ad 0 33) x (-1)) (ad 0 9) 2 (nI (x + 1))) (ad 2 i) 11 (nI x)) (mJ M)) (ps := [ob (mm (mr M r) (up2 (up2 (up2 (up2 f (ad 2 i) 7 1) (ad 0 32) x (nI c)) (ad 0 33) x (-1)) (ad 0 9) 2 (nI (x + 1))) (mJ M)) (ad 2 i) 0, ob (mm (mr M r) (up2 (up2 (up2 (up2 (up2 f (ad 2 i) 7 1) (ad 0 32) x (nI c)) (ad 0 33) x (-1)) (ad 0 9) 2 (nI (x + 1))) (ad 2 i) 11 (nI x)) (mJ M)) (ad 0 0) 11, mR (mm (mr M r) (up2 (up2 (up2 (up2 (up2 f (ad 2 i) 7 1) (ad 0 32) x (nI c)) (ad 0 33) x (-1)) (ad 0 9) 2 (nI (x + 1))) (ad 2 i) 11 (nI x)) (mJ M)) (ad 0 0) 10 = some (ad 0 4), va_rf (some (ad 0 4)) = .ref (ad 0 4), ob (mm (mr M r) (up2 (up2 (up2 (up2 (up2 f (ad 2 i) 7 1) (ad 0 32) x (nI c)) (ad 0 33) x (-1)) (ad 0 9) 2 (nI (x + 1))) (ad 2 i) 11 (nI x)) (mJ M)) (ad 0 0) 11, (Value.int ((up2 (up2 (up2 (up2 (up2 f (ad 2 i) 7 1) (ad 0 32) x (nI c)) (ad 0 33) x (-1)) (ad 0 9) 2 (nI (x + 1))) (ad 2 i) 11 (nI x)) (ad 0 0) 7)) = .int (nI wk)]) rfl ⟨(hB i (by assumption)).2, (hF.o 0), (hF.r 0 10 4), rfl, (hF.o 0), congrArg Value.int (((up2_n _ _ (fun z => absurd (hi _ _ _ _ z.1).1 (by decide))).trans ((up2_n _ _ (fun z => absurd z.2 (by decide))).trans ((up2_n _ _ (fun z => absurd (hi _ _ _ _ z.1).2 (by decide))).trans ((up2_n _ _ (fun z => absurd (hi _ _ _ _ z.1).2 (by decide))).trans ((up2_n _ _ (fun z => absurd (hi _ _ _ _ z.1).1 (by decide))).trans (rfl)))))).trans ((h.fr.2 0 0 7 (by omega)).trans wk1)), trivial⟩ ?_
            rw [show nI wk * 7 + nI c = nI (7 * wk + c) by rw [show (7 : Int32) = nI 7 from rfl, pk_mul, nI_add, Nat.mul_comm]]
            show Go d 171 0 0 99 [.ref (ad 0 0), .int (nI c), .int (nI i), .ref (ad 2 i)] [.int (nI (7 * wk + c)), .ref (ad 0 4)] (mm (mr M r) (up2 (up2 (up2 (up2 (up2 f (ad 2 i) 7 1) (ad 0 32) x (nI c)) (ad 0 33) x (-1)) (ad 0 9) 2 (nI (x + 1))) (ad 2 i) 11 (nI x)) (mJ M)) R
            show Go d 171 0 0 99 [.ref (ad 0 0), .int (nI c), .int (nI i), .ref (ad 2 i)] [.int (nI (7 * wk + c)), .ref (ad 0 4)] (mm (mr M r) (up2 (up2 (up2 (up2 (up2 f (ad 2 i) 7 1) (ad 0 32) x (nI c)) (ad 0 33) x (-1)) (ad 0 9) 2 (nI (x + 1))) (ad 2 i) 11 (nI x)) (mJ M)) R
            refine go_blk 1 [] (pc' := 100) (vs' := [.ref (ad 0 0), .int (nI c), .int (nI i), .ref (ad 2 i)]) (st' := [.ref (ad 2 i), .int (nI (7 * wk + c)), .ref (ad 0 4)]) (M' := mm (mr M r) (up2 (up2 (up2 (up2 (up2 f (ad 2 i) 7 1) (ad 0 32) x (nI c)) (ad 0 33) x (-1)) (ad 0 9) 2 (nI (x + 1))) (ad 2 i) 11 (nI x)) (mJ M)) (ps := []) rfl trivial ?_
            refine go_blk 1 [] (pc' := 101) (vs' := [.ref (ad 0 0), .int (nI c), .int (nI i), .ref (ad 2 i)]) (st' := []) (M' := mm (sR (mr M r) (ad 0 4) ((nI (7 * wk + c)).toNatClampNeg) (some (ad 2 i))) (up2 (up2 (up2 (up2 (up2 f (ad 2 i) 7 1) (ad 0 32) x (nI c)) (ad 0 33) x (-1)) (ad 0 9) 2 (nI (x + 1))) (ad 2 i) 11 (nI x)) (mJ M)) (ps := [ob (mm (mr M r) (up2 (up2 (up2 (up2 (up2 f (ad 2 i) 7 1) (ad 0 32) x (nI c)) (ad 0 33) x (-1)) (ad 0 9) 2 (nI (x + 1))) (ad 2 i) 11 (nI x)) (mJ M)) (ad 0 4) 17, 17 ≤ 17 ∧ 17 < 22, ob (mm (mr M r) (up2 (up2 (up2 (up2 (up2 f (ad 2 i) 7 1) (ad 0 32) x (nI c)) (ad 0 33) x (-1)) (ad 0 9) 2 (nI (x + 1))) (ad 2 i) 11 (nI x)) (mJ M)) (ad 2 i) (zaI.getD (17 - 17) 0), vp_in (nI (7 * wk + c)) (mN (mm (mr M r) (up2 (up2 (up2 (up2 (up2 f (ad 2 i) 7 1) (ad 0 32) x (nI c)) (ad 0 33) x (-1)) (ad 0 9) 2 (nI (x + 1))) (ad 2 i) 11 (nI x)) (mJ M)) (ad 0 4))]) rfl ⟨(hF.o 4), (by decide), (hB i (by assumption)).2, (vpi (hF.n 4) (show 7 * wk + c < 364 by omega)), trivial⟩ ?_
            rw [nI_clamp (n := (7 * wk + c)) (by omega)]
            generalize up2 (up2 (up2 (up2 (up2 f (ad 2 i) 7 1) (ad 0 32) x (nI c)) (ad 0 33) x (-1)) (ad 0 9) 2 (nI (x + 1))) (ad 2 i) 11 (nI x) = f2 at hadd ⊢
            show Go d 171 0 0 101 [.ref (ad 0 0), .int (nI c), .int (nI i), .ref (ad 2 i)] [] (mm (mr M (up2 r (ad 0 4) (7 * wk + c) (some (ad 2 i)))) f2 (mJ M)) R
            refine go_blk 2 [] (pc' := 12) (vs' := [.ref (ad 0 0), .int (nI c), .int ((nI i) + 1), .ref (ad 2 i)]) (st' := []) (M' := mm (mr M (up2 r (ad 0 4) (7 * wk + c) (some (ad 2 i)))) f2 (mJ M)) (ps := []) rfl trivial ?_
            rw [show nI i + 1 = nI (i + 1) from nI_add i 1]
            exact ih _ f2 _ ⟨fun b hb _ => hadd, fun hq => absurd (Nat.lt_succ_self i) (hq i hcm)⟩

set_option maxHeartbeats 4000000 in
set_option maxRecDepth 100000 in
theorem s_CY_beginStays {d : Nat} {M : Mem} {ad : Nat → Nat → Nat} {R : Option Value → Mem → Prop} {nc nb nt wk nw nx nl ne nk kd : Nat} {f0 : Nat → Nat → Int32} (hd : 3 ≤ d) (hW : WI M ad nc nb nt wk nw nx nl ne nk kd false) (hwk : wk < 52) (hfit : ne + cnO (fun i k => mI M (ad 9 i) k) nb wk nc ≤ 120) (h0 : BS M ad nb wk ne 0 (mR M) f0) (hR : ∀ r f, BS M ad nb wk ne nc r f → R none (mm (mr M r) f (mJ M))) : Call d 171 [.ref (ad 0 0)] (mm M f0 (mJ M)) R := by
  obtain ⟨hi, ⟨hF0, hM, hC0, hB0, hT, hX0⟩, ⟨iS, iC, iB, iR, iL, iT⟩, ⟨jO, jR, jB, jX, jL⟩, kO, kC, kD, kP, kX⟩ := id hW
  obtain ⟨⟨nc1, nc2, nc3⟩, ⟨nb1, nb2, nb3⟩, ⟨nt1, nt2, nt3⟩, ⟨wk1, wk2, wk3⟩, ⟨nw1, nw2, nw3⟩, ⟨op1, op2, op3⟩, ncm, ncm1, ncm2, ncm3⟩ := id iS
  simp only [vw] at nc1 nc2 nb1 nb2 nt1 nt2 wk1 wk2 nw1 nw2 op1 op2 ncm2 ncm3
  have nl3 := jL.1.2.2.1
  have nx3 := jX.1.2.2
  have hC0 := hC0
  have env : ∀ c r f, BS M ad nb wk ne c r f → Fx (mr M r) ad := fun c r f h => fx_mr hF0 (fun i k z => h.1 0 i k (by omega))
  have key : ∀ c, c ≤ nc → ∀ r f u2 u3, BS M ad nb wk ne c r f → Go d 171 0 0 2 [.ref (ad 0 0), .int (nI c), u2, u3] [] (mm (mr M r) f (mJ M)) R := by
    refine up_ind (P := fun c => ∀ r f u2 u3, BS M ad nb wk ne c r f → Go d 171 0 0 2 [.ref (ad 0 0), .int (nI c), u2, u3] [] (mm (mr M r) f (mJ M)) R) nc (fun r f u2 u3 h => ?_) (fun c hc ih r f u2 u3 h => ?_)
    ·
      have hF := env _ r f h
      show Go d 171 0 0 2 [.ref (ad 0 0), .int (nI nc), u2, u3] [] (mm (mr M r) f (mJ M)) R
      refine go_blk 3 [some (.int (nI nc))] (pc' := 7) (vs' := [.ref (ad 0 0), .int (nI nc), u2, u3]) (st' := [.int (nI nc), .int (nI nc)]) (M' := mm (mr M r) f (mJ M)) (ps := [ob (mm (mr M r) f (mJ M)) (ad 0 0) 11, (Value.int (f (ad 0 0) 1)) = .int (nI nc)]) rfl ⟨(hF.o 0), congrArg Value.int ((h.2.1 0 0 1 (by omega)).trans nc1), trivial⟩ ?_
      refine go_icmp rfl (fun _ => ?_) (fun (z : ¬ (nI nc ≤ (nI nc))) => absurd (show nI nc ≤ (nI nc) from Int32.le_refl _) z)
      refine go_vret rfl rfl ?_
      exact hR r f h
    ·
      have hF := env _ r f h
      show Go d 171 0 0 2 [.ref (ad 0 0), .int (nI c), u2, u3] [] (mm (mr M r) f (mJ M)) R
      refine go_blk 3 [some (.int (nI nc))] (pc' := 7) (vs' := [.ref (ad 0 0), .int (nI c), u2, u3]) (st' := [.int (nI nc), .int (nI c)]) (M' := mm (mr M r) f (mJ M)) (ps := [ob (mm (mr M r) f (mJ M)) (ad 0 0) 11, (Value.int (f (ad 0 0) 1)) = .int (nI nc)]) rfl ⟨(hF.o 0), congrArg Value.int ((h.2.1 0 0 1 (by omega)).trans nc1), trivial⟩ ?_
      refine go_icmp rfl (fun (z : nI nc ≤ (nI c)) => absurd z (show ¬ (nI nc ≤ (nI c)) from (Int32.not_le.mpr ((nI_lts (a := c) (b := nc) (by omega) (by omega)).mpr hc)))) (fun _ => ?_)
      refine go_blk 2 [] (pc' := 12) (vs' := [.ref (ad 0 0), .int (nI c), .int 0, u3]) (st' := []) (M' := mm (mr M r) f (mJ M)) (ps := []) rfl trivial ?_
      refine lp_begin hd hW hwk hfit hc (fun r f u3 hx => ?_) 0 (Nat.zero_le _) r f _ ⟨fun b _ z => absurd z (by omega), fun _ => h⟩
      refine go_blk 2 [] (pc' := 2) (vs' := [.ref (ad 0 0), .int (nI c + 1), .int (nI nb), u3]) (st' := []) (M' := mm (mr M r) f (mJ M)) (ps := []) rfl trivial ?_
      rw [show nI c + 1 = nI (c + 1) from nI_add c 1]
      refine ih r f _ _ ?_
      cases hcm : cmO (fun i k => mI M (ad 9 i) k) nb wk c with
      | none => exact BS.skip (hx.2 (fun b hb => by rw [hcm] at hb; cases hb)) hcm
      | some b => exact hx.1 b hcm (cmO_some hcm).1
  show Go d 171 0 0 0 [.ref (ad 0 0), .retAddr 0, .retAddr 0, .retAddr 0] [] (mm (mr M (mR M)) f0 (mJ M)) R
  refine go_blk 2 [] (pc' := 2) (vs' := [.ref (ad 0 0), .int 0, .retAddr 0, .retAddr 0]) (st' := []) (M' := mm (mr M (mR M)) f0 (mJ M)) (ps := []) rfl trivial ?_
  exact key 0 (Nat.zero_le _) _ f0 _ _ h0

