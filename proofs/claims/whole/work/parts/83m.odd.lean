/-! openDay: the class -/
theorem op_Q {M : Mem} {ad : Nat → Nat → Nat} {nc nb nt wk nw nx nl ne nk kd : Nat} (hW : WI M ad nc nb nt wk nw nx nl ne nk kd false) (hwk : wk < 52) :
    (∀ c b, cmO (fun i k => mI M (ad 9 i) k) nb wk c = some b → b < nb ∧ (mI M (ad 9 16) b == 1) = false) ∧
    (∀ c c' b, c < nc → c' < c → cmO (fun i k => mI M (ad 9 i) k) nb wk c' = some b → ¬ cmO (fun i k => mI M (ad 9 i) k) nb wk c = some b) ∧
    kd + cnQ (cmO (fun i k => mI M (ad 9 i) k) nb wk) nc ≤ 60 ∧ ne + cnQ (cmO (fun i k => mI M (ad 9 i) k) nb wk) nc ≤ 120 ∧ mI M (ad 0 9) 2 = nI ne := by
  obtain ⟨hi, -, ⟨iS, iC, iB, iR, iL, iT⟩, ⟨jO, jR, jB, jX, jL⟩, kO, kC, kD, kP, kX⟩ := hW
  have nc3 := iS.1.2.2
  have nb3 := iS.2.1.2.2
  have a1 : ∀ c b, cmO (fun i k => mI M (ad 9 i) k) nb wk c = some b → b < nb ∧ (mI M (ad 9 16) b == 1) = false := fun c b hb => by
    obtain ⟨h1, h2⟩ := cmO_some hb
    obtain ⟨p1, p2, p3, p4⟩ := cmP_of.mp h2
    refine ⟨h1, ?_⟩
    rw [beq_eq_false_iff_ne]
    intro z
    obtain ⟨-, -, ⟨w, w1, w2, w3⟩, -⟩ := iB.1 b h1
    have e := (nI_eqs (a := w) (b := wk) (by omega) (by omega)).mp (w2.symm.trans p3)
    rcases (w3 z).2 with y | y
    · omega
    · exact absurd y.2 (by decide)
  have a2 : ∀ c c' b, c < nc → c' < c → cmO (fun i k => mI M (ad 9 i) k) nb wk c' = some b → ¬ cmO (fun i k => mI M (ad 9 i) k) nb wk c = some b := fun c c' b hc hlt h1 h2 => by
    have := cm_inj (by omega) (by omega) h1 h2
    omega
  have ct := ct_bgQ a1 nc a2
  have le := ctB_le (bgQ (fun b => mI M (ad 9 16) b == 1) (cmO (fun i k => mI M (ad 9 i) k) nb wk) nc) nb
  have hkd : kd = ctB (fun b => mI M (ad 9 16) b == 1) nb := kC.2.2.1
  rw [ct, ← hkd] at le
  refine ⟨a1, a2, by omega, ?_, jB.1.1⟩
  have := kX.1
  have nk6 := jB.1.2.2.2.2.1
  omega

set_option maxHeartbeats 4000000 in
set_option maxRecDepth 100000 in
theorem s_CY_openDay {d : Nat} {R : Option Value → Mem → Prop} {M : Mem} {ad : Nat → Nat → Nat} {nc nb nt wk nw nx nl ne nk kd : Nat} (hd : 4 ≤ d) (hW : WI M ad nc nb nt wk nw nx nl ne nk kd false) (hwk : wk < 52) (hR : ∀ M' ad' r f f2 f3, JSb M ad nc nb nt nx wk ne (cmO (fun i k => mI M (ad 9 i) k) nb wk) (waO (fun i k => mI M (ad 9 i) k) nb wk) nc M' ad' r f → GC ad' (cmO (fun i k => mI M (ad 9 i) k) nb wk) (soF f (ad' 0 8) (gsO (cmO (fun i k => mI M (ad 9 i) k) nb wk) (fun b => f (ad' 2 b) 2) nc)) kd nc f2 → TD ad' f2 nt f3 → R (some (.int (nI (cnQ (waO (fun i k => mI M (ad 9 i) k) nb wk) nc)))) (mm (mr M' r) (up2 f3 (ad' 0 7) 19 0) (up2 (mJ M') (ad' 0 0) 12 (cdS (kd + cnQ (cmO (fun i k => mI M (ad 9 i) k) nb wk) nc))))) : Call d 129 [.ref (ad 0 0)] M R := by
  obtain ⟨hi, ⟨hF, -, -, -, -, -⟩, ⟨iS, -⟩, -⟩ := id hW
  obtain ⟨-, -, -, ⟨wk1, -, -⟩, -, ⟨op1, -, -⟩, -⟩ := iS
  simp only [vw] at wk1 op1
  replace op1 : mI M (ad 0 0) 8 = 0 := op1
  obtain ⟨a1, a2, a3, a4, a5⟩ := op_Q hW hwk
  obtain ⟨b1, b2, b3, b4, b5⟩ := op_W hW hwk
  have n0 : ∀ t i k v : Nat, ¬ (t = 0 ∧ i = 0 ∧ k = v) → ¬ (ad t i = ad 0 0 ∧ k = v) := fun t i k v z y => z ⟨(hi _ _ _ _ y.1).1, (hi _ _ _ _ y.1).2, y.2⟩
  have hbs : BS M ad nb wk ne 0 (mR M) (up2 (up2 (mI M) (ad 0 0) 8 1) (ad 0 0) 9 0) := by
    refine ⟨fun _ _ _ _ => rfl, fun t i k z => ?_, ⟨?_, up2_s _ _ _ _, ?_⟩, fun c' b hc => absurd hc (by omega), fun _ _ _ => rfl, fun b _ => ⟨?_, ?_⟩⟩
    · rw [up2_n _ _ (n0 t i k 9 (fun y => z (by omega))), up2_n _ _ (n0 t i k 8 (fun y => z (by omega)))]
    · rw [up2_n _ _ (n0 0 0 8 9 (by omega)), up2_s]
    · rw [up2_n _ _ (n0 0 9 2 9 (by omega)), up2_n _ _ (n0 0 9 2 8 (by omega))]; exact a5
    · rw [up2_n _ _ (n0 2 b 7 9 (by omega)), up2_n _ _ (n0 2 b 7 8 (by omega))]
    · rw [up2_n _ _ (n0 2 b 11 9 (by omega)), up2_n _ _ (n0 2 b 11 8 (by omega))]
  show Go d 129 7 84 0 [.ref (ad 0 0), .retAddr 0, .retAddr 0] [] (mm M (mI M) (mJ M)) R
  refine go_blk 2 [some (.int 0)] (pc' := 4) (vs' := [.ref (ad 0 0), .retAddr 0, .retAddr 0]) (st' := [.int 0]) (M' := mm M (mI M) (mJ M)) (ps := [ob (mm M (mI M) (mJ M)) (ad 0 0) 11, (Value.int ((mI M) (ad 0 0) 8)) = .int 0]) rfl ⟨(hF.o 0), congrArg Value.int op1, trivial⟩ ?_
  refine go_if rfl (fun (z : ¬ (0 : Int32) = 0) => absurd z (show ¬ (¬ (0 : Int32) = 0) from (by decide))) (fun _ => ?_)
  refine go_blk 3 [some (.int (nI wk))] (pc' := 13) (vs' := [.ref (ad 0 0), .retAddr 0, .retAddr 0]) (st' := [.int 52, .int (nI wk)]) (M' := mm M (mI M) (mJ M)) (ps := [ob (mm M (mI M) (mJ M)) (ad 0 0) 11, (Value.int ((mI M) (ad 0 0) 7)) = .int (nI wk)]) rfl ⟨(hF.o 0), congrArg Value.int wk1, trivial⟩ ?_
  refine go_icmp rfl (fun _ => ?_) (fun (z : ¬ ((nI wk) < 52)) => absurd (show (nI wk) < 52 from ((nI_lts (a := wk) (b := 52) (by omega) (by decide)).mpr hwk)) z)
  refine go_blk 7 [] (pc' := 29) (vs' := [.ref (ad 0 0), .retAddr 0, .retAddr 0]) (st' := [.ref (ad 0 0)]) (M' := mm M (up2 (up2 (mI M) (ad 0 0) 8 1) (ad 0 0) 9 0) (mJ M)) (ps := [ob (mm M (mI M) (mJ M)) (ad 0 0) 11, 1 = 0 ∨ 1 = 1, ob (mm M (up2 (mI M) (ad 0 0) 8 1) (mJ M)) (ad 0 0) 11]) rfl ⟨(hF.o 0), (Or.inr rfl), (hF.o 0), trivial⟩ ?_
  refine go_callV rfl rfl rfl (by omega) rfl (by decide) (by decide) (hF.o 0) ?_
  refine s_CY_beginStays (by omega) hW hwk a4 hbs (fun r f hb => ⟨ne_v, ?_⟩)
  refine go_blk 1 [] (pc' := 33) (vs' := [.ref (ad 0 0), .retAddr 0, .retAddr 0]) (st' := [.ref (ad 0 0)]) (M' := mm (mr M r) f (mJ M)) (ps := []) rfl trivial ?_
  refine go_callV rfl rfl rfl (by omega) rfl (by decide) (by decide) (hF.o 0) ?_
  refine s_CY_makeJobs (W := (waO (fun i k => mI M (ad 9 i) k) nb wk)) (by omega) hW hwk (fun c b _ h => (a1 c b h).1) (fun c hc _ => b1 c hc) b2 b3 b4 b5 (JS_zero hW hb) (fun M' ad' r f h => ⟨ne_i, ?_⟩)
  have hm := op_half (d := d) (R := R) (n := nI (cnQ (waO (fun i k => mI M (ad 9 i) k) nb wk) nc)) hd hW hwk (fun c b _ h => (a1 c b h).1) (fun c hc _ => b1 c hc) a2 (by omega) h (fun f2 f3 hg ht => hR M' ad' r f f2 f3 h hg ht)
  rw [(h.1.2.2 0 0 (Ux.k0 (by omega))).1] at hm
  exact hm
  

