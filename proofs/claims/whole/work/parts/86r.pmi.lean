/-! findPlan, the class -/
def FPm (M : Mem) (ad : Nat → Nat → Nat) (nb nt nc wk nw : Nat) (r : Nat → Nat → Option Nat) (f' : Nat → Nat → Int32) (g' : Nat → Nat → Int64) : Prop :=
  (∀ a i k, ¬ (a = 0 ∧ i = 17) → r (ad a i) k = mR M (ad a i) k) ∧ (∀ a i k, ¬ (a = 0 ∧ (i = 18 ∨ (20 ≤ i ∧ i ≤ 30))) → ¬ (a = 0 ∧ i = 7 ∧ (k = 2 ∨ k = 4 ∨ k = 19)) → f' (ad a i) k = mI M (ad a i) k) ∧
  (∀ a i k, ¬ (a = 0 ∧ (i = 19 ∨ i = 25 ∨ i = 28)) → ¬ (a = 0 ∧ i = 7 ∧ (k = 16 ∨ k = 17)) → g' (ad a i) k = mJ M (ad a i) k) ∧
  (f' (ad 0 7) 19 = 1 ∧ f' (ad 0 7) 2 = nI (tdL (ppv (vw ad (mI M))) nc wk).length ∧ f' (ad 0 7) 4 = nI nt) ∧
  (∀ k c, (tdL (ppv (vw ad (mI M))) nc wk)[k]? = some c → ∃ b, b < nb ∧ hJ (vw ad (mI M)) wk true b ∧ jAt (vw ad (mI M)) b (7 * wk + c) ∧ r (ad 0 17) k = some (ad 6 b)) ∧
  ((tdL (ppv (vw ad (mI M))) nc wk = [] ∨ 0 < nt) → ∃ rows, isBest (ppv (vw ad (mI M))) nt nc wk nw rows ∧ (g' (ad 0 7) 17).toInt = packV (planV (ppv (vw ad (mI M))) nt wk nw rows nt) ∧ ∀ t, t < 3 → f' (ad 0 30) t = nI (octR (tdL (ppv (vw ad (mI M))) nc wk) (rows t) 7))
theorem GI.CPl {M : Mem} {ad : Nat → Nat → Nat} {nc nb nt wk nw nx nl ne nk kd : Nat} {jb : Nat → Nat} {r : Nat → Nat → Option Nat} {f : Nat → Nat → Int32} (hW : WI M ad nc nb nt wk nw nx nl ne nk kd true) (hjb : ∀ c, c < nc → mI M (ad 9 32) (7 * wk + c) = 1 → jb c < nb ∧ hJ (vw ad (mI M)) wk true (jb c) ∧ jAt (vw ad (mI M)) (jb c) (7 * wk + c) ∧ mR M (ad 0 5) c = some (ad 6 (jb c))) (h : GI (ppv (vw ad (mI M))) nt wk M ad jb (mI M) nc r f) : CPl (ppv (vw ad (mI M))) nt nc wk (mr M r) ad (fun k => jb (tdK (ppv (vw ad (mI M))) nc wk k)) f := by
  obtain ⟨hE, hR⟩ := EC.of hW hjb
  obtain ⟨-, hP, hT, -, -, -, w7⟩ := pl_world hW
  obtain ⟨p, hp⟩ : ∃ p, ppv (vw ad (mI M)) = p := ⟨_, rfl⟩
  have e : ∀ i k, ppS i = true → ¬ i = 0 → p i k = mI M (ad 9 i) k := fun i k h h0 => by rw [← hp]; exact pp9 h h0
  have e0 : p 0 0 = mI M (ad 10 0) 31 := by rw [← hp]; exact pp0
  rw [hp] at h hP hT w7 ⊢
  obtain ⟨g1, g2, g3, g4, g5⟩ := h
  obtain ⟨⟨hi, hF, hTs, nt3, nc3, wk3⟩, x1, x2, x3, x4⟩ := hE
  obtain ⟨y1, y2, y3, -⟩ := hR
  have f32 := fun k => e 32 k rfl (by decide)
  have wy : ∀ a b, wyD p a b = wyD (fun i k => mI M (ad 9 i) k) a b := fun a b => by unfold wyD; rw [e 29 _ rfl (by decide)]
  refine ⟨fun k hk => ?_, fun t ht => ?_, fun t i n ht h51 n7 hlt => ?_, fun a b ha hb => ?_, ?_, g3, g4, fun t ht => ?_⟩
  · have hm := tdK_mem hk
    obtain ⟨c, hc⟩ : ∃ c, tdK p nc wk k = c := ⟨_, rfl⟩
    have gk := g5 k hk
    rw [show (tdL p nc wk).getD k 0 = tdK p nc wk k from rfl, hc] at gk
    rw [hc] at hm
    have lc := td_lt hm
    have c32 : mI M (ad 9 32) (7 * wk + c) = 1 := (f32 _).symm.trans ((td_of lc).mp hm).1
    obtain ⟨z1, z3, z4, z5, z6, -⟩ := y3 c lc c32
    simp only [hc]
    refine ⟨gk.1, (x1 c lc c32).2, ?_, ?_, ?_, ?_, ?_, gk.2⟩
    · rw [g2 6 _ 1 (by omega) (by omega)]; exact z1
    · rw [g2 6 _ 3 (by omega) (by omega), e 34 _ rfl (by decide)]; exact z3
    · rw [g2 6 _ 4 (by omega) (by omega), e 36 _ rfl (by decide)]; exact z4
    · rw [g2 6 _ 5 (by omega) (by omega), e 33 _ rfl (by decide)]; exact z5
    · rw [g2 6 _ 6 (by omega) (by omega), e 35 _ rfl (by decide)]; exact z6
  · obtain ⟨z0, z1, z4, z5, z6, z7, z8, z9, -⟩ := y1 t ht
    rw [g2 3 t 0 (by omega) (by omega), g2 3 t 1 (by omega) (by omega), g2 3 t 4 (by omega) (by omega), g2 3 t 5 (by omega) (by omega), g2 3 t 6 (by omega) (by omega), g2 3 t 7 (by omega) (by omega), g2 3 t 8 (by omega) (by omega), g2 3 t 9 (by omega) (by omega), e 28 _ rfl (by decide), e 51 _ rfl (by decide), e 47 _ rfl (by decide), e 48 _ rfl (by decide), e 44 _ rfl (by decide), e 45 _ rfl (by decide), e 46 _ rfl (by decide)]
    exact ⟨z0, z1, z4, z5, z6, z7, z8, z9⟩
  · rw [g2 5 t i (by omega) (by omega), e 50 _ rfl (by decide)]
    exact y2 t i n ht (by rw [← h51, e 51 _ rfl (by decide)]) n7 hlt
  · rw [g2 0 31 _ (by omega) (by omega), wy]; exact x3 a b ha hb
  · rw [g2 0 16 1 (by omega) (by omega), e0]; exact x4
  · rcases w7 t ht with z | ⟨c, c1, c2, c3⟩
    · exact Or.inl z
    · have c32 : mI M (ad 9 32) (7 * wk + c) = 1 := (f32 _).symm.trans c3
      obtain ⟨z1, z3, z4, z5, z6, -⟩ := y3 c c1 c32
      refine Or.inr ⟨c, jb c, by omega, c2, (g1 0 5 c (by omega)).trans (x1 c c1 c32).1, (x1 c c1 c32).2, ?_, ?_⟩
      · rw [g2 6 _ 5 (by omega) (by omega), e 33 _ rfl (by decide)]; exact z5
      · rw [g2 6 _ 6 (by omega) (by omega), e 35 _ rfl (by decide)]; exact z6

set_option maxHeartbeats 4000000 in
set_option maxRecDepth 100000 in
theorem s_CY_findPlan {d : Nat} {R : Option Value → Mem → Prop} {M : Mem} {ad : Nat → Nat → Nat} {nc nb nt wk nw nx nl ne nk kd : Nat} (hd : 30 ≤ d) (hW : WI M ad nc nb nt wk nw nx nl ne nk kd true) (hR1 : ∀ r f g, FPm M ad nb nt nc wk nw r f g → (tdL (ppv (vw ad (mI M))) nc wk = [] ∨ 0 < nt) → R (some (.int 1)) (mm (mr M r) f g)) (hR0 : ∀ r f g, FPm M ad nb nt nc wk nw r f g → ¬ (tdL (ppv (vw ad (mI M))) nc wk = [] ∨ 0 < nt) → R (some (.int 0)) (mm (mr M r) f g)) : Call d 176 [.ref (ad 0 0)] M R := by
  obtain ⟨-, hP, hTW, hRW, -, -, -⟩ := pl_world hW
  obtain ⟨jb, hjb⟩ := jb_of hW
  obtain ⟨hE, hRC⟩ := EC.of hW hjb
  obtain ⟨hi, ⟨hF, hM, hC, hB, hT, hX⟩, ⟨iS, iC, iB, iR, iL, iT⟩, ⟨jO, jR, jB, jX, jL⟩, kO, kC, kD, kP, kX⟩ := id hW
  obtain ⟨⟨nc1, nc2, nc3⟩, ⟨nb1, nb2, nb3⟩, ⟨nt1, nt2, nt3⟩, ⟨wk1, wk2, wk3⟩, ⟨nw1, nw2, nw3⟩, ⟨op1, op2, op3⟩, -⟩ := id iS
  simp only [vw] at nc1 nt1 nw1 op1
  replace op1 : mI M (ad 0 0) 8 = 1 := op1
  obtain ⟨q, hq⟩ : ∃ q, (tdL (ppv (vw ad (mI M))) nc wk).length = q := ⟨_, rfl⟩
  have T7 := td_le (p := ppv (vw ad (mI M))) (nc := nc) (wk := wk)
  rw [hq] at T7
  have nil : tdL (ppv (vw ad (mI M))) nc wk = [] ↔ q = 0 := by rw [← hq]; exact List.length_eq_zero_iff.symm
  have fin : ∀ r f g, FPm M ad nb nt nc wk nw r f g → Fx (mr M r) ad → Go d 176 0 0 61 [.ref (ad 0 0)] [] (mm (mr M r) f g) R := by
    intro r f g k hF
    have k2 : f (ad 0 7) 2 = nI q := by rw [← hq]; exact k.2.2.2.1.2.1
    have k4 : f (ad 0 7) 4 = nI nt := k.2.2.2.1.2.2
    rcases Nat.eq_zero_or_pos q with zq | zq
    ·
      show Go d 176 0 0 61 [.ref (ad 0 0)] [] (mm (mr M r) f g) R
      refine go_blk 2 [some (.ref (ad 0 7))] (pc' := 65) (vs' := [.ref (ad 0 0)]) (st' := [.ref (ad 0 7)]) (M' := mm (mr M r) f g) (ps := [ob (mm (mr M r) f g) (ad 0 0) 11, mR (mm (mr M r) f g) (ad 0 0) 14 = some (ad 0 7), va_rf (some (ad 0 7)) = .ref (ad 0 7)]) rfl ⟨(hF.o 0), (hF.r 0 14 7), rfl, trivial⟩ ?_
      refine go_callV rfl rfl rfl (by omega) rfl (by decide) (by decide) (hF.o 7) ?_
      show Go (d - 1) 47 0 0 0 [.ref (ad 0 7)] [] (mm (mr M r) f g) _
      refine go_blk 2 [some (.int (nI q))] (pc' := 4) (vs' := [.ref (ad 0 7)]) (st' := [.int (nI q)]) (M' := mm (mr M r) f g) (ps := [ob (mm (mr M r) f g) (ad 0 7) 6, (Value.int (f (ad 0 7) 2)) = .int (nI q)]) rfl ⟨(hF.o 7), congrArg Value.int k2, trivial⟩ ?_
      refine go_if rfl (fun _ => ?_) (fun (z : ¬ ((nI q) = 0)) => absurd (show (nI q) = 0 from (by rw [zq]; rfl)) z)
      refine go_blk 2 [] (pc' := 19) (vs' := [.ref (ad 0 7)]) (st' := [.int 1]) (M' := mm (mr M r) f g) (ps := []) rfl trivial ?_
      refine go_zret rfl rfl (Or.inr rfl) ?_
      refine ⟨ne_i, ?_⟩
      show Go d 176 0 0 68 [.ref (ad 0 0)] [.int 1] (mm (mr M r) f g) R
      refine go_zret rfl rfl (Or.inr rfl) ?_
      exact hR1 r f g k (Or.inl (nil.mpr zq))
    · rcases Nat.eq_zero_or_pos nt with y | y
      ·
        show Go d 176 0 0 61 [.ref (ad 0 0)] [] (mm (mr M r) f g) R
        refine go_blk 2 [some (.ref (ad 0 7))] (pc' := 65) (vs' := [.ref (ad 0 0)]) (st' := [.ref (ad 0 7)]) (M' := mm (mr M r) f g) (ps := [ob (mm (mr M r) f g) (ad 0 0) 11, mR (mm (mr M r) f g) (ad 0 0) 14 = some (ad 0 7), va_rf (some (ad 0 7)) = .ref (ad 0 7)]) rfl ⟨(hF.o 0), (hF.r 0 14 7), rfl, trivial⟩ ?_
        refine go_callV rfl rfl rfl (by omega) rfl (by decide) (by decide) (hF.o 7) ?_
        show Go (d - 1) 47 0 0 0 [.ref (ad 0 7)] [] (mm (mr M r) f g) _
        refine go_blk 2 [some (.int (nI q))] (pc' := 4) (vs' := [.ref (ad 0 7)]) (st' := [.int (nI q)]) (M' := mm (mr M r) f g) (ps := [ob (mm (mr M r) f g) (ad 0 7) 6, (Value.int (f (ad 0 7) 2)) = .int (nI q)]) rfl ⟨(hF.o 7), congrArg Value.int k2, trivial⟩ ?_
        refine go_if rfl (fun (z : (nI q) = 0) => absurd z (show ¬ ((nI q) = 0) from (nI_ne0 (n := q) (by omega) (by omega)))) (fun _ => ?_)
        refine go_blk 2 [some (.int (nI nt))] (pc' := 11) (vs' := [.ref (ad 0 7)]) (st' := [.int (nI nt)]) (M' := mm (mr M r) f g) (ps := [ob (mm (mr M r) f g) (ad 0 7) 6, (Value.int (f (ad 0 7) 4)) = .int (nI nt)]) rfl ⟨(hF.o 7), congrArg Value.int k4, trivial⟩ ?_
        refine go_if rfl (fun _ => ?_) (fun (z : ¬ ((nI nt) ≤ 0)) => absurd (show (nI nt) ≤ 0 from ((nI_les (a := nt) (b := 0) (by omega) (by decide)).mpr (by omega))) z)
        refine go_blk 1 [] (pc' := 19) (vs' := [.ref (ad 0 7)]) (st' := [.int 0]) (M' := mm (mr M r) f g) (ps := []) rfl trivial ?_
        refine go_zret rfl rfl (Or.inl rfl) ?_
        refine ⟨ne_i, ?_⟩
        show Go d 176 0 0 68 [.ref (ad 0 0)] [.int 0] (mm (mr M r) f g) R
        refine go_zret rfl rfl (Or.inl rfl) ?_
        exact hR0 r f g k (fun x => by rcases x with x | x; exact absurd (nil.mp x) (by omega); omega)
      ·
        show Go d 176 0 0 61 [.ref (ad 0 0)] [] (mm (mr M r) f g) R
        refine go_blk 2 [some (.ref (ad 0 7))] (pc' := 65) (vs' := [.ref (ad 0 0)]) (st' := [.ref (ad 0 7)]) (M' := mm (mr M r) f g) (ps := [ob (mm (mr M r) f g) (ad 0 0) 11, mR (mm (mr M r) f g) (ad 0 0) 14 = some (ad 0 7), va_rf (some (ad 0 7)) = .ref (ad 0 7)]) rfl ⟨(hF.o 0), (hF.r 0 14 7), rfl, trivial⟩ ?_
        refine go_callV rfl rfl rfl (by omega) rfl (by decide) (by decide) (hF.o 7) ?_
        show Go (d - 1) 47 0 0 0 [.ref (ad 0 7)] [] (mm (mr M r) f g) _
        refine go_blk 2 [some (.int (nI q))] (pc' := 4) (vs' := [.ref (ad 0 7)]) (st' := [.int (nI q)]) (M' := mm (mr M r) f g) (ps := [ob (mm (mr M r) f g) (ad 0 7) 6, (Value.int (f (ad 0 7) 2)) = .int (nI q)]) rfl ⟨(hF.o 7), congrArg Value.int k2, trivial⟩ ?_
        refine go_if rfl (fun (z : (nI q) = 0) => absurd z (show ¬ ((nI q) = 0) from (nI_ne0 (n := q) (by omega) (by omega)))) (fun _ => ?_)
        refine go_blk 2 [some (.int (nI nt))] (pc' := 11) (vs' := [.ref (ad 0 7)]) (st' := [.int (nI nt)]) (M' := mm (mr M r) f g) (ps := [ob (mm (mr M r) f g) (ad 0 7) 6, (Value.int (f (ad 0 7) 4)) = .int (nI nt)]) rfl ⟨(hF.o 7), congrArg Value.int k4, trivial⟩ ?_
        refine go_if rfl (fun (z : (nI nt) ≤ 0) => absurd z (show ¬ ((nI nt) ≤ 0) from (Int32.not_le.mpr ((nI_lts (a := 0) (b := nt) (by decide) (by omega)).mpr y)))) (fun _ => ?_)
        refine go_blk 2 [] (pc' := 19) (vs' := [.ref (ad 0 7)]) (st' := [.int 1]) (M' := mm (mr M r) f g) (ps := []) rfl trivial ?_
        refine go_zret rfl rfl (Or.inr rfl) ?_
        refine ⟨ne_i, ?_⟩
        show Go d 176 0 0 68 [.ref (ad 0 0)] [.int 1] (mm (mr M r) f g) R
        refine go_zret rfl rfl (Or.inr rfl) ?_
        exact hR1 r f g k (Or.inr y)
  rcases id kP with h19 | ⟨h19, hk⟩
  · replace h19 : mI M (ad 0 7) 19 = 0 := h19
    have e51 : ∀ k, ppv (vw ad (mI M)) 51 k = mI M (ad 9 51) k := fun k => pp9 rfl (by decide)
    have e50 : ∀ k, ppv (vw ad (mI M)) 50 k = mI M (ad 9 50) k := fun k => pp9 rfl (by decide)
    have e32 : ∀ k, ppv (vw ad (mI M)) 32 k = mI M (ad 9 32) k := fun k => pp9 rfl (by decide)
    have e39 : ∀ k, ppv (vw ad (mI M)) 39 k = mI M (ad 9 39) k := fun k => pp9 rfl (by decide)
    have hr : ∀ t, t < nt → ∃ n, n ≤ 7 ∧ ppv (vw ad (mI M)) 51 t = nI n ∧ mI M (ad 3 t) 4 = ppv (vw ad (mI M)) 51 t ∧ ∀ i, i < n → mI M (ad 5 t) i = ppv (vw ad (mI M)) 50 (7 * t + i) := fun t ht => by
      obtain ⟨n, n1, n2, -⟩ := hRW.1 t ht
      exact ⟨n, n1, n2, by rw [e51]; exact (hRC.1 t ht).2.2.1, fun i hlt => by rw [e50]; exact hRC.2.1 t i n ht (by rw [← n2, e51]) n1 hlt⟩
    have hj : ∀ c, c < nc → ppv (vw ad (mI M)) 32 (7 * wk + c) = 1 → mR M (ad 0 5) c = some (ad 6 (jb c)) ∧ ob M (ad 6 (jb c)) 3 ∧ mI M (ad 6 (jb c)) 9 = ppv (vw ad (mI M)) 39 (7 * wk + c) := fun c hc z => by
      rw [e32] at z
      obtain ⟨z1, z3, z4, z5, z6, z7, z8, z9, -⟩ := hRC.2.2.1 c hc z
      exact ⟨(hE.2.1 c hc z).1, (hE.2.1 c hc z).2, by rw [e39]; exact z9⟩
    have hjn : ∀ c, c < nc → ¬ ppv (vw ad (mI M)) 32 (7 * wk + c) = 1 → mR M (ad 0 5) c = none := fun c hc z => by
      rcases jR.2.2 rfl c hc with ⟨b, b1, b2, b3, b4⟩ | y
      · obtain ⟨-, ⟨-, -, y⟩, -⟩ := jO.1 b b1 b2 _ b3
        exact absurd (by rw [e32]; exact y) z
      · exact y.1
    show Go d 176 0 0 0 [.ref (ad 0 0)] [] (mm M (mI M) (mJ M)) R
    refine go_blk 2 [some (.int 1)] (pc' := 4) (vs' := [.ref (ad 0 0)]) (st' := [.int 1]) (M' := mm M (mI M) (mJ M)) (ps := [ob (mm M (mI M) (mJ M)) (ad 0 0) 11, (Value.int ((mI M) (ad 0 0) 8)) = .int 1]) rfl ⟨(hF.o 0), congrArg Value.int op1, trivial⟩ ?_
    refine go_if rfl (fun _ => ?_) (fun (z : ¬ (¬ (1 : Int32) = 0)) => absurd (show ¬ (1 : Int32) = 0 from (by decide)) z)
    refine go_blk 3 [some (.ref (ad 0 7)), some (.int 0)] (pc' := 16) (vs' := [.ref (ad 0 0)]) (st' := [.int 0]) (M' := mm M (mI M) (mJ M)) (ps := [ob (mm M (mI M) (mJ M)) (ad 0 0) 11, mR (mm M (mI M) (mJ M)) (ad 0 0) 14 = some (ad 0 7), va_rf (some (ad 0 7)) = .ref (ad 0 7), ob (mm M (mI M) (mJ M)) (ad 0 7) 6, (Value.int ((mI M) (ad 0 7) 19)) = .int 0]) rfl ⟨(hF.o 0), (hF.r 0 14 7), rfl, (hF.o 7), congrArg Value.int h19, trivial⟩ ?_
    refine go_if rfl (fun (z : ¬ (0 : Int32) = 0) => absurd z (show ¬ (¬ (0 : Int32) = 0) from (by decide))) (fun _ => ?_)
    refine go_blk 10 [some (.ref (ad 0 7)), some (.ref (ad 0 5)), some (.int (nI nc)), some (.ref (ad 0 3)), some (.int (nI nt))] (pc' := 39) (vs' := [.ref (ad 0 0)]) (st' := [.int (nI nt), .ref (ad 0 3), .int (nI nc), .ref (ad 0 5), .ref (ad 0 7)]) (M' := mm M (mI M) (mJ M)) (ps := [ob (mm M (mI M) (mJ M)) (ad 0 0) 11, mR (mm M (mI M) (mJ M)) (ad 0 0) 14 = some (ad 0 7), va_rf (some (ad 0 7)) = .ref (ad 0 7), ob (mm M (mI M) (mJ M)) (ad 0 0) 11, mR (mm M (mI M) (mJ M)) (ad 0 0) 11 = some (ad 0 5), va_rf (some (ad 0 5)) = .ref (ad 0 5), ob (mm M (mI M) (mJ M)) (ad 0 0) 11, (Value.int ((mI M) (ad 0 0) 1)) = .int (nI nc), ob (mm M (mI M) (mJ M)) (ad 0 0) 11, mR (mm M (mI M) (mJ M)) (ad 0 0) 4 = some (ad 0 3), va_rf (some (ad 0 3)) = .ref (ad 0 3), ob (mm M (mI M) (mJ M)) (ad 0 0) 11, (Value.int ((mI M) (ad 0 0) 5)) = .int (nI nt)]) rfl ⟨(hF.o 0), (hF.r 0 14 7), rfl, (hF.o 0), (hF.r 0 11 5), rfl, (hF.o 0), congrArg Value.int nc1, (hF.o 0), (hF.r 0 4 3), rfl, (hF.o 0), congrArg Value.int nt1, trivial⟩ ?_
    refine go_callV rfl rfl rfl (by omega) rfl (by decide) (by decide) (hF.o 7) ?_
    refine s_Pl_gather (jb := jb) (by omega) hi hF hT nt3 nc3 hr hj hjn (fun r f1 k => ⟨ne_v, ?_⟩)
    · -- ('v',)
      have ce := GI.CPl hW hjb k
      have hF0 := hF
      have hT0 := hT
      have hF : Fx (mr M r) ad := fx_mr hF (fun i j z => k.1 0 i j (by omega))
      have hT : Ts (mr M r) ad nt := fun t ht => by
        obtain ⟨z1, z2, ⟨z3, z4⟩, z5, z6⟩ := hT t ht
        exact ⟨(k.1 0 3 t (by omega)).trans z1, z2, ⟨(k.1 3 t 2 (by omega)).trans z3, z4⟩, (k.1 3 t 3 (by omega)).trans z5, z6⟩
      show Go d 176 0 0 42 [.ref (ad 0 0)] [] (mm (mr M r) f1 (mJ M)) R
      refine go_blk 8 [some (.ref (ad 0 7)), some (.ref (ad 0 5)), some (.ref (ad 0 3)), some (.int (nI nw))] (pc' := 58) (vs' := [.ref (ad 0 0)]) (st' := [.int (nI nw), .ref (ad 0 3), .ref (ad 0 5), .ref (ad 0 7)]) (M' := mm (mr M r) f1 (mJ M)) (ps := [ob (mm (mr M r) f1 (mJ M)) (ad 0 0) 11, mR (mm (mr M r) f1 (mJ M)) (ad 0 0) 14 = some (ad 0 7), va_rf (some (ad 0 7)) = .ref (ad 0 7), ob (mm (mr M r) f1 (mJ M)) (ad 0 0) 11, mR (mm (mr M r) f1 (mJ M)) (ad 0 0) 11 = some (ad 0 5), va_rf (some (ad 0 5)) = .ref (ad 0 5), ob (mm (mr M r) f1 (mJ M)) (ad 0 0) 11, mR (mm (mr M r) f1 (mJ M)) (ad 0 0) 4 = some (ad 0 3), va_rf (some (ad 0 3)) = .ref (ad 0 3), ob (mm (mr M r) f1 (mJ M)) (ad 0 0) 11, (Value.int (f1 (ad 0 0) 9)) = .int (nI nw)]) rfl ⟨(hF.o 0), (hF.r 0 14 7), rfl, (hF.o 0), (hF.r 0 11 5), rfl, (hF.o 0), (hF.r 0 4 3), rfl, (hF.o 0), congrArg Value.int ((k.2.1 0 0 9 (by omega) (by omega)).trans nw1), trivial⟩ ?_
      refine go_callV rfl rfl rfl (by omega) rfl (by decide) (by decide) (hF.o 7) ?_
      refine s_Pl_find (by omega) hi hF hT nt3 hP ce nw3 hTW hRW (fun B y f2 g2 b1 b2 b3 b4 b5 => ⟨ne_v, ?_⟩)
      · -- ('v',)
        show Go d 176 0 0 61 [.ref (ad 0 0)] [] (mm (mr M r) f2 g2) R
        refine fin r f2 g2 ⟨k.1, fun a i j z1 z2 => ?_, fun a i j z1 z2 => b1.2 a i j z1 z2, ⟨b2, ?_, ?_⟩, fun j c hjc => ?_, fun z => ?_⟩ hF
        · rw [b1.1 a i j (by omega) (by omega)]; exact k.2.1 a i j (by omega) (by omega)
        · rw [b1.1 0 7 2 (by omega) (by omega)]; exact k.2.2.1
        · rw [b1.1 0 7 4 (by omega) (by omega)]; exact k.2.2.2.1
        · have hl : j < (tdL (ppv (vw ad (mI M))) nc wk).length := by
            rcases Nat.lt_or_ge j (tdL (ppv (vw ad (mI M))) nc wk).length with z | z
            · exact z
            · rw [List.getElem?_eq_none z] at hjc; cases hjc
          have ec : tdK (ppv (vw ad (mI M))) nc wk j = c := by unfold tdK; rw [List.getD_eq_getElem?_getD, hjc]; rfl
          have hm := tdK_mem hl
          rw [ec] at hm
          obtain ⟨z1, z2, z3, z4⟩ := hjb c (td_lt hm) (by rw [← e32]; exact ((td_of (td_lt hm)).mp hm).1)
          have gk := (k.2.2.2.2 j hl).1
          rw [show (tdL (ppv (vw ad (mI M))) nc wk).getD j 0 = tdK (ppv (vw ad (mI M))) nc wk j from rfl, ec] at gk
          exact ⟨jb c, z1, z2, z3, gk⟩
        · obtain ⟨ξ, x1, x2, x3, x4, x5, x6⟩ := b5 z
          have pl := x1.plan
          refine ⟨_, x6, ?_, fun t ht => ?_⟩
          · have pb := plan_ct hP pl nt (Nat.le_refl _)
            rw [pb.1, packV_ct, b3, x4, tc_pl hP x1 nt (Nat.le_refl _)]
            have bd := plan_bd hP pl
            have ln := plan_len pl
            exact pk_lT (by unfold pk3; have := pb.2.1; omega)
          · have eo : octR (tdL (ppv (vw ad (mI M))) nc wk) ((ξ t).map (tdK (ppv (vw ad (mI M))) nc wk)) 7 = octD 7 (ξ t) := by
              rw [octR_D, List.map_map]
              have : (ξ t).map ((tdL (ppv (vw ad (mI M))) nc wk).idxOf ∘ tdK (ppv (vw ad (mI M))) nc wk) = (ξ t).map id := List.map_congr_left (fun j hj => tdK_idx ((x3 t).2 j hj))
              rw [this, List.map_id]
            show f2 (ad 0 30) t = nI (octR (tdL (ppv (vw ad (mI M))) nc wk) ((ξ t).map (tdK (ppv (vw ad (mI M))) nc wk)) 7)
            rw [eo]
            rw [x5] at b4
            rcases (show t = 0 ∨ t = 1 ∨ t = 2 by omega) with rfl | rfl | rfl
            · exact b4.1
            · exact b4.2.1
            · exact b4.2.2
  · replace h19 : mI M (ad 0 7) 19 = 1 := h19
    obtain ⟨⟨k1, k2⟩, k3, k4⟩ := hk rfl
    show Go d 176 0 0 0 [.ref (ad 0 0)] [] (mm M (mI M) (mJ M)) R
    refine go_blk 2 [some (.int 1)] (pc' := 4) (vs' := [.ref (ad 0 0)]) (st' := [.int 1]) (M' := mm M (mI M) (mJ M)) (ps := [ob (mm M (mI M) (mJ M)) (ad 0 0) 11, (Value.int ((mI M) (ad 0 0) 8)) = .int 1]) rfl ⟨(hF.o 0), congrArg Value.int op1, trivial⟩ ?_
    refine go_if rfl (fun _ => ?_) (fun (z : ¬ (¬ (1 : Int32) = 0)) => absurd (show ¬ (1 : Int32) = 0 from (by decide)) z)
    refine go_blk 3 [some (.ref (ad 0 7)), some (.int 1)] (pc' := 16) (vs' := [.ref (ad 0 0)]) (st' := [.int 1]) (M' := mm M (mI M) (mJ M)) (ps := [ob (mm M (mI M) (mJ M)) (ad 0 0) 11, mR (mm M (mI M) (mJ M)) (ad 0 0) 14 = some (ad 0 7), va_rf (some (ad 0 7)) = .ref (ad 0 7), ob (mm M (mI M) (mJ M)) (ad 0 7) 6, (Value.int ((mI M) (ad 0 7) 19)) = .int 1]) rfl ⟨(hF.o 0), (hF.r 0 14 7), rfl, (hF.o 7), congrArg Value.int h19, trivial⟩ ?_
    refine go_if rfl (fun _ => ?_) (fun (z : ¬ (¬ (1 : Int32) = 0)) => absurd (show ¬ (1 : Int32) = 0 from (by decide)) z)
    exact fin (mR M) (mI M) (mJ M) ⟨fun _ _ _ _ => rfl, fun _ _ _ _ _ => rfl, fun _ _ _ _ _ => rfl, ⟨h19, k1, k2⟩, k3, k4⟩ hF

