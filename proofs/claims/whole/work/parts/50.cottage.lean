/-! calls: cottage, book, team -/
theorem alO_ob (M : Mem) (q c : Nat) : ob (alO M q c) q c := ⟨List.mem_append_right _ List.mem_cons_self, by show va_up (mK M) q c q = c; simp [va_up]⟩
theorem alA_ob (M : Mem) (q c n : Nat) : ob (alA M q c n) q c := ⟨List.mem_append_right _ List.mem_cons_self, by show va_up (mK M) q c q = c; simp [va_up]⟩
theorem alO_old {M : Mem} {q c a k : Nat} (h : ob M a k) (ha : ¬ a = q) : ob (alO M q c) a k := ⟨List.mem_append_left _ h.1, by show va_up (mK M) q c a = k; simp only [va_up, if_neg ha]; exact h.2⟩
theorem alA_old {M : Mem} {q c n a k : Nat} (h : ob M a k) (ha : ¬ a = q) : ob (alA M q c n) a k := ⟨List.mem_append_left _ h.1, by show va_up (mK M) q c a = k; simp only [va_up, if_neg ha]; exact h.2⟩
theorem up2_row {α : Type} {f : Nat → Nat → α} {a j b : Nat} {v : α} (h : ¬ b = a) : up2 f a j v b = f b := funext fun k => by simp only [up2, h, false_and, if_false]
theorem va_up_o {α : Type} {f : Nat → α} {k j : Nat} {v : α} (h : ¬ j = k) : va_up f k v j = f j := by simp only [va_up, if_neg h]

set_option maxHeartbeats 20000000 in
set_option maxRecDepth 100000 in
theorem op0c0 {M : Mem} {ad : Nat → Nat → Nat} {nc nb nt wk nw nx nl ne nk kd x o u : Nat} {sc : Nat × Nat × (Nat → Int32)} {R : Option Value → Mem → Prop} {p1 p2 p3 : Nat} (hx : ad 0 0 = x) (ho : ad 10 0 = o) (hu : ad 0 40 = u) (hsc : mSc M = sc) (hW : WI M ad nc nb nt wk nw nx nl ne nk kd false) (hn : nc < 7) (g1 : 1 ≤ p1) (g2 : p1 ≤ 12) (g3 : 1 ≤ p2) (g4 : p2 ≤ 2000) (g5 : 10 ≤ p3) (g6 : p3 ≤ 240) (hN : ob M (ad 1 nc) 2) (hr : mR M (ad 0 1) nc = some (ad 1 nc)) (h0 : mI M (ad 1 nc) 0 = nI p1) (h1 : mI M (ad 1 nc) 1 = 0) (h2c : mI M (ad 1 nc) 2 = nI p3) (h3c : mI M (ad 1 nc) 3 = nI p2) (h5 : mI M (ad 1 nc) 5 = -1) (h6 : mI M (ad 1 nc) 6 = -1) (h7 : mI M (ad 1 nc) 7 = -1) (h4 : mJ M (ad 1 nc) 4 = 0) (K : ∀ (r : Int32) (M1 : Mem), ob M1 o 12 → mSc M1 = mSc M → (∀ R2 : Option Value → Mem → Prop, (∀ M2, II x o u sc M2 → R2 (some (.int r)) M2) → Call 1311 191 (.ref o :: [.int (nI p1), .int 0, .int (nI p2), .int (nI p3)]) M1 R2) → R (some (.int r)) M1) : Go 1311 116 0 0 85 [.ref x, .int (nI p1), .int 0, .int (nI p2), .int (nI p3), .int 1] [] M R := by
  subst hx ho hu
  obtain ⟨hi, ⟨hF, hM, hC, hB, hT, hX⟩, ⟨iS, iC, iB, iR, iL, iT⟩, ⟨jO, jR, jB, jX, jL⟩, kO, kC, kD, kP, kX⟩ := id hW
  obtain ⟨⟨nc1, nc2, nc3⟩, ⟨nb1, nb2, nb3⟩, ⟨nt1, nt2, nt3⟩, ⟨wk1, wk2, wk3⟩, ⟨nw1, nw2, nw3⟩, ⟨op1, op2, op3⟩, ncm, ncm1, ncm2, ncm3⟩ := id iS
  simp only [vw] at nc1 nc2 nb1 nb2 nt1 nt2 wk1 wk2 nw1 nw2 op1 op2 ncm2 ncm3
  replace op1 : mI M (ad 0 0) 8 = 0 := op1
  replace op2 : mI M (ad 10 0) 21 = 0 := op2
  have hn7 : ¬ ((nI nc) = 7) := fun z => by have := (nI_eqs (a := nc) (b := 7) (by omega) (by decide)).mp z; omega
  have hC2 : Cs M ad (nc + 1) := fun c hc => by
    by_cases hcn : c = nc
    · subst hcn; exact ⟨hr, hN⟩
    · exact hC c (by omega)
  show Go 1311 116 0 0 85 [.ref (ad 0 0), .int (nI p1), .int 0, .int (nI p2), .int (nI p3), .int 1] [] (mm M (mI M) (mJ M)) R
  refine go_blk 10 [some (.int (nI nc)), some (.int ((nI nc) + 1))] (pc' := 101) (vs' := [.ref (ad 0 0), .int (nI p1), .int 0, .int (nI p2), .int (nI p3), .int 1]) (st' := [.int (((nI nc) + 1) - 1)]) (M' := mm M (up2 (mI M) (ad 0 0) 1 ((nI nc) + 1)) (mJ M)) (ps := [(.ref (ad 0 0) : Value).category = 1, ob (mm M (mI M) (mJ M)) (ad 0 0) 11, (Value.int ((mI M) (ad 0 0) 1)) = .int (nI nc), ob (mm M (mI M) (mJ M)) (ad 0 0) 11, ob (mm M (up2 (mI M) (ad 0 0) 1 ((nI nc) + 1)) (mJ M)) (ad 0 0) 11, (Value.int ((up2 (mI M) (ad 0 0) 1 ((nI nc) + 1)) (ad 0 0) 1)) = .int ((nI nc) + 1)]) rfl ⟨rfl, (hF.o 0), congrArg Value.int nc1, (hF.o 0), (hF.o 0), congrArg Value.int (up2_s _ _ _ _), trivial⟩ ?_
  refine go_iret rfl rfl ?_
  refine K _ _ hM.1 rfl (fun R2 h2 => ?_)
  show Go 1311 191 0 0 0 [.ref (ad 10 0), .int (nI p1), .int 0, .int (nI p2), .int (nI p3)] [] (mm M (up2 (mI M) (ad 0 0) 1 ((nI nc) + 1)) (mJ M)) R2
  refine go_blk 5 [some (.int 0)] (pc' := 9) (vs' := [.ref (ad 10 0), .int (nI p1), .int 0, .int (nI p2), .int (nI p3)]) (st' := [.int 0]) (M' := mm M (up2 (up2 (mI M) (ad 0 0) 1 ((nI nc) + 1)) (ad 10 0) 0 0) (mJ M)) (ps := [ob (mm M (up2 (mI M) (ad 0 0) 1 ((nI nc) + 1)) (mJ M)) (ad 10 0) 12, ob (mm M (up2 (up2 (mI M) (ad 0 0) 1 ((nI nc) + 1)) (ad 10 0) 0 0) (mJ M)) (ad 10 0) 12, (Value.int ((up2 (up2 (mI M) (ad 0 0) 1 ((nI nc) + 1)) (ad 10 0) 0 0) (ad 10 0) 21)) = .int 0]) rfl ⟨hM.1, hM.1, congrArg Value.int (((up2_n _ _ (fun z => absurd z.2 (by decide))).trans ((up2_n _ _ (fun z => absurd (hi _ _ _ _ z.1).1 (by decide))).trans (rfl))).trans op2), trivial⟩ ?_
  refine go_if rfl (fun (z : ¬ (0 : Int32) = 0) => absurd z (show ¬ (¬ (0 : Int32) = 0) from (by decide))) (fun _ => ?_)
  refine go_blk 3 [some (.int (nI nc))] (pc' := 18) (vs' := [.ref (ad 10 0), .int (nI p1), .int 0, .int (nI p2), .int (nI p3)]) (st' := [.int 7, .int (nI nc)]) (M' := mm M (up2 (up2 (mI M) (ad 0 0) 1 ((nI nc) + 1)) (ad 10 0) 0 0) (mJ M)) (ps := [ob (mm M (up2 (up2 (mI M) (ad 0 0) 1 ((nI nc) + 1)) (ad 10 0) 0 0) (mJ M)) (ad 10 0) 12, (Value.int ((up2 (up2 (mI M) (ad 0 0) 1 ((nI nc) + 1)) (ad 10 0) 0 0) (ad 10 0) 17)) = .int (nI nc)]) rfl ⟨hM.1, congrArg Value.int (((up2_n _ _ (fun z => absurd z.2 (by decide))).trans ((up2_n _ _ (fun z => absurd (hi _ _ _ _ z.1).1 (by decide))).trans (rfl))).trans nc2), trivial⟩ ?_
  refine go_icmp rfl (fun (z : (nI nc) = 7) => absurd z (show ¬ ((nI nc) = 7) from hn7)) (fun _ => ?_)
  refine go_blk 3 [] (pc' := 25) (vs' := [.ref (ad 10 0), .int (nI p1), .int 0, .int (nI p2), .int (nI p3)]) (st' := [.int 12, .int 1, .int (nI p1)]) (M' := mm M (up2 (up2 (mI M) (ad 0 0) 1 ((nI nc) + 1)) (ad 10 0) 0 0) (mJ M)) (ps := []) rfl trivial ?_
  refine go_callS rfl (by decide) rfl rfl (by omega) rfl (by decide) (by decide) ?_
  refine s_Mo_isInK 1 12 (by decide) (by decide) (fun j1 hl1 hj1 hx1 => ⟨ne_i, ?_⟩) (fun c1 => ⟨ne_i, ?_⟩)
  · -- 1
    show Go 1311 191 0 0 28 [.ref (ad 10 0), .int (nI p1), .int 0, .int (nI p2), .int (nI p3)] [.int 1] (mm M (up2 (up2 (mI M) (ad 0 0) 1 ((nI nc) + 1)) (ad 10 0) 0 0) (mJ M)) R2
    refine go_if rfl (fun (z : (1 : Int32) = 0) => absurd z (show ¬ ((1 : Int32) = 0) from (by decide))) (fun _ => ?_)
    refine go_blk 3 [] (pc' := 36) (vs' := [.ref (ad 10 0), .int (nI p1), .int 0, .int (nI p2), .int (nI p3)]) (st' := [.int 2000, .int 1, .int (nI p2)]) (M' := mm M (up2 (up2 (mI M) (ad 0 0) 1 ((nI nc) + 1)) (ad 10 0) 0 0) (mJ M)) (ps := []) rfl trivial ?_
    refine go_callS rfl (by decide) rfl rfl (by omega) rfl (by decide) (by decide) ?_
    refine s_Mo_isInK 1 2000 (by decide) (by decide) (fun j2 hl2 hj2 hx2 => ⟨ne_i, ?_⟩) (fun c2 => ⟨ne_i, ?_⟩)
    · -- 1
      show Go 1311 191 0 0 39 [.ref (ad 10 0), .int (nI p1), .int 0, .int (nI p2), .int (nI p3)] [.int 1] (mm M (up2 (up2 (mI M) (ad 0 0) 1 ((nI nc) + 1)) (ad 10 0) 0 0) (mJ M)) R2
      refine go_if rfl (fun (z : (1 : Int32) = 0) => absurd z (show ¬ ((1 : Int32) = 0) from (by decide))) (fun _ => ?_)
      refine go_blk 3 [] (pc' := 49) (vs' := [.ref (ad 10 0), .int (nI p1), .int 0, .int (nI p2), .int (nI p3)]) (st' := [.int 240, .int 10, .int (nI p3)]) (M' := mm M (up2 (up2 (mI M) (ad 0 0) 1 ((nI nc) + 1)) (ad 10 0) 0 0) (mJ M)) (ps := []) rfl trivial ?_
      refine go_callS rfl (by decide) rfl rfl (by omega) rfl (by decide) (by decide) ?_
      refine s_Mo_isInK 10 240 (by decide) (by decide) (fun j3 hl3 hj3 hx3 => ⟨ne_i, ?_⟩) (fun c3 => ⟨ne_i, ?_⟩)
      · -- 1
        show Go 1311 191 0 0 52 [.ref (ad 10 0), .int (nI p1), .int 0, .int (nI p2), .int (nI p3)] [.int 1] (mm M (up2 (up2 (mI M) (ad 0 0) 1 ((nI nc) + 1)) (ad 10 0) 0 0) (mJ M)) R2
        refine go_if rfl (fun _ => ?_) (fun (z : ¬ (¬ (1 : Int32) = 0)) => absurd (show ¬ (1 : Int32) = 0 from (by decide)) z)
        refine go_blk 34 [some (.ref (ad 9 1)), some (.int (nI nc)), some (.ref (ad 9 4)), some (.int (nI nc)), some (.ref (ad 9 2)), some (.int (nI nc)), some (.ref (ad 9 3)), some (.int (nI nc)), some (.int (nI nc)), some (.int ((nI nc) + 1))] (pc' := 114) (vs' := [.ref (ad 10 0), .int (nI p1), .int 0, .int (nI p2), .int (nI p3)]) (st' := [.int (((nI nc) + 1) - 1)]) (M' := mm M (up2 (up2 (up2 (up2 (up2 (up2 (up2 (mI M) (ad 0 0) 1 ((nI nc) + 1)) (ad 10 0) 0 0) (ad 9 1) ((nI nc).toNatClampNeg) (nI p1)) (ad 9 4) ((nI nc).toNatClampNeg) 0) (ad 9 2) ((nI nc).toNatClampNeg) (nI p2)) (ad 9 3) ((nI nc).toNatClampNeg) (nI p3)) (ad 10 0) 17 ((nI nc) + 1)) (mJ M)) (ps := [ob (mm M (up2 (up2 (mI M) (ad 0 0) 1 ((nI nc) + 1)) (ad 10 0) 0 0) (mJ M)) (ad 10 0) 12, mR (mm M (up2 (up2 (mI M) (ad 0 0) 1 ((nI nc) + 1)) (ad 10 0) 0 0) (mJ M)) (ad 10 0) 1 = some (ad 9 1), va_rf (some (ad 9 1)) = .ref (ad 9 1), ob (mm M (up2 (up2 (mI M) (ad 0 0) 1 ((nI nc) + 1)) (ad 10 0) 0 0) (mJ M)) (ad 10 0) 12, (Value.int ((up2 (up2 (mI M) (ad 0 0) 1 ((nI nc) + 1)) (ad 10 0) 0 0) (ad 10 0) 17)) = .int (nI nc), ob (mm M (up2 (up2 (mI M) (ad 0 0) 1 ((nI nc) + 1)) (ad 10 0) 0 0) (mJ M)) (ad 9 1) 15, vp_in (nI nc) (mN (mm M (up2 (up2 (mI M) (ad 0 0) 1 ((nI nc) + 1)) (ad 10 0) 0 0) (mJ M)) (ad 9 1)), ob (mm M (up2 (up2 (up2 (mI M) (ad 0 0) 1 ((nI nc) + 1)) (ad 10 0) 0 0) (ad 9 1) ((nI nc).toNatClampNeg) (nI p1)) (mJ M)) (ad 10 0) 12, mR (mm M (up2 (up2 (up2 (mI M) (ad 0 0) 1 ((nI nc) + 1)) (ad 10 0) 0 0) (ad 9 1) ((nI nc).toNatClampNeg) (nI p1)) (mJ M)) (ad 10 0) 4 = some (ad 9 4), va_rf (some (ad 9 4)) = .ref (ad 9 4), ob (mm M (up2 (up2 (up2 (mI M) (ad 0 0) 1 ((nI nc) + 1)) (ad 10 0) 0 0) (ad 9 1) ((nI nc).toNatClampNeg) (nI p1)) (mJ M)) (ad 10 0) 12, (Value.int ((up2 (up2 (up2 (mI M) (ad 0 0) 1 ((nI nc) + 1)) (ad 10 0) 0 0) (ad 9 1) ((nI nc).toNatClampNeg) (nI p1)) (ad 10 0) 17)) = .int (nI nc), ob (mm M (up2 (up2 (up2 (mI M) (ad 0 0) 1 ((nI nc) + 1)) (ad 10 0) 0 0) (ad 9 1) ((nI nc).toNatClampNeg) (nI p1)) (mJ M)) (ad 9 4) 13, vp_in (nI nc) (mN (mm M (up2 (up2 (up2 (mI M) (ad 0 0) 1 ((nI nc) + 1)) (ad 10 0) 0 0) (ad 9 1) ((nI nc).toNatClampNeg) (nI p1)) (mJ M)) (ad 9 4)), ob (mm M (up2 (up2 (up2 (up2 (mI M) (ad 0 0) 1 ((nI nc) + 1)) (ad 10 0) 0 0) (ad 9 1) ((nI nc).toNatClampNeg) (nI p1)) (ad 9 4) ((nI nc).toNatClampNeg) 0) (mJ M)) (ad 10 0) 12, mR (mm M (up2 (up2 (up2 (up2 (mI M) (ad 0 0) 1 ((nI nc) + 1)) (ad 10 0) 0 0) (ad 9 1) ((nI nc).toNatClampNeg) (nI p1)) (ad 9 4) ((nI nc).toNatClampNeg) 0) (mJ M)) (ad 10 0) 2 = some (ad 9 2), va_rf (some (ad 9 2)) = .ref (ad 9 2), ob (mm M (up2 (up2 (up2 (up2 (mI M) (ad 0 0) 1 ((nI nc) + 1)) (ad 10 0) 0 0) (ad 9 1) ((nI nc).toNatClampNeg) (nI p1)) (ad 9 4) ((nI nc).toNatClampNeg) 0) (mJ M)) (ad 10 0) 12, (Value.int ((up2 (up2 (up2 (up2 (mI M) (ad 0 0) 1 ((nI nc) + 1)) (ad 10 0) 0 0) (ad 9 1) ((nI nc).toNatClampNeg) (nI p1)) (ad 9 4) ((nI nc).toNatClampNeg) 0) (ad 10 0) 17)) = .int (nI nc), ob (mm M (up2 (up2 (up2 (up2 (mI M) (ad 0 0) 1 ((nI nc) + 1)) (ad 10 0) 0 0) (ad 9 1) ((nI nc).toNatClampNeg) (nI p1)) (ad 9 4) ((nI nc).toNatClampNeg) 0) (mJ M)) (ad 9 2) 15, vp_in (nI nc) (mN (mm M (up2 (up2 (up2 (up2 (mI M) (ad 0 0) 1 ((nI nc) + 1)) (ad 10 0) 0 0) (ad 9 1) ((nI nc).toNatClampNeg) (nI p1)) (ad 9 4) ((nI nc).toNatClampNeg) 0) (mJ M)) (ad 9 2)), ob (mm M (up2 (up2 (up2 (up2 (up2 (mI M) (ad 0 0) 1 ((nI nc) + 1)) (ad 10 0) 0 0) (ad 9 1) ((nI nc).toNatClampNeg) (nI p1)) (ad 9 4) ((nI nc).toNatClampNeg) 0) (ad 9 2) ((nI nc).toNatClampNeg) (nI p2)) (mJ M)) (ad 10 0) 12, mR (mm M (up2 (up2 (up2 (up2 (up2 (mI M) (ad 0 0) 1 ((nI nc) + 1)) (ad 10 0) 0 0) (ad 9 1) ((nI nc).toNatClampNeg) (nI p1)) (ad 9 4) ((nI nc).toNatClampNeg) 0) (ad 9 2) ((nI nc).toNatClampNeg) (nI p2)) (mJ M)) (ad 10 0) 3 = some (ad 9 3), va_rf (some (ad 9 3)) = .ref (ad 9 3), ob (mm M (up2 (up2 (up2 (up2 (up2 (mI M) (ad 0 0) 1 ((nI nc) + 1)) (ad 10 0) 0 0) (ad 9 1) ((nI nc).toNatClampNeg) (nI p1)) (ad 9 4) ((nI nc).toNatClampNeg) 0) (ad 9 2) ((nI nc).toNatClampNeg) (nI p2)) (mJ M)) (ad 10 0) 12, (Value.int ((up2 (up2 (up2 (up2 (up2 (mI M) (ad 0 0) 1 ((nI nc) + 1)) (ad 10 0) 0 0) (ad 9 1) ((nI nc).toNatClampNeg) (nI p1)) (ad 9 4) ((nI nc).toNatClampNeg) 0) (ad 9 2) ((nI nc).toNatClampNeg) (nI p2)) (ad 10 0) 17)) = .int (nI nc), ob (mm M (up2 (up2 (up2 (up2 (up2 (mI M) (ad 0 0) 1 ((nI nc) + 1)) (ad 10 0) 0 0) (ad 9 1) ((nI nc).toNatClampNeg) (nI p1)) (ad 9 4) ((nI nc).toNatClampNeg) 0) (ad 9 2) ((nI nc).toNatClampNeg) (nI p2)) (mJ M)) (ad 9 3) 15, vp_in (nI nc) (mN (mm M (up2 (up2 (up2 (up2 (up2 (mI M) (ad 0 0) 1 ((nI nc) + 1)) (ad 10 0) 0 0) (ad 9 1) ((nI nc).toNatClampNeg) (nI p1)) (ad 9 4) ((nI nc).toNatClampNeg) 0) (ad 9 2) ((nI nc).toNatClampNeg) (nI p2)) (mJ M)) (ad 9 3)), (.ref (ad 10 0) : Value).category = 1, ob (mm M (up2 (up2 (up2 (up2 (up2 (up2 (mI M) (ad 0 0) 1 ((nI nc) + 1)) (ad 10 0) 0 0) (ad 9 1) ((nI nc).toNatClampNeg) (nI p1)) (ad 9 4) ((nI nc).toNatClampNeg) 0) (ad 9 2) ((nI nc).toNatClampNeg) (nI p2)) (ad 9 3) ((nI nc).toNatClampNeg) (nI p3)) (mJ M)) (ad 10 0) 12, (Value.int ((up2 (up2 (up2 (up2 (up2 (up2 (mI M) (ad 0 0) 1 ((nI nc) + 1)) (ad 10 0) 0 0) (ad 9 1) ((nI nc).toNatClampNeg) (nI p1)) (ad 9 4) ((nI nc).toNatClampNeg) 0) (ad 9 2) ((nI nc).toNatClampNeg) (nI p2)) (ad 9 3) ((nI nc).toNatClampNeg) (nI p3)) (ad 10 0) 17)) = .int (nI nc), ob (mm M (up2 (up2 (up2 (up2 (up2 (up2 (mI M) (ad 0 0) 1 ((nI nc) + 1)) (ad 10 0) 0 0) (ad 9 1) ((nI nc).toNatClampNeg) (nI p1)) (ad 9 4) ((nI nc).toNatClampNeg) 0) (ad 9 2) ((nI nc).toNatClampNeg) (nI p2)) (ad 9 3) ((nI nc).toNatClampNeg) (nI p3)) (mJ M)) (ad 10 0) 12, ob (mm M (up2 (up2 (up2 (up2 (up2 (up2 (up2 (mI M) (ad 0 0) 1 ((nI nc) + 1)) (ad 10 0) 0 0) (ad 9 1) ((nI nc).toNatClampNeg) (nI p1)) (ad 9 4) ((nI nc).toNatClampNeg) 0) (ad 9 2) ((nI nc).toNatClampNeg) (nI p2)) (ad 9 3) ((nI nc).toNatClampNeg) (nI p3)) (ad 10 0) 17 ((nI nc) + 1)) (mJ M)) (ad 10 0) 12, (Value.int ((up2 (up2 (up2 (up2 (up2 (up2 (up2 (mI M) (ad 0 0) 1 ((nI nc) + 1)) (ad 10 0) 0 0) (ad 9 1) ((nI nc).toNatClampNeg) (nI p1)) (ad 9 4) ((nI nc).toNatClampNeg) 0) (ad 9 2) ((nI nc).toNatClampNeg) (nI p2)) (ad 9 3) ((nI nc).toNatClampNeg) (nI p3)) (ad 10 0) 17 ((nI nc) + 1)) (ad 10 0) 17)) = .int ((nI nc) + 1)]) rfl ⟨hM.1, (hM.r 1 15 7), rfl, hM.1, congrArg Value.int (((up2_n _ _ (fun z => absurd z.2 (by decide))).trans ((up2_n _ _ (fun z => absurd (hi _ _ _ _ z.1).1 (by decide))).trans (rfl))).trans nc2), (hM.o 1 15 7), (vpi (hM.n 1 15 7) (by omega)), hM.1, (hM.r 4 13 7), rfl, hM.1, congrArg Value.int (((up2_n _ _ (fun z => absurd (hi _ _ _ _ z.1).1 (by decide))).trans ((up2_n _ _ (fun z => absurd z.2 (by decide))).trans ((up2_n _ _ (fun z => absurd (hi _ _ _ _ z.1).1 (by decide))).trans (rfl)))).trans nc2), (hM.o 4 13 7), (vpi (hM.n 4 13 7) (by omega)), hM.1, (hM.r 2 15 7), rfl, hM.1, congrArg Value.int (((up2_n _ _ (fun z => absurd (hi _ _ _ _ z.1).1 (by decide))).trans ((up2_n _ _ (fun z => absurd (hi _ _ _ _ z.1).1 (by decide))).trans ((up2_n _ _ (fun z => absurd z.2 (by decide))).trans ((up2_n _ _ (fun z => absurd (hi _ _ _ _ z.1).1 (by decide))).trans (rfl))))).trans nc2), (hM.o 2 15 7), (vpi (hM.n 2 15 7) (by omega)), hM.1, (hM.r 3 15 7), rfl, hM.1, congrArg Value.int (((up2_n _ _ (fun z => absurd (hi _ _ _ _ z.1).1 (by decide))).trans ((up2_n _ _ (fun z => absurd (hi _ _ _ _ z.1).1 (by decide))).trans ((up2_n _ _ (fun z => absurd (hi _ _ _ _ z.1).1 (by decide))).trans ((up2_n _ _ (fun z => absurd z.2 (by decide))).trans ((up2_n _ _ (fun z => absurd (hi _ _ _ _ z.1).1 (by decide))).trans (rfl)))))).trans nc2), (hM.o 3 15 7), (vpi (hM.n 3 15 7) (by omega)), rfl, hM.1, congrArg Value.int (((up2_n _ _ (fun z => absurd (hi _ _ _ _ z.1).1 (by decide))).trans ((up2_n _ _ (fun z => absurd (hi _ _ _ _ z.1).1 (by decide))).trans ((up2_n _ _ (fun z => absurd (hi _ _ _ _ z.1).1 (by decide))).trans ((up2_n _ _ (fun z => absurd (hi _ _ _ _ z.1).1 (by decide))).trans ((up2_n _ _ (fun z => absurd z.2 (by decide))).trans ((up2_n _ _ (fun z => absurd (hi _ _ _ _ z.1).1 (by decide))).trans (rfl))))))).trans nc2), hM.1, hM.1, congrArg Value.int (up2_s _ _ _ _), trivial⟩ ?_
        rw [nI_clamp (n := nc) (by omega)]
        refine go_iret rfl rfl ?_
        have ch : ∀ t i k, ¬ ((t = 0 ∧ i = 0 ∧ k = 1) ∨ (t = 10 ∧ i = 0 ∧ k = 0) ∨ (t = 9 ∧ i = 1 ∧ k = nc) ∨ (t = 9 ∧ i = 4 ∧ k = nc) ∨ (t = 9 ∧ i = 2 ∧ k = nc) ∨ (t = 9 ∧ i = 3 ∧ k = nc) ∨ (t = 10 ∧ i = 0 ∧ k = 17)) → vw ad (up2 (up2 (up2 (up2 (up2 (up2 (up2 (mI M) (ad 0 0) 1 ((nI nc) + 1)) (ad 10 0) 0 0) (ad 9 1) (nc) (nI p1)) (ad 9 4) (nc) 0) (ad 9 2) (nc) (nI p2)) (ad 9 3) (nc) (nI p3)) (ad 10 0) 17 ((nI nc) + 1)) t i k = vw ad (mI M) t i k := by
          intro t i k hn
          simp only [vw_up2 hi]
          rw [up3_n _ _ (by omega), up3_n _ _ (by omega), up3_n _ _ (by omega), up3_n _ _ (by omega), up3_n _ _ (by omega), up3_n _ _ (by omega), up3_n _ _ (by omega)]
        have chj : ∀ t i k, ¬ ((t = 1000 ∧ i = 0 ∧ k = 0)) → vw ad (mJ M) t i k = vw ad (mJ M) t i k := by
          intro t i k hn
          rfl
        have eJ1 : eJ nb (vw ad (mI M)) (vw ad (up2 (up2 (up2 (up2 (up2 (up2 (up2 (mI M) (ad 0 0) 1 ((nI nc) + 1)) (ad 10 0) 0 0) (ad 9 1) (nc) (nI p1)) (ad 9 4) (nc) 0) (ad 9 2) (nc) (nI p2)) (ad 9 3) (nc) (nI p3)) (ad 10 0) 17 ((nI nc) + 1))) := fun i k h => ch 9 i k (by omega)
        have qa : vw ad (up2 (up2 (up2 (up2 (up2 (up2 (up2 (mI M) (ad 0 0) 1 ((nI nc) + 1)) (ad 10 0) 0 0) (ad 9 1) (nc) (nI p1)) (ad 9 4) (nc) 0) (ad 9 2) (nc) (nI p2)) (ad 9 3) (nc) (nI p3)) (ad 10 0) 17 ((nI nc) + 1)) 0 0 1 = nI (nc + 1) := by simp only [vw_up2 hi]; simp [up3]; exact nI_add nc 1
        have qb : vw ad (up2 (up2 (up2 (up2 (up2 (up2 (up2 (mI M) (ad 0 0) 1 ((nI nc) + 1)) (ad 10 0) 0 0) (ad 9 1) (nc) (nI p1)) (ad 9 4) (nc) 0) (ad 9 2) (nc) (nI p2)) (ad 9 3) (nc) (nI p3)) (ad 10 0) 17 ((nI nc) + 1)) 10 0 17 = nI (nc + 1) := by simp only [vw_up2 hi]; simp [up3]; exact nI_add nc 1
        have q91 : vw ad (up2 (up2 (up2 (up2 (up2 (up2 (up2 (mI M) (ad 0 0) 1 ((nI nc) + 1)) (ad 10 0) 0 0) (ad 9 1) (nc) (nI p1)) (ad 9 4) (nc) 0) (ad 9 2) (nc) (nI p2)) (ad 9 3) (nc) (nI p3)) (ad 10 0) 17 ((nI nc) + 1)) 9 1 nc = nI p1 := by simp only [vw_up2 hi]; simp [up3]
        have q94 : vw ad (up2 (up2 (up2 (up2 (up2 (up2 (up2 (mI M) (ad 0 0) 1 ((nI nc) + 1)) (ad 10 0) 0 0) (ad 9 1) (nc) (nI p1)) (ad 9 4) (nc) 0) (ad 9 2) (nc) (nI p2)) (ad 9 3) (nc) (nI p3)) (ad 10 0) 17 ((nI nc) + 1)) 9 4 nc = 0 := by simp only [vw_up2 hi]; simp [up3]
        have q92 : vw ad (up2 (up2 (up2 (up2 (up2 (up2 (up2 (mI M) (ad 0 0) 1 ((nI nc) + 1)) (ad 10 0) 0 0) (ad 9 1) (nc) (nI p1)) (ad 9 4) (nc) 0) (ad 9 2) (nc) (nI p2)) (ad 9 3) (nc) (nI p3)) (ad 10 0) 17 ((nI nc) + 1)) 9 2 nc = nI p2 := by simp only [vw_up2 hi]; simp [up3]
        have q93 : vw ad (up2 (up2 (up2 (up2 (up2 (up2 (up2 (mI M) (ad 0 0) 1 ((nI nc) + 1)) (ad 10 0) 0 0) (ad 9 1) (nc) (nI p1)) (ad 9 4) (nc) 0) (ad 9 2) (nc) (nI p2)) (ad 9 3) (nc) (nI p3)) (ad 10 0) 17 ((nI nc) + 1)) 9 3 nc = nI p3 := by simp only [vw_up2 hi]; simp [up3]
        have q10 : vw ad (up2 (up2 (up2 (up2 (up2 (up2 (up2 (mI M) (ad 0 0) 1 ((nI nc) + 1)) (ad 10 0) 0 0) (ad 9 1) (nc) (nI p1)) (ad 9 4) (nc) 0) (ad 9 2) (nc) (nI p2)) (ad 9 3) (nc) (nI p3)) (ad 10 0) 17 ((nI nc) + 1)) 1 nc 0 = nI p1 := (ch 1 nc 0 (by omega)).trans h0
        have q11 : vw ad (up2 (up2 (up2 (up2 (up2 (up2 (up2 (mI M) (ad 0 0) 1 ((nI nc) + 1)) (ad 10 0) 0 0) (ad 9 1) (nc) (nI p1)) (ad 9 4) (nc) 0) (ad 9 2) (nc) (nI p2)) (ad 9 3) (nc) (nI p3)) (ad 10 0) 17 ((nI nc) + 1)) 1 nc 1 = 0 := (ch 1 nc 1 (by omega)).trans h1
        have q12 : vw ad (up2 (up2 (up2 (up2 (up2 (up2 (up2 (mI M) (ad 0 0) 1 ((nI nc) + 1)) (ad 10 0) 0 0) (ad 9 1) (nc) (nI p1)) (ad 9 4) (nc) 0) (ad 9 2) (nc) (nI p2)) (ad 9 3) (nc) (nI p3)) (ad 10 0) 17 ((nI nc) + 1)) 1 nc 2 = nI p3 := (ch 1 nc 2 (by omega)).trans h2c
        have q13 : vw ad (up2 (up2 (up2 (up2 (up2 (up2 (up2 (mI M) (ad 0 0) 1 ((nI nc) + 1)) (ad 10 0) 0 0) (ad 9 1) (nc) (nI p1)) (ad 9 4) (nc) 0) (ad 9 2) (nc) (nI p2)) (ad 9 3) (nc) (nI p3)) (ad 10 0) 17 ((nI nc) + 1)) 1 nc 3 = nI p2 := (ch 1 nc 3 (by omega)).trans h3c
        have q15 : vw ad (up2 (up2 (up2 (up2 (up2 (up2 (up2 (mI M) (ad 0 0) 1 ((nI nc) + 1)) (ad 10 0) 0 0) (ad 9 1) (nc) (nI p1)) (ad 9 4) (nc) 0) (ad 9 2) (nc) (nI p2)) (ad 9 3) (nc) (nI p3)) (ad 10 0) 17 ((nI nc) + 1)) 1 nc 5 = (-1) := (ch 1 nc 5 (by omega)).trans h5
        have q16 : vw ad (up2 (up2 (up2 (up2 (up2 (up2 (up2 (mI M) (ad 0 0) 1 ((nI nc) + 1)) (ad 10 0) 0 0) (ad 9 1) (nc) (nI p1)) (ad 9 4) (nc) 0) (ad 9 2) (nc) (nI p2)) (ad 9 3) (nc) (nI p3)) (ad 10 0) 17 ((nI nc) + 1)) 1 nc 6 = (-1) := (ch 1 nc 6 (by omega)).trans h6
        have q17 : vw ad (up2 (up2 (up2 (up2 (up2 (up2 (up2 (mI M) (ad 0 0) 1 ((nI nc) + 1)) (ad 10 0) 0 0) (ad 9 1) (nc) (nI p1)) (ad 9 4) (nc) 0) (ad 9 2) (nc) (nI p2)) (ad 9 3) (nc) (nI p3)) (ad 10 0) 17 ((nI nc) + 1)) 1 nc 7 = (-1) := (ch 1 nc 7 (by omega)).trans h7
        refine h2 _ ⟨hsc, ad, (nc + 1), nb, nt, wk, nw, nx, nl, ne, nk, kd, false, rfl, rfl, rfl, hi, ⟨hF, hM, hC2, hB, hT, hX⟩, ⟨iS.nc1 hn (fun t k h => ch t 0 k (by omega)) qa qb, iC.nc1 hn (fun t i k h => ch t i k (by omega)) (fun c hc => chj 1 c 4 (by omega)) ⟨⟨q10.trans q91.symm, q11.trans q94.symm, q12.trans q93.symm, q13.trans q92.symm⟩, ⟨p1, g1, g2, q91⟩, Or.inl q94, ⟨p3, g5, g6, q93⟩, ⟨p2, g3, g4, q92⟩⟩ ((chj 1 nc 4 (by omega)).trans h4), (iB.congr (fun t i k h => ch t i k (by omega))).ncm (by omega), iR.congr (fun t i k h => ch t i k (by omega)), iL.congr (fun t i k h => ch t i k (by omega)), (iT.congr (fun t i k h => ch t i k (by omega))).ncm (by omega)⟩, ⟨jO.congr eJ1 (fun b k _ _ _ => ch 6 b k (by omega)), (jR.congr eJ1).sh, (jB.congr nb3 (fun t i k h => ch t i k (by omega))).ncm (by omega), jX.congr (fun t i k h => ch t i k (by omega)), jL.congr eJ1 (fun b k _ _ _ => ch 6 b k (by omega)) (fun t i k h => ch t i k (by omega))⟩, kO.congr iB wk3 (fun t i k h => ch t i k (by omega)) (fun b _ _ => ch 6 b 8 (by omega)), (kC.congr (fun t i k h => ch t i k (by omega)) ⟨chj 0 0 12 (by omega), chj 10 0 99 (by omega)⟩).nc1 (fun s g1 g2 => by rcases (show s = 5 ∨ s = 6 ∨ s = 7 by omega) with rfl | rfl | rfl; exact q15; exact q16; exact q17), IDy.sh (nt' := nt) (nc' := nc), (kP.congr eJ1 (fun i k h => ch 9 i k (by have := ppS_sp h; omega)) ⟨ch 10 0 31 (by omega), ch 0 7 19 (by omega), ch 0 7 2 (by omega), ch 0 7 4 (by omega), fun t => ch 0 30 t (by omega)⟩ (chj 0 7 17 (by omega))).sh, kX.congr (fun t i k h => ch t i k (by omega))⟩
      · exact absurd ⟨p3, g5, g6, rfl⟩ c3
    · exact absurd ⟨p2, g3, g4, rfl⟩ c2
  · exact absurd ⟨p1, g1, g2, rfl⟩ c1

set_option maxHeartbeats 20000000 in
set_option maxRecDepth 100000 in
theorem op0c1 {M : Mem} {ad : Nat → Nat → Nat} {nc nb nt wk nw nx nl ne nk kd x o u : Nat} {sc : Nat × Nat × (Nat → Int32)} {R : Option Value → Mem → Prop} {p1 p2 p3 : Nat} (hx : ad 0 0 = x) (ho : ad 10 0 = o) (hu : ad 0 40 = u) (hsc : mSc M = sc) (hW : WI M ad nc nb nt wk nw nx nl ne nk kd false) (hn : nc < 7) (g1 : 1 ≤ p1) (g2 : p1 ≤ 12) (g3 : 1 ≤ p2) (g4 : p2 ≤ 2000) (g5 : 10 ≤ p3) (g6 : p3 ≤ 240) (hN : ob M (ad 1 nc) 2) (hr : mR M (ad 0 1) nc = some (ad 1 nc)) (h0 : mI M (ad 1 nc) 0 = nI p1) (h1 : mI M (ad 1 nc) 1 = 1) (h2c : mI M (ad 1 nc) 2 = nI p3) (h3c : mI M (ad 1 nc) 3 = nI p2) (h5 : mI M (ad 1 nc) 5 = -1) (h6 : mI M (ad 1 nc) 6 = -1) (h7 : mI M (ad 1 nc) 7 = -1) (h4 : mJ M (ad 1 nc) 4 = 0) (K : ∀ (r : Int32) (M1 : Mem), ob M1 o 12 → mSc M1 = mSc M → (∀ R2 : Option Value → Mem → Prop, (∀ M2, II x o u sc M2 → R2 (some (.int r)) M2) → Call 1311 191 (.ref o :: [.int (nI p1), .int 1, .int (nI p2), .int (nI p3)]) M1 R2) → R (some (.int r)) M1) : Go 1311 116 0 0 85 [.ref x, .int (nI p1), .int 1, .int (nI p2), .int (nI p3), .int 1] [] M R := by
  subst hx ho hu
  obtain ⟨hi, ⟨hF, hM, hC, hB, hT, hX⟩, ⟨iS, iC, iB, iR, iL, iT⟩, ⟨jO, jR, jB, jX, jL⟩, kO, kC, kD, kP, kX⟩ := id hW
  obtain ⟨⟨nc1, nc2, nc3⟩, ⟨nb1, nb2, nb3⟩, ⟨nt1, nt2, nt3⟩, ⟨wk1, wk2, wk3⟩, ⟨nw1, nw2, nw3⟩, ⟨op1, op2, op3⟩, ncm, ncm1, ncm2, ncm3⟩ := id iS
  simp only [vw] at nc1 nc2 nb1 nb2 nt1 nt2 wk1 wk2 nw1 nw2 op1 op2 ncm2 ncm3
  replace op1 : mI M (ad 0 0) 8 = 0 := op1
  replace op2 : mI M (ad 10 0) 21 = 0 := op2
  have hn7 : ¬ ((nI nc) = 7) := fun z => by have := (nI_eqs (a := nc) (b := 7) (by omega) (by decide)).mp z; omega
  have hC2 : Cs M ad (nc + 1) := fun c hc => by
    by_cases hcn : c = nc
    · subst hcn; exact ⟨hr, hN⟩
    · exact hC c (by omega)
  show Go 1311 116 0 0 85 [.ref (ad 0 0), .int (nI p1), .int 1, .int (nI p2), .int (nI p3), .int 1] [] (mm M (mI M) (mJ M)) R
  refine go_blk 10 [some (.int (nI nc)), some (.int ((nI nc) + 1))] (pc' := 101) (vs' := [.ref (ad 0 0), .int (nI p1), .int 1, .int (nI p2), .int (nI p3), .int 1]) (st' := [.int (((nI nc) + 1) - 1)]) (M' := mm M (up2 (mI M) (ad 0 0) 1 ((nI nc) + 1)) (mJ M)) (ps := [(.ref (ad 0 0) : Value).category = 1, ob (mm M (mI M) (mJ M)) (ad 0 0) 11, (Value.int ((mI M) (ad 0 0) 1)) = .int (nI nc), ob (mm M (mI M) (mJ M)) (ad 0 0) 11, ob (mm M (up2 (mI M) (ad 0 0) 1 ((nI nc) + 1)) (mJ M)) (ad 0 0) 11, (Value.int ((up2 (mI M) (ad 0 0) 1 ((nI nc) + 1)) (ad 0 0) 1)) = .int ((nI nc) + 1)]) rfl ⟨rfl, (hF.o 0), congrArg Value.int nc1, (hF.o 0), (hF.o 0), congrArg Value.int (up2_s _ _ _ _), trivial⟩ ?_
  refine go_iret rfl rfl ?_
  refine K _ _ hM.1 rfl (fun R2 h2 => ?_)
  show Go 1311 191 0 0 0 [.ref (ad 10 0), .int (nI p1), .int 1, .int (nI p2), .int (nI p3)] [] (mm M (up2 (mI M) (ad 0 0) 1 ((nI nc) + 1)) (mJ M)) R2
  refine go_blk 5 [some (.int 0)] (pc' := 9) (vs' := [.ref (ad 10 0), .int (nI p1), .int 1, .int (nI p2), .int (nI p3)]) (st' := [.int 0]) (M' := mm M (up2 (up2 (mI M) (ad 0 0) 1 ((nI nc) + 1)) (ad 10 0) 0 0) (mJ M)) (ps := [ob (mm M (up2 (mI M) (ad 0 0) 1 ((nI nc) + 1)) (mJ M)) (ad 10 0) 12, ob (mm M (up2 (up2 (mI M) (ad 0 0) 1 ((nI nc) + 1)) (ad 10 0) 0 0) (mJ M)) (ad 10 0) 12, (Value.int ((up2 (up2 (mI M) (ad 0 0) 1 ((nI nc) + 1)) (ad 10 0) 0 0) (ad 10 0) 21)) = .int 0]) rfl ⟨hM.1, hM.1, congrArg Value.int (((up2_n _ _ (fun z => absurd z.2 (by decide))).trans ((up2_n _ _ (fun z => absurd (hi _ _ _ _ z.1).1 (by decide))).trans (rfl))).trans op2), trivial⟩ ?_
  refine go_if rfl (fun (z : ¬ (0 : Int32) = 0) => absurd z (show ¬ (¬ (0 : Int32) = 0) from (by decide))) (fun _ => ?_)
  refine go_blk 3 [some (.int (nI nc))] (pc' := 18) (vs' := [.ref (ad 10 0), .int (nI p1), .int 1, .int (nI p2), .int (nI p3)]) (st' := [.int 7, .int (nI nc)]) (M' := mm M (up2 (up2 (mI M) (ad 0 0) 1 ((nI nc) + 1)) (ad 10 0) 0 0) (mJ M)) (ps := [ob (mm M (up2 (up2 (mI M) (ad 0 0) 1 ((nI nc) + 1)) (ad 10 0) 0 0) (mJ M)) (ad 10 0) 12, (Value.int ((up2 (up2 (mI M) (ad 0 0) 1 ((nI nc) + 1)) (ad 10 0) 0 0) (ad 10 0) 17)) = .int (nI nc)]) rfl ⟨hM.1, congrArg Value.int (((up2_n _ _ (fun z => absurd z.2 (by decide))).trans ((up2_n _ _ (fun z => absurd (hi _ _ _ _ z.1).1 (by decide))).trans (rfl))).trans nc2), trivial⟩ ?_
  refine go_icmp rfl (fun (z : (nI nc) = 7) => absurd z (show ¬ ((nI nc) = 7) from hn7)) (fun _ => ?_)
  refine go_blk 3 [] (pc' := 25) (vs' := [.ref (ad 10 0), .int (nI p1), .int 1, .int (nI p2), .int (nI p3)]) (st' := [.int 12, .int 1, .int (nI p1)]) (M' := mm M (up2 (up2 (mI M) (ad 0 0) 1 ((nI nc) + 1)) (ad 10 0) 0 0) (mJ M)) (ps := []) rfl trivial ?_
  refine go_callS rfl (by decide) rfl rfl (by omega) rfl (by decide) (by decide) ?_
  refine s_Mo_isInK 1 12 (by decide) (by decide) (fun j1 hl1 hj1 hx1 => ⟨ne_i, ?_⟩) (fun c1 => ⟨ne_i, ?_⟩)
  · -- 1
    show Go 1311 191 0 0 28 [.ref (ad 10 0), .int (nI p1), .int 1, .int (nI p2), .int (nI p3)] [.int 1] (mm M (up2 (up2 (mI M) (ad 0 0) 1 ((nI nc) + 1)) (ad 10 0) 0 0) (mJ M)) R2
    refine go_if rfl (fun (z : (1 : Int32) = 0) => absurd z (show ¬ ((1 : Int32) = 0) from (by decide))) (fun _ => ?_)
    refine go_blk 3 [] (pc' := 36) (vs' := [.ref (ad 10 0), .int (nI p1), .int 1, .int (nI p2), .int (nI p3)]) (st' := [.int 2000, .int 1, .int (nI p2)]) (M' := mm M (up2 (up2 (mI M) (ad 0 0) 1 ((nI nc) + 1)) (ad 10 0) 0 0) (mJ M)) (ps := []) rfl trivial ?_
    refine go_callS rfl (by decide) rfl rfl (by omega) rfl (by decide) (by decide) ?_
    refine s_Mo_isInK 1 2000 (by decide) (by decide) (fun j2 hl2 hj2 hx2 => ⟨ne_i, ?_⟩) (fun c2 => ⟨ne_i, ?_⟩)
    · -- 1
      show Go 1311 191 0 0 39 [.ref (ad 10 0), .int (nI p1), .int 1, .int (nI p2), .int (nI p3)] [.int 1] (mm M (up2 (up2 (mI M) (ad 0 0) 1 ((nI nc) + 1)) (ad 10 0) 0 0) (mJ M)) R2
      refine go_if rfl (fun (z : (1 : Int32) = 0) => absurd z (show ¬ ((1 : Int32) = 0) from (by decide))) (fun _ => ?_)
      refine go_blk 3 [] (pc' := 49) (vs' := [.ref (ad 10 0), .int (nI p1), .int 1, .int (nI p2), .int (nI p3)]) (st' := [.int 240, .int 10, .int (nI p3)]) (M' := mm M (up2 (up2 (mI M) (ad 0 0) 1 ((nI nc) + 1)) (ad 10 0) 0 0) (mJ M)) (ps := []) rfl trivial ?_
      refine go_callS rfl (by decide) rfl rfl (by omega) rfl (by decide) (by decide) ?_
      refine s_Mo_isInK 10 240 (by decide) (by decide) (fun j3 hl3 hj3 hx3 => ⟨ne_i, ?_⟩) (fun c3 => ⟨ne_i, ?_⟩)
      · -- 1
        show Go 1311 191 0 0 52 [.ref (ad 10 0), .int (nI p1), .int 1, .int (nI p2), .int (nI p3)] [.int 1] (mm M (up2 (up2 (mI M) (ad 0 0) 1 ((nI nc) + 1)) (ad 10 0) 0 0) (mJ M)) R2
        refine go_if rfl (fun _ => ?_) (fun (z : ¬ (¬ (1 : Int32) = 0)) => absurd (show ¬ (1 : Int32) = 0 from (by decide)) z)
        refine go_blk 34 [some (.ref (ad 9 1)), some (.int (nI nc)), some (.ref (ad 9 4)), some (.int (nI nc)), some (.ref (ad 9 2)), some (.int (nI nc)), some (.ref (ad 9 3)), some (.int (nI nc)), some (.int (nI nc)), some (.int ((nI nc) + 1))] (pc' := 114) (vs' := [.ref (ad 10 0), .int (nI p1), .int 1, .int (nI p2), .int (nI p3)]) (st' := [.int (((nI nc) + 1) - 1)]) (M' := mm M (up2 (up2 (up2 (up2 (up2 (up2 (up2 (mI M) (ad 0 0) 1 ((nI nc) + 1)) (ad 10 0) 0 0) (ad 9 1) ((nI nc).toNatClampNeg) (nI p1)) (ad 9 4) ((nI nc).toNatClampNeg) 1) (ad 9 2) ((nI nc).toNatClampNeg) (nI p2)) (ad 9 3) ((nI nc).toNatClampNeg) (nI p3)) (ad 10 0) 17 ((nI nc) + 1)) (mJ M)) (ps := [ob (mm M (up2 (up2 (mI M) (ad 0 0) 1 ((nI nc) + 1)) (ad 10 0) 0 0) (mJ M)) (ad 10 0) 12, mR (mm M (up2 (up2 (mI M) (ad 0 0) 1 ((nI nc) + 1)) (ad 10 0) 0 0) (mJ M)) (ad 10 0) 1 = some (ad 9 1), va_rf (some (ad 9 1)) = .ref (ad 9 1), ob (mm M (up2 (up2 (mI M) (ad 0 0) 1 ((nI nc) + 1)) (ad 10 0) 0 0) (mJ M)) (ad 10 0) 12, (Value.int ((up2 (up2 (mI M) (ad 0 0) 1 ((nI nc) + 1)) (ad 10 0) 0 0) (ad 10 0) 17)) = .int (nI nc), ob (mm M (up2 (up2 (mI M) (ad 0 0) 1 ((nI nc) + 1)) (ad 10 0) 0 0) (mJ M)) (ad 9 1) 15, vp_in (nI nc) (mN (mm M (up2 (up2 (mI M) (ad 0 0) 1 ((nI nc) + 1)) (ad 10 0) 0 0) (mJ M)) (ad 9 1)), ob (mm M (up2 (up2 (up2 (mI M) (ad 0 0) 1 ((nI nc) + 1)) (ad 10 0) 0 0) (ad 9 1) ((nI nc).toNatClampNeg) (nI p1)) (mJ M)) (ad 10 0) 12, mR (mm M (up2 (up2 (up2 (mI M) (ad 0 0) 1 ((nI nc) + 1)) (ad 10 0) 0 0) (ad 9 1) ((nI nc).toNatClampNeg) (nI p1)) (mJ M)) (ad 10 0) 4 = some (ad 9 4), va_rf (some (ad 9 4)) = .ref (ad 9 4), ob (mm M (up2 (up2 (up2 (mI M) (ad 0 0) 1 ((nI nc) + 1)) (ad 10 0) 0 0) (ad 9 1) ((nI nc).toNatClampNeg) (nI p1)) (mJ M)) (ad 10 0) 12, (Value.int ((up2 (up2 (up2 (mI M) (ad 0 0) 1 ((nI nc) + 1)) (ad 10 0) 0 0) (ad 9 1) ((nI nc).toNatClampNeg) (nI p1)) (ad 10 0) 17)) = .int (nI nc), ob (mm M (up2 (up2 (up2 (mI M) (ad 0 0) 1 ((nI nc) + 1)) (ad 10 0) 0 0) (ad 9 1) ((nI nc).toNatClampNeg) (nI p1)) (mJ M)) (ad 9 4) 13, vp_in (nI nc) (mN (mm M (up2 (up2 (up2 (mI M) (ad 0 0) 1 ((nI nc) + 1)) (ad 10 0) 0 0) (ad 9 1) ((nI nc).toNatClampNeg) (nI p1)) (mJ M)) (ad 9 4)), ob (mm M (up2 (up2 (up2 (up2 (mI M) (ad 0 0) 1 ((nI nc) + 1)) (ad 10 0) 0 0) (ad 9 1) ((nI nc).toNatClampNeg) (nI p1)) (ad 9 4) ((nI nc).toNatClampNeg) 1) (mJ M)) (ad 10 0) 12, mR (mm M (up2 (up2 (up2 (up2 (mI M) (ad 0 0) 1 ((nI nc) + 1)) (ad 10 0) 0 0) (ad 9 1) ((nI nc).toNatClampNeg) (nI p1)) (ad 9 4) ((nI nc).toNatClampNeg) 1) (mJ M)) (ad 10 0) 2 = some (ad 9 2), va_rf (some (ad 9 2)) = .ref (ad 9 2), ob (mm M (up2 (up2 (up2 (up2 (mI M) (ad 0 0) 1 ((nI nc) + 1)) (ad 10 0) 0 0) (ad 9 1) ((nI nc).toNatClampNeg) (nI p1)) (ad 9 4) ((nI nc).toNatClampNeg) 1) (mJ M)) (ad 10 0) 12, (Value.int ((up2 (up2 (up2 (up2 (mI M) (ad 0 0) 1 ((nI nc) + 1)) (ad 10 0) 0 0) (ad 9 1) ((nI nc).toNatClampNeg) (nI p1)) (ad 9 4) ((nI nc).toNatClampNeg) 1) (ad 10 0) 17)) = .int (nI nc), ob (mm M (up2 (up2 (up2 (up2 (mI M) (ad 0 0) 1 ((nI nc) + 1)) (ad 10 0) 0 0) (ad 9 1) ((nI nc).toNatClampNeg) (nI p1)) (ad 9 4) ((nI nc).toNatClampNeg) 1) (mJ M)) (ad 9 2) 15, vp_in (nI nc) (mN (mm M (up2 (up2 (up2 (up2 (mI M) (ad 0 0) 1 ((nI nc) + 1)) (ad 10 0) 0 0) (ad 9 1) ((nI nc).toNatClampNeg) (nI p1)) (ad 9 4) ((nI nc).toNatClampNeg) 1) (mJ M)) (ad 9 2)), ob (mm M (up2 (up2 (up2 (up2 (up2 (mI M) (ad 0 0) 1 ((nI nc) + 1)) (ad 10 0) 0 0) (ad 9 1) ((nI nc).toNatClampNeg) (nI p1)) (ad 9 4) ((nI nc).toNatClampNeg) 1) (ad 9 2) ((nI nc).toNatClampNeg) (nI p2)) (mJ M)) (ad 10 0) 12, mR (mm M (up2 (up2 (up2 (up2 (up2 (mI M) (ad 0 0) 1 ((nI nc) + 1)) (ad 10 0) 0 0) (ad 9 1) ((nI nc).toNatClampNeg) (nI p1)) (ad 9 4) ((nI nc).toNatClampNeg) 1) (ad 9 2) ((nI nc).toNatClampNeg) (nI p2)) (mJ M)) (ad 10 0) 3 = some (ad 9 3), va_rf (some (ad 9 3)) = .ref (ad 9 3), ob (mm M (up2 (up2 (up2 (up2 (up2 (mI M) (ad 0 0) 1 ((nI nc) + 1)) (ad 10 0) 0 0) (ad 9 1) ((nI nc).toNatClampNeg) (nI p1)) (ad 9 4) ((nI nc).toNatClampNeg) 1) (ad 9 2) ((nI nc).toNatClampNeg) (nI p2)) (mJ M)) (ad 10 0) 12, (Value.int ((up2 (up2 (up2 (up2 (up2 (mI M) (ad 0 0) 1 ((nI nc) + 1)) (ad 10 0) 0 0) (ad 9 1) ((nI nc).toNatClampNeg) (nI p1)) (ad 9 4) ((nI nc).toNatClampNeg) 1) (ad 9 2) ((nI nc).toNatClampNeg) (nI p2)) (ad 10 0) 17)) = .int (nI nc), ob (mm M (up2 (up2 (up2 (up2 (up2 (mI M) (ad 0 0) 1 ((nI nc) + 1)) (ad 10 0) 0 0) (ad 9 1) ((nI nc).toNatClampNeg) (nI p1)) (ad 9 4) ((nI nc).toNatClampNeg) 1) (ad 9 2) ((nI nc).toNatClampNeg) (nI p2)) (mJ M)) (ad 9 3) 15, vp_in (nI nc) (mN (mm M (up2 (up2 (up2 (up2 (up2 (mI M) (ad 0 0) 1 ((nI nc) + 1)) (ad 10 0) 0 0) (ad 9 1) ((nI nc).toNatClampNeg) (nI p1)) (ad 9 4) ((nI nc).toNatClampNeg) 1) (ad 9 2) ((nI nc).toNatClampNeg) (nI p2)) (mJ M)) (ad 9 3)), (.ref (ad 10 0) : Value).category = 1, ob (mm M (up2 (up2 (up2 (up2 (up2 (up2 (mI M) (ad 0 0) 1 ((nI nc) + 1)) (ad 10 0) 0 0) (ad 9 1) ((nI nc).toNatClampNeg) (nI p1)) (ad 9 4) ((nI nc).toNatClampNeg) 1) (ad 9 2) ((nI nc).toNatClampNeg) (nI p2)) (ad 9 3) ((nI nc).toNatClampNeg) (nI p3)) (mJ M)) (ad 10 0) 12, (Value.int ((up2 (up2 (up2 (up2 (up2 (up2 (mI M) (ad 0 0) 1 ((nI nc) + 1)) (ad 10 0) 0 0) (ad 9 1) ((nI nc).toNatClampNeg) (nI p1)) (ad 9 4) ((nI nc).toNatClampNeg) 1) (ad 9 2) ((nI nc).toNatClampNeg) (nI p2)) (ad 9 3) ((nI nc).toNatClampNeg) (nI p3)) (ad 10 0) 17)) = .int (nI nc), ob (mm M (up2 (up2 (up2 (up2 (up2 (up2 (mI M) (ad 0 0) 1 ((nI nc) + 1)) (ad 10 0) 0 0) (ad 9 1) ((nI nc).toNatClampNeg) (nI p1)) (ad 9 4) ((nI nc).toNatClampNeg) 1) (ad 9 2) ((nI nc).toNatClampNeg) (nI p2)) (ad 9 3) ((nI nc).toNatClampNeg) (nI p3)) (mJ M)) (ad 10 0) 12, ob (mm M (up2 (up2 (up2 (up2 (up2 (up2 (up2 (mI M) (ad 0 0) 1 ((nI nc) + 1)) (ad 10 0) 0 0) (ad 9 1) ((nI nc).toNatClampNeg) (nI p1)) (ad 9 4) ((nI nc).toNatClampNeg) 1) (ad 9 2) ((nI nc).toNatClampNeg) (nI p2)) (ad 9 3) ((nI nc).toNatClampNeg) (nI p3)) (ad 10 0) 17 ((nI nc) + 1)) (mJ M)) (ad 10 0) 12, (Value.int ((up2 (up2 (up2 (up2 (up2 (up2 (up2 (mI M) (ad 0 0) 1 ((nI nc) + 1)) (ad 10 0) 0 0) (ad 9 1) ((nI nc).toNatClampNeg) (nI p1)) (ad 9 4) ((nI nc).toNatClampNeg) 1) (ad 9 2) ((nI nc).toNatClampNeg) (nI p2)) (ad 9 3) ((nI nc).toNatClampNeg) (nI p3)) (ad 10 0) 17 ((nI nc) + 1)) (ad 10 0) 17)) = .int ((nI nc) + 1)]) rfl ⟨hM.1, (hM.r 1 15 7), rfl, hM.1, congrArg Value.int (((up2_n _ _ (fun z => absurd z.2 (by decide))).trans ((up2_n _ _ (fun z => absurd (hi _ _ _ _ z.1).1 (by decide))).trans (rfl))).trans nc2), (hM.o 1 15 7), (vpi (hM.n 1 15 7) (by omega)), hM.1, (hM.r 4 13 7), rfl, hM.1, congrArg Value.int (((up2_n _ _ (fun z => absurd (hi _ _ _ _ z.1).1 (by decide))).trans ((up2_n _ _ (fun z => absurd z.2 (by decide))).trans ((up2_n _ _ (fun z => absurd (hi _ _ _ _ z.1).1 (by decide))).trans (rfl)))).trans nc2), (hM.o 4 13 7), (vpi (hM.n 4 13 7) (by omega)), hM.1, (hM.r 2 15 7), rfl, hM.1, congrArg Value.int (((up2_n _ _ (fun z => absurd (hi _ _ _ _ z.1).1 (by decide))).trans ((up2_n _ _ (fun z => absurd (hi _ _ _ _ z.1).1 (by decide))).trans ((up2_n _ _ (fun z => absurd z.2 (by decide))).trans ((up2_n _ _ (fun z => absurd (hi _ _ _ _ z.1).1 (by decide))).trans (rfl))))).trans nc2), (hM.o 2 15 7), (vpi (hM.n 2 15 7) (by omega)), hM.1, (hM.r 3 15 7), rfl, hM.1, congrArg Value.int (((up2_n _ _ (fun z => absurd (hi _ _ _ _ z.1).1 (by decide))).trans ((up2_n _ _ (fun z => absurd (hi _ _ _ _ z.1).1 (by decide))).trans ((up2_n _ _ (fun z => absurd (hi _ _ _ _ z.1).1 (by decide))).trans ((up2_n _ _ (fun z => absurd z.2 (by decide))).trans ((up2_n _ _ (fun z => absurd (hi _ _ _ _ z.1).1 (by decide))).trans (rfl)))))).trans nc2), (hM.o 3 15 7), (vpi (hM.n 3 15 7) (by omega)), rfl, hM.1, congrArg Value.int (((up2_n _ _ (fun z => absurd (hi _ _ _ _ z.1).1 (by decide))).trans ((up2_n _ _ (fun z => absurd (hi _ _ _ _ z.1).1 (by decide))).trans ((up2_n _ _ (fun z => absurd (hi _ _ _ _ z.1).1 (by decide))).trans ((up2_n _ _ (fun z => absurd (hi _ _ _ _ z.1).1 (by decide))).trans ((up2_n _ _ (fun z => absurd z.2 (by decide))).trans ((up2_n _ _ (fun z => absurd (hi _ _ _ _ z.1).1 (by decide))).trans (rfl))))))).trans nc2), hM.1, hM.1, congrArg Value.int (up2_s _ _ _ _), trivial⟩ ?_
        rw [nI_clamp (n := nc) (by omega)]
        refine go_iret rfl rfl ?_
        have ch : ∀ t i k, ¬ ((t = 0 ∧ i = 0 ∧ k = 1) ∨ (t = 10 ∧ i = 0 ∧ k = 0) ∨ (t = 9 ∧ i = 1 ∧ k = nc) ∨ (t = 9 ∧ i = 4 ∧ k = nc) ∨ (t = 9 ∧ i = 2 ∧ k = nc) ∨ (t = 9 ∧ i = 3 ∧ k = nc) ∨ (t = 10 ∧ i = 0 ∧ k = 17)) → vw ad (up2 (up2 (up2 (up2 (up2 (up2 (up2 (mI M) (ad 0 0) 1 ((nI nc) + 1)) (ad 10 0) 0 0) (ad 9 1) (nc) (nI p1)) (ad 9 4) (nc) 1) (ad 9 2) (nc) (nI p2)) (ad 9 3) (nc) (nI p3)) (ad 10 0) 17 ((nI nc) + 1)) t i k = vw ad (mI M) t i k := by
          intro t i k hn
          simp only [vw_up2 hi]
          rw [up3_n _ _ (by omega), up3_n _ _ (by omega), up3_n _ _ (by omega), up3_n _ _ (by omega), up3_n _ _ (by omega), up3_n _ _ (by omega), up3_n _ _ (by omega)]
        have chj : ∀ t i k, ¬ ((t = 1000 ∧ i = 0 ∧ k = 0)) → vw ad (mJ M) t i k = vw ad (mJ M) t i k := by
          intro t i k hn
          rfl
        have eJ1 : eJ nb (vw ad (mI M)) (vw ad (up2 (up2 (up2 (up2 (up2 (up2 (up2 (mI M) (ad 0 0) 1 ((nI nc) + 1)) (ad 10 0) 0 0) (ad 9 1) (nc) (nI p1)) (ad 9 4) (nc) 1) (ad 9 2) (nc) (nI p2)) (ad 9 3) (nc) (nI p3)) (ad 10 0) 17 ((nI nc) + 1))) := fun i k h => ch 9 i k (by omega)
        have qa : vw ad (up2 (up2 (up2 (up2 (up2 (up2 (up2 (mI M) (ad 0 0) 1 ((nI nc) + 1)) (ad 10 0) 0 0) (ad 9 1) (nc) (nI p1)) (ad 9 4) (nc) 1) (ad 9 2) (nc) (nI p2)) (ad 9 3) (nc) (nI p3)) (ad 10 0) 17 ((nI nc) + 1)) 0 0 1 = nI (nc + 1) := by simp only [vw_up2 hi]; simp [up3]; exact nI_add nc 1
        have qb : vw ad (up2 (up2 (up2 (up2 (up2 (up2 (up2 (mI M) (ad 0 0) 1 ((nI nc) + 1)) (ad 10 0) 0 0) (ad 9 1) (nc) (nI p1)) (ad 9 4) (nc) 1) (ad 9 2) (nc) (nI p2)) (ad 9 3) (nc) (nI p3)) (ad 10 0) 17 ((nI nc) + 1)) 10 0 17 = nI (nc + 1) := by simp only [vw_up2 hi]; simp [up3]; exact nI_add nc 1
        have q91 : vw ad (up2 (up2 (up2 (up2 (up2 (up2 (up2 (mI M) (ad 0 0) 1 ((nI nc) + 1)) (ad 10 0) 0 0) (ad 9 1) (nc) (nI p1)) (ad 9 4) (nc) 1) (ad 9 2) (nc) (nI p2)) (ad 9 3) (nc) (nI p3)) (ad 10 0) 17 ((nI nc) + 1)) 9 1 nc = nI p1 := by simp only [vw_up2 hi]; simp [up3]
        have q94 : vw ad (up2 (up2 (up2 (up2 (up2 (up2 (up2 (mI M) (ad 0 0) 1 ((nI nc) + 1)) (ad 10 0) 0 0) (ad 9 1) (nc) (nI p1)) (ad 9 4) (nc) 1) (ad 9 2) (nc) (nI p2)) (ad 9 3) (nc) (nI p3)) (ad 10 0) 17 ((nI nc) + 1)) 9 4 nc = 1 := by simp only [vw_up2 hi]; simp [up3]
        have q92 : vw ad (up2 (up2 (up2 (up2 (up2 (up2 (up2 (mI M) (ad 0 0) 1 ((nI nc) + 1)) (ad 10 0) 0 0) (ad 9 1) (nc) (nI p1)) (ad 9 4) (nc) 1) (ad 9 2) (nc) (nI p2)) (ad 9 3) (nc) (nI p3)) (ad 10 0) 17 ((nI nc) + 1)) 9 2 nc = nI p2 := by simp only [vw_up2 hi]; simp [up3]
        have q93 : vw ad (up2 (up2 (up2 (up2 (up2 (up2 (up2 (mI M) (ad 0 0) 1 ((nI nc) + 1)) (ad 10 0) 0 0) (ad 9 1) (nc) (nI p1)) (ad 9 4) (nc) 1) (ad 9 2) (nc) (nI p2)) (ad 9 3) (nc) (nI p3)) (ad 10 0) 17 ((nI nc) + 1)) 9 3 nc = nI p3 := by simp only [vw_up2 hi]; simp [up3]
        have q10 : vw ad (up2 (up2 (up2 (up2 (up2 (up2 (up2 (mI M) (ad 0 0) 1 ((nI nc) + 1)) (ad 10 0) 0 0) (ad 9 1) (nc) (nI p1)) (ad 9 4) (nc) 1) (ad 9 2) (nc) (nI p2)) (ad 9 3) (nc) (nI p3)) (ad 10 0) 17 ((nI nc) + 1)) 1 nc 0 = nI p1 := (ch 1 nc 0 (by omega)).trans h0
        have q11 : vw ad (up2 (up2 (up2 (up2 (up2 (up2 (up2 (mI M) (ad 0 0) 1 ((nI nc) + 1)) (ad 10 0) 0 0) (ad 9 1) (nc) (nI p1)) (ad 9 4) (nc) 1) (ad 9 2) (nc) (nI p2)) (ad 9 3) (nc) (nI p3)) (ad 10 0) 17 ((nI nc) + 1)) 1 nc 1 = 1 := (ch 1 nc 1 (by omega)).trans h1
        have q12 : vw ad (up2 (up2 (up2 (up2 (up2 (up2 (up2 (mI M) (ad 0 0) 1 ((nI nc) + 1)) (ad 10 0) 0 0) (ad 9 1) (nc) (nI p1)) (ad 9 4) (nc) 1) (ad 9 2) (nc) (nI p2)) (ad 9 3) (nc) (nI p3)) (ad 10 0) 17 ((nI nc) + 1)) 1 nc 2 = nI p3 := (ch 1 nc 2 (by omega)).trans h2c
        have q13 : vw ad (up2 (up2 (up2 (up2 (up2 (up2 (up2 (mI M) (ad 0 0) 1 ((nI nc) + 1)) (ad 10 0) 0 0) (ad 9 1) (nc) (nI p1)) (ad 9 4) (nc) 1) (ad 9 2) (nc) (nI p2)) (ad 9 3) (nc) (nI p3)) (ad 10 0) 17 ((nI nc) + 1)) 1 nc 3 = nI p2 := (ch 1 nc 3 (by omega)).trans h3c
        have q15 : vw ad (up2 (up2 (up2 (up2 (up2 (up2 (up2 (mI M) (ad 0 0) 1 ((nI nc) + 1)) (ad 10 0) 0 0) (ad 9 1) (nc) (nI p1)) (ad 9 4) (nc) 1) (ad 9 2) (nc) (nI p2)) (ad 9 3) (nc) (nI p3)) (ad 10 0) 17 ((nI nc) + 1)) 1 nc 5 = (-1) := (ch 1 nc 5 (by omega)).trans h5
        have q16 : vw ad (up2 (up2 (up2 (up2 (up2 (up2 (up2 (mI M) (ad 0 0) 1 ((nI nc) + 1)) (ad 10 0) 0 0) (ad 9 1) (nc) (nI p1)) (ad 9 4) (nc) 1) (ad 9 2) (nc) (nI p2)) (ad 9 3) (nc) (nI p3)) (ad 10 0) 17 ((nI nc) + 1)) 1 nc 6 = (-1) := (ch 1 nc 6 (by omega)).trans h6
        have q17 : vw ad (up2 (up2 (up2 (up2 (up2 (up2 (up2 (mI M) (ad 0 0) 1 ((nI nc) + 1)) (ad 10 0) 0 0) (ad 9 1) (nc) (nI p1)) (ad 9 4) (nc) 1) (ad 9 2) (nc) (nI p2)) (ad 9 3) (nc) (nI p3)) (ad 10 0) 17 ((nI nc) + 1)) 1 nc 7 = (-1) := (ch 1 nc 7 (by omega)).trans h7
        refine h2 _ ⟨hsc, ad, (nc + 1), nb, nt, wk, nw, nx, nl, ne, nk, kd, false, rfl, rfl, rfl, hi, ⟨hF, hM, hC2, hB, hT, hX⟩, ⟨iS.nc1 hn (fun t k h => ch t 0 k (by omega)) qa qb, iC.nc1 hn (fun t i k h => ch t i k (by omega)) (fun c hc => chj 1 c 4 (by omega)) ⟨⟨q10.trans q91.symm, q11.trans q94.symm, q12.trans q93.symm, q13.trans q92.symm⟩, ⟨p1, g1, g2, q91⟩, Or.inr q94, ⟨p3, g5, g6, q93⟩, ⟨p2, g3, g4, q92⟩⟩ ((chj 1 nc 4 (by omega)).trans h4), (iB.congr (fun t i k h => ch t i k (by omega))).ncm (by omega), iR.congr (fun t i k h => ch t i k (by omega)), iL.congr (fun t i k h => ch t i k (by omega)), (iT.congr (fun t i k h => ch t i k (by omega))).ncm (by omega)⟩, ⟨jO.congr eJ1 (fun b k _ _ _ => ch 6 b k (by omega)), (jR.congr eJ1).sh, (jB.congr nb3 (fun t i k h => ch t i k (by omega))).ncm (by omega), jX.congr (fun t i k h => ch t i k (by omega)), jL.congr eJ1 (fun b k _ _ _ => ch 6 b k (by omega)) (fun t i k h => ch t i k (by omega))⟩, kO.congr iB wk3 (fun t i k h => ch t i k (by omega)) (fun b _ _ => ch 6 b 8 (by omega)), (kC.congr (fun t i k h => ch t i k (by omega)) ⟨chj 0 0 12 (by omega), chj 10 0 99 (by omega)⟩).nc1 (fun s g1 g2 => by rcases (show s = 5 ∨ s = 6 ∨ s = 7 by omega) with rfl | rfl | rfl; exact q15; exact q16; exact q17), IDy.sh (nt' := nt) (nc' := nc), (kP.congr eJ1 (fun i k h => ch 9 i k (by have := ppS_sp h; omega)) ⟨ch 10 0 31 (by omega), ch 0 7 19 (by omega), ch 0 7 2 (by omega), ch 0 7 4 (by omega), fun t => ch 0 30 t (by omega)⟩ (chj 0 7 17 (by omega))).sh, kX.congr (fun t i k h => ch t i k (by omega))⟩
      · exact absurd ⟨p3, g5, g6, rfl⟩ c3
    · exact absurd ⟨p2, g3, g4, rfl⟩ c2
  · exact absurd ⟨p1, g1, g2, rfl⟩ c1

set_option maxHeartbeats 20000000 in
set_option maxRecDepth 100000 in
theorem op0 {x o u : Nat} {sc : Nat × Nat × (Nat → Int32)} : Op0 (II x o u sc) x o := by
  intro M a1 a2 a3 a4 hI hz0 R K
  obtain ⟨hsc, ad, nc, nb, nt, wk, nw, nx, nl, ne, nk, kd, op, rfl, rfl, rfl, hW⟩ := hI
  obtain ⟨hi, ⟨hF, hM, hC, hB, hT, hX⟩, ⟨iS, iC, iB, iR, iL, iT⟩, ⟨jO, jR, jB, jX, jL⟩, kO, kC, kD, kP, kX⟩ := id hW
  obtain ⟨⟨nc1, nc2, nc3⟩, ⟨nb1, nb2, nb3⟩, ⟨nt1, nt2, nt3⟩, ⟨wk1, wk2, wk3⟩, ⟨nw1, nw2, nw3⟩, ⟨op1, op2, op3⟩, ncm, ncm1, ncm2, ncm3⟩ := id iS
  simp only [vw] at nc1 nc2 nb1 nb2 nt1 nt2 wk1 wk2 nw1 nw2 op1 op2 ncm2 ncm3
  obtain ⟨nn, nn3, nn1, nn2, nnb⟩ := jX.2.1
  simp only [vw] at nn1 nn2
  have nl3 := jL.1.2.2.1
  have nx3 := jX.1.2.2
  have nk3 := jB.1.2.2.2.2.1
  have ne3 := jB.1.2.2.2.2.2
  rcases op with _ | _
  · replace op1 : mI M (ad 0 0) 8 = 0 := op1
    replace op2 : mI M (ad 10 0) 21 = 0 := op2
    rcases hz0 with rfl | rfl
    ·
      show Go 1311 116 1 8 0 [.ref (ad 0 0), .int a1, .int 0, .int a3, .int a4, .retAddr 0] [] (mm M (mI M) (mJ M)) R
      refine go_blk 3 [] (pc' := 4) (vs' := [.ref (ad 0 0), .int a1, .int 0, .int a3, .int a4, .retAddr 0]) (st' := [.int 12, .int 1, .int a1]) (M' := mm M (mI M) (mJ M)) (ps := []) rfl trivial ?_
      refine go_callS rfl (by decide) rfl rfl (by omega) rfl (by decide) (by decide) ?_
      refine s_CY_withinK 1 12 (by decide) (by decide) (fun j1 hl1 hj1 hx1 => ⟨ne_i, ?_⟩) (fun c1 => ⟨ne_i, ?_⟩)
      · -- 1
        subst hx1
        show Go 1311 116 1 8 7 [.ref (ad 0 0), .int (nI j1), .int 0, .int a3, .int a4, .retAddr 0] [.int 1] (mm M (mI M) (mJ M)) R
        refine go_if rfl (fun (z : (1 : Int32) = 0) => absurd z (show ¬ ((1 : Int32) = 0) from (by decide))) (fun _ => ?_)
        refine go_blk 3 [] (pc' := 15) (vs' := [.ref (ad 0 0), .int (nI j1), .int 0, .int a3, .int a4, .retAddr 0]) (st' := [.int 2000, .int 1, .int a3]) (M' := mm M (mI M) (mJ M)) (ps := []) rfl trivial ?_
        refine go_callS rfl (by decide) rfl rfl (by omega) rfl (by decide) (by decide) ?_
        refine s_CY_withinK 1 2000 (by decide) (by decide) (fun j2 hl2 hj2 hx2 => ⟨ne_i, ?_⟩) (fun c2 => ⟨ne_i, ?_⟩)
        · -- 1
          subst hx2
          show Go 1311 116 1 8 18 [.ref (ad 0 0), .int (nI j1), .int 0, .int (nI j2), .int a4, .retAddr 0] [.int 1] (mm M (mI M) (mJ M)) R
          refine go_if rfl (fun (z : (1 : Int32) = 0) => absurd z (show ¬ ((1 : Int32) = 0) from (by decide))) (fun _ => ?_)
          refine go_blk 3 [] (pc' := 28) (vs' := [.ref (ad 0 0), .int (nI j1), .int 0, .int (nI j2), .int a4, .retAddr 0]) (st' := [.int 240, .int 10, .int a4]) (M' := mm M (mI M) (mJ M)) (ps := []) rfl trivial ?_
          refine go_callS rfl (by decide) rfl rfl (by omega) rfl (by decide) (by decide) ?_
          refine s_CY_withinK 10 240 (by decide) (by decide) (fun j3 hl3 hj3 hx3 => ⟨ne_i, ?_⟩) (fun c3 => ⟨ne_i, ?_⟩)
          · -- 1
            subst hx3
            show Go 1311 116 1 8 31 [.ref (ad 0 0), .int (nI j1), .int 0, .int (nI j2), .int (nI j3), .retAddr 0] [.int 1] (mm M (mI M) (mJ M)) R
            refine go_if rfl (fun (z : (1 : Int32) = 0) => absurd z (show ¬ ((1 : Int32) = 0) from (by decide))) (fun _ => ?_)
            refine go_blk 4 [] (pc' := 43) (vs' := [.ref (ad 0 0), .int (nI j1), .int 0, .int (nI j2), .int (nI j3), .int 1]) (st' := [.int 1]) (M' := mm M (mI M) (mJ M)) (ps := []) rfl trivial ?_
            refine go_if rfl (fun (z : (1 : Int32) = 0) => absurd z (show ¬ ((1 : Int32) = 0) from (by decide))) (fun _ => ?_)
            refine go_blk 2 [some (.int 0)] (pc' := 50) (vs' := [.ref (ad 0 0), .int (nI j1), .int 0, .int (nI j2), .int (nI j3), .int 1]) (st' := [.int 0]) (M' := mm M (mI M) (mJ M)) (ps := [ob (mm M (mI M) (mJ M)) (ad 0 0) 11, (Value.int ((mI M) (ad 0 0) 8)) = .int 0]) rfl ⟨(hF.o 0), congrArg Value.int op1, trivial⟩ ?_
            refine go_if rfl (fun (z : ¬ (0 : Int32) = 0) => absurd z (show ¬ (¬ (0 : Int32) = 0) from (by decide))) (fun _ => ?_)
            refine go_blk 3 [some (.int (nI nc))] (pc' := 59) (vs' := [.ref (ad 0 0), .int (nI j1), .int 0, .int (nI j2), .int (nI j3), .int 1]) (st' := [.int 7, .int (nI nc)]) (M' := mm M (mI M) (mJ M)) (ps := [ob (mm M (mI M) (mJ M)) (ad 0 0) 11, (Value.int ((mI M) (ad 0 0) 1)) = .int (nI nc)]) rfl ⟨(hF.o 0), congrArg Value.int nc1, trivial⟩ ?_
            refine go_icmp rfl (fun (c4 : (nI nc) < 7) => ?_) (fun (c4 : ¬ ((nI nc) < 7)) => ?_)
            · -- (nI nc) < 7
              have nc4 : nc < 7 := (nI_lts (a := nc) (b := 7) (by omega) (by omega)).mp c4
              refine go_blk 4 [some (.ref (ad 0 1)), some (.int (nI nc))] (pc' := 72) (vs' := [.ref (ad 0 0), .int (nI j1), .int 0, .int (nI j2), .int (nI j3), .int 1]) (st' := [.int (nI nc), .ref (ad 0 1)]) (M' := mm M (mI M) (mJ M)) (ps := [ob (mm M (mI M) (mJ M)) (ad 0 0) 11, mR (mm M (mI M) (mJ M)) (ad 0 0) 0 = some (ad 0 1), va_rf (some (ad 0 1)) = .ref (ad 0 1), ob (mm M (mI M) (mJ M)) (ad 0 0) 11, (Value.int ((mI M) (ad 0 0) 1)) = .int (nI nc)]) rfl ⟨(hF.o 0), (hF.r 0 0 1), rfl, (hF.o 0), congrArg Value.int nc1, trivial⟩ ?_
              refine go_new rfl (by decide) (by decide) (by decide) (fun q hq => ?_)
              have hqu : ∀ t i, Us nc nb nt nx t i → ¬ ad t i = q := fun t i u z => hq (z ▸ hW.at u)
              have hq01 := hqu 0 1 (show 1 < 41 by decide)
              have hqC : ¬ q = ad 0 1 := fun z => hq01 z.symm
              show Go 1311 116 0 0 75 [.ref (ad 0 0), .int (nI j1), .int 0, .int (nI j2), .int (nI j3), .int 1] [.ref q, .int (nI nc), .ref (ad 0 1)] (mm (alO M q 2) (mI (alO M q 2)) (mJ (alO M q 2))) R
              refine go_blk 5 [] (pc' := 81) (vs' := [.ref (ad 0 0), .int (nI j1), .int 0, .int (nI j2), .int (nI j3), .int 1]) (st' := [.int (nI j3), .int (nI j2), .int 0, .int (nI j1), .ref q, .ref q, .int (nI nc), .ref (ad 0 1)]) (M' := mm (alO M q 2) (mI (alO M q 2)) (mJ (alO M q 2))) (ps := [(.ref q : Value).category = 1]) rfl ⟨rfl, trivial⟩ ?_
              refine go_callI rfl (by decide) rfl rfl (by omega) rfl (by first | decide | omega) (by first | decide | omega) ?_
              show Go (1311 - 1) 20 0 0 0 [.ref q, .int (nI j1), .int 0, .int (nI j2), .int (nI j3)] [] (mm (alO M q 2) (mI (alO M q 2)) (mJ (alO M q 2))) _
              refine go_blk 1 [] (pc' := 1) (vs' := [.ref q, .int (nI j1), .int 0, .int (nI j2), .int (nI j3)]) (st' := [.ref q]) (M' := mm (alO M q 2) (mI (alO M q 2)) (mJ (alO M q 2))) (ps := []) rfl trivial ?_
              refine go_obj rfl (by omega) (by decide) ?_
              refine go_blk 21 [] (pc' := 40) (vs' := [.ref q, .int (nI j1), .int 0, .int (nI j2), .int (nI j3)]) (st' := []) (M' := mm (alO M q 2) (up2 (up2 (up2 (up2 (up2 (up2 (up2 (mI (alO M q 2)) q 5 (-1)) q 6 (-1)) q 7 (-1)) q 0 (nI j1)) q 1 0) q 3 (nI j2)) q 2 (nI j3)) (mJ (alO M q 2))) (ps := [ob (mm (alO M q 2) (mI (alO M q 2)) (mJ (alO M q 2))) q 2, ob (mm (alO M q 2) (up2 (mI (alO M q 2)) q 5 (-1)) (mJ (alO M q 2))) q 2, ob (mm (alO M q 2) (up2 (up2 (mI (alO M q 2)) q 5 (-1)) q 6 (-1)) (mJ (alO M q 2))) q 2, ob (mm (alO M q 2) (up2 (up2 (up2 (mI (alO M q 2)) q 5 (-1)) q 6 (-1)) q 7 (-1)) (mJ (alO M q 2))) q 2, ob (mm (alO M q 2) (up2 (up2 (up2 (up2 (mI (alO M q 2)) q 5 (-1)) q 6 (-1)) q 7 (-1)) q 0 (nI j1)) (mJ (alO M q 2))) q 2, 0 = 0 ∨ 0 = 1, ob (mm (alO M q 2) (up2 (up2 (up2 (up2 (up2 (mI (alO M q 2)) q 5 (-1)) q 6 (-1)) q 7 (-1)) q 0 (nI j1)) q 1 0) (mJ (alO M q 2))) q 2, ob (mm (alO M q 2) (up2 (up2 (up2 (up2 (up2 (up2 (mI (alO M q 2)) q 5 (-1)) q 6 (-1)) q 7 (-1)) q 0 (nI j1)) q 1 0) q 3 (nI j2)) (mJ (alO M q 2))) q 2]) rfl ⟨(alO_ob M q 2), (alO_ob M q 2), (alO_ob M q 2), (alO_ob M q 2), (alO_ob M q 2), (Or.inl rfl), (alO_ob M q 2), (alO_ob M q 2), trivial⟩ ?_
              refine go_vret rfl rfl ?_
              refine ⟨rfl, ?_⟩
              show Go 1311 116 0 0 84 [.ref (ad 0 0), .int (nI j1), .int 0, .int (nI j2), .int (nI j3), .int 1] [.ref q, .int (nI nc), .ref (ad 0 1)] (mm (alO M q 2) (up2 (up2 (up2 (up2 (up2 (up2 (up2 (mI (alO M q 2)) q 5 (-1)) q 6 (-1)) q 7 (-1)) q 0 (nI j1)) q 1 0) q 3 (nI j2)) q 2 (nI j3)) (mJ (alO M q 2))) R
              refine go_blk 1 [] (pc' := 85) (vs' := [.ref (ad 0 0), .int (nI j1), .int 0, .int (nI j2), .int (nI j3), .int 1]) (st' := []) (M' := mm (sR (alO M q 2) (ad 0 1) ((nI nc).toNatClampNeg) (some q)) (up2 (up2 (up2 (up2 (up2 (up2 (up2 (mI (alO M q 2)) q 5 (-1)) q 6 (-1)) q 7 (-1)) q 0 (nI j1)) q 1 0) q 3 (nI j2)) q 2 (nI j3)) (mJ (alO M q 2))) (ps := [ob (mm (alO M q 2) (up2 (up2 (up2 (up2 (up2 (up2 (up2 (mI (alO M q 2)) q 5 (-1)) q 6 (-1)) q 7 (-1)) q 0 (nI j1)) q 1 0) q 3 (nI j2)) q 2 (nI j3)) (mJ (alO M q 2))) (ad 0 1) 18, 17 ≤ 18 ∧ 18 < 22, ob (mm (alO M q 2) (up2 (up2 (up2 (up2 (up2 (up2 (up2 (mI (alO M q 2)) q 5 (-1)) q 6 (-1)) q 7 (-1)) q 0 (nI j1)) q 1 0) q 3 (nI j2)) q 2 (nI j3)) (mJ (alO M q 2))) q (zaI.getD (18 - 17) 0), vp_in (nI nc) (mN (mm (alO M q 2) (up2 (up2 (up2 (up2 (up2 (up2 (up2 (mI (alO M q 2)) q 5 (-1)) q 6 (-1)) q 7 (-1)) q 0 (nI j1)) q 1 0) q 3 (nI j2)) q 2 (nI j3)) (mJ (alO M q 2))) (ad 0 1))]) rfl ⟨alO_old (hF.o 1) hq01, (by decide), alO_ob M q 2, (vpi (hF.n 1) (show nc < 7 by omega)), trivial⟩ ?_
              rw [nI_clamp (n := nc) (by omega)]
              have hU : ∀ t i, Us nc nb nt nx t i → swp ad q 1 nc t i = ad t i := fun t i u => swp_old (fun z => by obtain ⟨rfl, rfl⟩ := z; exact absurd u (Nat.lt_irrefl _)) (hqu t i u)
              have hrow : ∀ a, ¬ a = q → (up2 (up2 (up2 (up2 (up2 (up2 (up2 (mI (alO M q 2)) q 5 (-1)) q 6 (-1)) q 7 (-1)) q 0 (nI j1)) q 1 0) q 3 (nI j2)) q 2 (nI j3)) a = mI M a := fun a ha => by rw [up2_row ha, up2_row ha, up2_row ha, up2_row ha, up2_row ha, up2_row ha, up2_row ha]; exact va_up_o ha
              have e11 : swp ad q 1 nc 1 nc = q := swp_new ad q 1 nc
              have e01 : swp ad q 1 nc 0 1 = ad 0 1 := hU 0 1 (show 1 < 41 by decide)
              have hW2 : WI (mm (sR (alO M q 2) (ad 0 1) nc (some q)) (up2 (up2 (up2 (up2 (up2 (up2 (up2 (mI (alO M q 2)) q 5 (-1)) q 6 (-1)) q 7 (-1)) q 0 (nI j1)) q 1 0) q 3 (nI j2)) q 2 (nI j3)) (mJ (alO M q 2))) (swp ad q 1 nc) nc nb nt wk nw nx nl ne nk kd false := by
                refine hW.re (swp_inj hi q 1 nc) hU (fun b hb hj => swp_old (fun z => by omega) (fun z => hq (z ▸ hW.at6 hb hj))) (fun t i u => ?_) (fun b hb hj => ?_) (fun t i k u v => ?_) (fun b k hb hj => ?_)
                · exact ⟨List.mem_append_left _ (hW.at u), va_up_o (hqu t i u), rfl, hrow _ (hqu t i u), va_up_o (hqu t i u)⟩
                · have hz : ¬ ad 6 b = q := fun z => hq (z ▸ hW.at6 hb hj)
                  exact ⟨List.mem_append_left _ (hW.at6 hb hj), va_up_o hz, rfl, hrow _ hz, va_up_o hz⟩
                · show up2 (va_up (mR M) q (fun _ => none)) (ad 0 1) nc (some q) (ad t i) k = mR M (ad t i) k
                  rw [up2_n _ _ (fun z => v (by obtain ⟨z1, z2⟩ := hi _ _ _ _ z.1; unfold Xr; omega)), va_up_o (hqu t i u)]
                · have hz : ¬ ad 6 b = q := fun z => hq (z ▸ hW.at6 hb hj)
                  show up2 (va_up (mR M) q (fun _ => none)) (ad 0 1) nc (some q) (ad 6 b) k = mR M (ad 6 b) k
                  rw [up2_n _ _ (fun z => absurd (hi _ _ _ _ z.1).1 (by decide)), va_up_o hz]
              refine op0c0 (ad := swp ad q 1 nc) (p1 := j1) (p2 := j2) (p3 := j3) (hU 0 0 (show 0 < 41 by decide)) (hU 10 0 rfl) (hU 0 40 (show 40 < 41 by decide)) hsc hW2 (by omega) (by assumption) (by assumption) (by assumption) (by assumption) (by assumption) (by assumption) ?_ ?_ ?_ ?_ ?_ ?_ ?_ ?_ ?_ ?_ K
              · rw [e11]; exact alO_ob M q 2
              · rw [e11, e01]; show up2 (va_up (mR M) q (fun _ => none)) (ad 0 1) nc (some q) (ad 0 1) nc = some q; exact up2_s _ _ _ _
              · rw [e11]; show (up2 (up2 (up2 (up2 (up2 (up2 (up2 (mI (alO M q 2)) q 5 (-1)) q 6 (-1)) q 7 (-1)) q 0 (nI j1)) q 1 0) q 3 (nI j2)) q 2 (nI j3)) q 0 = _; simp [up2]
              · rw [e11]; show (up2 (up2 (up2 (up2 (up2 (up2 (up2 (mI (alO M q 2)) q 5 (-1)) q 6 (-1)) q 7 (-1)) q 0 (nI j1)) q 1 0) q 3 (nI j2)) q 2 (nI j3)) q 1 = _; simp [up2]
              · rw [e11]; show (up2 (up2 (up2 (up2 (up2 (up2 (up2 (mI (alO M q 2)) q 5 (-1)) q 6 (-1)) q 7 (-1)) q 0 (nI j1)) q 1 0) q 3 (nI j2)) q 2 (nI j3)) q 2 = _; simp [up2]
              · rw [e11]; show (up2 (up2 (up2 (up2 (up2 (up2 (up2 (mI (alO M q 2)) q 5 (-1)) q 6 (-1)) q 7 (-1)) q 0 (nI j1)) q 1 0) q 3 (nI j2)) q 2 (nI j3)) q 3 = _; simp [up2]
              · rw [e11]; show (up2 (up2 (up2 (up2 (up2 (up2 (up2 (mI (alO M q 2)) q 5 (-1)) q 6 (-1)) q 7 (-1)) q 0 (nI j1)) q 1 0) q 3 (nI j2)) q 2 (nI j3)) q 5 = _; simp [up2]
              · rw [e11]; show (up2 (up2 (up2 (up2 (up2 (up2 (up2 (mI (alO M q 2)) q 5 (-1)) q 6 (-1)) q 7 (-1)) q 0 (nI j1)) q 1 0) q 3 (nI j2)) q 2 (nI j3)) q 6 = _; simp [up2]
              · rw [e11]; show (up2 (up2 (up2 (up2 (up2 (up2 (up2 (mI (alO M q 2)) q 5 (-1)) q 6 (-1)) q 7 (-1)) q 0 (nI j1)) q 1 0) q 3 (nI j2)) q 2 (nI j3)) q 7 = _; simp [up2]
              · rw [e11]; show va_up (mJ M) q (fun _ => 0) q 4 = 0; simp [va_up]
              
              
            · -- ¬ ((nI nc) < 7)
              have nc4 : 7 ≤ nc := (nI_les (a := 7) (b := nc) (by omega) (by omega)).mp (Int32.not_lt.mp c4)
              refine go_blk 1 [] (pc' := 63) (vs' := [.ref (ad 0 0), .int (nI j1), .int 0, .int (nI j2), .int (nI j3), .int 1]) (st' := [.int (-1)]) (M' := mm M (mI M) (mJ M)) (ps := []) rfl trivial ?_
              refine go_iret rfl rfl ?_
              refine K _ _ hM.1 rfl (fun R2 h2 => ?_)
              show Go 1311 191 0 0 0 [.ref (ad 10 0), .int (nI j1), .int 0, .int (nI j2), .int (nI j3)] [] (mm M (mI M) (mJ M)) R2
              refine go_blk 5 [some (.int 0)] (pc' := 9) (vs' := [.ref (ad 10 0), .int (nI j1), .int 0, .int (nI j2), .int (nI j3)]) (st' := [.int 0]) (M' := mm M (up2 (mI M) (ad 10 0) 0 0) (mJ M)) (ps := [ob (mm M (mI M) (mJ M)) (ad 10 0) 12, ob (mm M (up2 (mI M) (ad 10 0) 0 0) (mJ M)) (ad 10 0) 12, (Value.int ((up2 (mI M) (ad 10 0) 0 0) (ad 10 0) 21)) = .int 0]) rfl ⟨hM.1, hM.1, congrArg Value.int (((up2_n _ _ (fun z => absurd z.2 (by decide))).trans (rfl)).trans op2), trivial⟩ ?_
              refine go_if rfl (fun (z : ¬ (0 : Int32) = 0) => absurd z (show ¬ (¬ (0 : Int32) = 0) from (by decide))) (fun _ => ?_)
              refine go_blk 3 [some (.int (nI nc))] (pc' := 18) (vs' := [.ref (ad 10 0), .int (nI j1), .int 0, .int (nI j2), .int (nI j3)]) (st' := [.int 7, .int (nI nc)]) (M' := mm M (up2 (mI M) (ad 10 0) 0 0) (mJ M)) (ps := [ob (mm M (up2 (mI M) (ad 10 0) 0 0) (mJ M)) (ad 10 0) 12, (Value.int ((up2 (mI M) (ad 10 0) 0 0) (ad 10 0) 17)) = .int (nI nc)]) rfl ⟨hM.1, congrArg Value.int (((up2_n _ _ (fun z => absurd z.2 (by decide))).trans (rfl)).trans nc2), trivial⟩ ?_
              refine go_icmp rfl (fun (c5 : (nI nc) = 7) => ?_) (fun (c5 : ¬ ((nI nc) = 7)) => ?_)
              · -- (nI nc) = 7
                have nc5 : nc = 7 := (nI_eqs (a := nc) (b := 7) (by omega) (by omega)).mp c5
                refine go_blk 1 [] (pc' := 56) (vs' := [.ref (ad 10 0), .int (nI j1), .int 0, .int (nI j2), .int (nI j3)]) (st' := [.int (-1)]) (M' := mm M (up2 (mI M) (ad 10 0) 0 0) (mJ M)) (ps := []) rfl trivial ?_
                refine go_iret rfl rfl ?_
                exact h2 _ ⟨hsc, ad, nc, nb, nt, wk, nw, nx, nl, ne, nk, kd, false, rfl, rfl, rfl, hW.thr⟩
              · -- ¬ ((nI nc) = 7)
                have nc5 : ¬ nc = 7 := fun q => c5 ((nI_eqs (a := nc) (b := 7) (by omega) (by omega)).mpr q)
                refine go_blk 3 [] (pc' := 25) (vs' := [.ref (ad 10 0), .int (nI j1), .int 0, .int (nI j2), .int (nI j3)]) (st' := [.int 12, .int 1, .int (nI j1)]) (M' := mm M (up2 (mI M) (ad 10 0) 0 0) (mJ M)) (ps := []) rfl trivial ?_
                refine go_callS rfl (by decide) rfl rfl (by omega) rfl (by decide) (by decide) ?_
                refine s_Mo_isInK 1 12 (by decide) (by decide) (fun j6 hl6 hj6 hx6 => ⟨ne_i, ?_⟩) (fun c6 => ⟨ne_i, ?_⟩)
                · -- 1
                  show Go 1311 191 0 0 28 [.ref (ad 10 0), .int (nI j1), .int 0, .int (nI j2), .int (nI j3)] [.int 1] (mm M (up2 (mI M) (ad 10 0) 0 0) (mJ M)) R2
                  refine go_if rfl (fun (z : (1 : Int32) = 0) => absurd z (show ¬ ((1 : Int32) = 0) from (by decide))) (fun _ => ?_)
                  refine go_blk 3 [] (pc' := 36) (vs' := [.ref (ad 10 0), .int (nI j1), .int 0, .int (nI j2), .int (nI j3)]) (st' := [.int 2000, .int 1, .int (nI j2)]) (M' := mm M (up2 (mI M) (ad 10 0) 0 0) (mJ M)) (ps := []) rfl trivial ?_
                  refine go_callS rfl (by decide) rfl rfl (by omega) rfl (by decide) (by decide) ?_
                  refine s_Mo_isInK 1 2000 (by decide) (by decide) (fun j7 hl7 hj7 hx7 => ⟨ne_i, ?_⟩) (fun c7 => ⟨ne_i, ?_⟩)
                  · -- 1
                    show Go 1311 191 0 0 39 [.ref (ad 10 0), .int (nI j1), .int 0, .int (nI j2), .int (nI j3)] [.int 1] (mm M (up2 (mI M) (ad 10 0) 0 0) (mJ M)) R2
                    refine go_if rfl (fun (z : (1 : Int32) = 0) => absurd z (show ¬ ((1 : Int32) = 0) from (by decide))) (fun _ => ?_)
                    refine go_blk 3 [] (pc' := 49) (vs' := [.ref (ad 10 0), .int (nI j1), .int 0, .int (nI j2), .int (nI j3)]) (st' := [.int 240, .int 10, .int (nI j3)]) (M' := mm M (up2 (mI M) (ad 10 0) 0 0) (mJ M)) (ps := []) rfl trivial ?_
                    refine go_callS rfl (by decide) rfl rfl (by omega) rfl (by decide) (by decide) ?_
                    refine s_Mo_isInK 10 240 (by decide) (by decide) (fun j8 hl8 hj8 hx8 => ⟨ne_i, ?_⟩) (fun c8 => ⟨ne_i, ?_⟩)
                    · -- 1
                      show Go 1311 191 0 0 52 [.ref (ad 10 0), .int (nI j1), .int 0, .int (nI j2), .int (nI j3)] [.int 1] (mm M (up2 (mI M) (ad 10 0) 0 0) (mJ M)) R2
                      refine go_if rfl (fun _ => ?_) (fun (z : ¬ (¬ (1 : Int32) = 0)) => absurd (show ¬ (1 : Int32) = 0 from (by decide)) z)
                      refine go_blk 34 [some (.ref (ad 9 1)), some (.int (nI nc)), some (.ref (ad 9 4)), some (.int (nI nc)), some (.ref (ad 9 2)), some (.int (nI nc)), some (.ref (ad 9 3)), some (.int (nI nc)), some (.int (nI nc)), some (.int ((nI nc) + 1))] (pc' := 114) (vs' := [.ref (ad 10 0), .int (nI j1), .int 0, .int (nI j2), .int (nI j3)]) (st' := [.int (((nI nc) + 1) - 1)]) (M' := mm M (up2 (up2 (up2 (up2 (up2 (up2 (mI M) (ad 10 0) 0 0) (ad 9 1) ((nI nc).toNatClampNeg) (nI j1)) (ad 9 4) ((nI nc).toNatClampNeg) 0) (ad 9 2) ((nI nc).toNatClampNeg) (nI j2)) (ad 9 3) ((nI nc).toNatClampNeg) (nI j3)) (ad 10 0) 17 ((nI nc) + 1)) (mJ M)) (ps := [ob (mm M (up2 (mI M) (ad 10 0) 0 0) (mJ M)) (ad 10 0) 12, mR (mm M (up2 (mI M) (ad 10 0) 0 0) (mJ M)) (ad 10 0) 1 = some (ad 9 1), va_rf (some (ad 9 1)) = .ref (ad 9 1), ob (mm M (up2 (mI M) (ad 10 0) 0 0) (mJ M)) (ad 10 0) 12, (Value.int ((up2 (mI M) (ad 10 0) 0 0) (ad 10 0) 17)) = .int (nI nc), ob (mm M (up2 (mI M) (ad 10 0) 0 0) (mJ M)) (ad 9 1) 15, vp_in (nI nc) (mN (mm M (up2 (mI M) (ad 10 0) 0 0) (mJ M)) (ad 9 1)), ob (mm M (up2 (up2 (mI M) (ad 10 0) 0 0) (ad 9 1) ((nI nc).toNatClampNeg) (nI j1)) (mJ M)) (ad 10 0) 12, mR (mm M (up2 (up2 (mI M) (ad 10 0) 0 0) (ad 9 1) ((nI nc).toNatClampNeg) (nI j1)) (mJ M)) (ad 10 0) 4 = some (ad 9 4), va_rf (some (ad 9 4)) = .ref (ad 9 4), ob (mm M (up2 (up2 (mI M) (ad 10 0) 0 0) (ad 9 1) ((nI nc).toNatClampNeg) (nI j1)) (mJ M)) (ad 10 0) 12, (Value.int ((up2 (up2 (mI M) (ad 10 0) 0 0) (ad 9 1) ((nI nc).toNatClampNeg) (nI j1)) (ad 10 0) 17)) = .int (nI nc), ob (mm M (up2 (up2 (mI M) (ad 10 0) 0 0) (ad 9 1) ((nI nc).toNatClampNeg) (nI j1)) (mJ M)) (ad 9 4) 13, vp_in (nI nc) (mN (mm M (up2 (up2 (mI M) (ad 10 0) 0 0) (ad 9 1) ((nI nc).toNatClampNeg) (nI j1)) (mJ M)) (ad 9 4)), ob (mm M (up2 (up2 (up2 (mI M) (ad 10 0) 0 0) (ad 9 1) ((nI nc).toNatClampNeg) (nI j1)) (ad 9 4) ((nI nc).toNatClampNeg) 0) (mJ M)) (ad 10 0) 12, mR (mm M (up2 (up2 (up2 (mI M) (ad 10 0) 0 0) (ad 9 1) ((nI nc).toNatClampNeg) (nI j1)) (ad 9 4) ((nI nc).toNatClampNeg) 0) (mJ M)) (ad 10 0) 2 = some (ad 9 2), va_rf (some (ad 9 2)) = .ref (ad 9 2), ob (mm M (up2 (up2 (up2 (mI M) (ad 10 0) 0 0) (ad 9 1) ((nI nc).toNatClampNeg) (nI j1)) (ad 9 4) ((nI nc).toNatClampNeg) 0) (mJ M)) (ad 10 0) 12, (Value.int ((up2 (up2 (up2 (mI M) (ad 10 0) 0 0) (ad 9 1) ((nI nc).toNatClampNeg) (nI j1)) (ad 9 4) ((nI nc).toNatClampNeg) 0) (ad 10 0) 17)) = .int (nI nc), ob (mm M (up2 (up2 (up2 (mI M) (ad 10 0) 0 0) (ad 9 1) ((nI nc).toNatClampNeg) (nI j1)) (ad 9 4) ((nI nc).toNatClampNeg) 0) (mJ M)) (ad 9 2) 15, vp_in (nI nc) (mN (mm M (up2 (up2 (up2 (mI M) (ad 10 0) 0 0) (ad 9 1) ((nI nc).toNatClampNeg) (nI j1)) (ad 9 4) ((nI nc).toNatClampNeg) 0) (mJ M)) (ad 9 2)), ob (mm M (up2 (up2 (up2 (up2 (mI M) (ad 10 0) 0 0) (ad 9 1) ((nI nc).toNatClampNeg) (nI j1)) (ad 9 4) ((nI nc).toNatClampNeg) 0) (ad 9 2) ((nI nc).toNatClampNeg) (nI j2)) (mJ M)) (ad 10 0) 12, mR (mm M (up2 (up2 (up2 (up2 (mI M) (ad 10 0) 0 0) (ad 9 1) ((nI nc).toNatClampNeg) (nI j1)) (ad 9 4) ((nI nc).toNatClampNeg) 0) (ad 9 2) ((nI nc).toNatClampNeg) (nI j2)) (mJ M)) (ad 10 0) 3 = some (ad 9 3), va_rf (some (ad 9 3)) = .ref (ad 9 3), ob (mm M (up2 (up2 (up2 (up2 (mI M) (ad 10 0) 0 0) (ad 9 1) ((nI nc).toNatClampNeg) (nI j1)) (ad 9 4) ((nI nc).toNatClampNeg) 0) (ad 9 2) ((nI nc).toNatClampNeg) (nI j2)) (mJ M)) (ad 10 0) 12, (Value.int ((up2 (up2 (up2 (up2 (mI M) (ad 10 0) 0 0) (ad 9 1) ((nI nc).toNatClampNeg) (nI j1)) (ad 9 4) ((nI nc).toNatClampNeg) 0) (ad 9 2) ((nI nc).toNatClampNeg) (nI j2)) (ad 10 0) 17)) = .int (nI nc), ob (mm M (up2 (up2 (up2 (up2 (mI M) (ad 10 0) 0 0) (ad 9 1) ((nI nc).toNatClampNeg) (nI j1)) (ad 9 4) ((nI nc).toNatClampNeg) 0) (ad 9 2) ((nI nc).toNatClampNeg) (nI j2)) (mJ M)) (ad 9 3) 15, vp_in (nI nc) (mN (mm M (up2 (up2 (up2 (up2 (mI M) (ad 10 0) 0 0) (ad 9 1) ((nI nc).toNatClampNeg) (nI j1)) (ad 9 4) ((nI nc).toNatClampNeg) 0) (ad 9 2) ((nI nc).toNatClampNeg) (nI j2)) (mJ M)) (ad 9 3)), (.ref (ad 10 0) : Value).category = 1, ob (mm M (up2 (up2 (up2 (up2 (up2 (mI M) (ad 10 0) 0 0) (ad 9 1) ((nI nc).toNatClampNeg) (nI j1)) (ad 9 4) ((nI nc).toNatClampNeg) 0) (ad 9 2) ((nI nc).toNatClampNeg) (nI j2)) (ad 9 3) ((nI nc).toNatClampNeg) (nI j3)) (mJ M)) (ad 10 0) 12, (Value.int ((up2 (up2 (up2 (up2 (up2 (mI M) (ad 10 0) 0 0) (ad 9 1) ((nI nc).toNatClampNeg) (nI j1)) (ad 9 4) ((nI nc).toNatClampNeg) 0) (ad 9 2) ((nI nc).toNatClampNeg) (nI j2)) (ad 9 3) ((nI nc).toNatClampNeg) (nI j3)) (ad 10 0) 17)) = .int (nI nc), ob (mm M (up2 (up2 (up2 (up2 (up2 (mI M) (ad 10 0) 0 0) (ad 9 1) ((nI nc).toNatClampNeg) (nI j1)) (ad 9 4) ((nI nc).toNatClampNeg) 0) (ad 9 2) ((nI nc).toNatClampNeg) (nI j2)) (ad 9 3) ((nI nc).toNatClampNeg) (nI j3)) (mJ M)) (ad 10 0) 12, ob (mm M (up2 (up2 (up2 (up2 (up2 (up2 (mI M) (ad 10 0) 0 0) (ad 9 1) ((nI nc).toNatClampNeg) (nI j1)) (ad 9 4) ((nI nc).toNatClampNeg) 0) (ad 9 2) ((nI nc).toNatClampNeg) (nI j2)) (ad 9 3) ((nI nc).toNatClampNeg) (nI j3)) (ad 10 0) 17 ((nI nc) + 1)) (mJ M)) (ad 10 0) 12, (Value.int ((up2 (up2 (up2 (up2 (up2 (up2 (mI M) (ad 10 0) 0 0) (ad 9 1) ((nI nc).toNatClampNeg) (nI j1)) (ad 9 4) ((nI nc).toNatClampNeg) 0) (ad 9 2) ((nI nc).toNatClampNeg) (nI j2)) (ad 9 3) ((nI nc).toNatClampNeg) (nI j3)) (ad 10 0) 17 ((nI nc) + 1)) (ad 10 0) 17)) = .int ((nI nc) + 1)]) rfl ⟨hM.1, (hM.r 1 15 7), rfl, hM.1, congrArg Value.int (((up2_n _ _ (fun z => absurd z.2 (by decide))).trans (rfl)).trans nc2), (hM.o 1 15 7), (vpi (hM.n 1 15 7) (by omega)), hM.1, (hM.r 4 13 7), rfl, hM.1, congrArg Value.int (((up2_n _ _ (fun z => absurd (hi _ _ _ _ z.1).1 (by decide))).trans ((up2_n _ _ (fun z => absurd z.2 (by decide))).trans (rfl))).trans nc2), (hM.o 4 13 7), (vpi (hM.n 4 13 7) (by omega)), hM.1, (hM.r 2 15 7), rfl, hM.1, congrArg Value.int (((up2_n _ _ (fun z => absurd (hi _ _ _ _ z.1).1 (by decide))).trans ((up2_n _ _ (fun z => absurd (hi _ _ _ _ z.1).1 (by decide))).trans ((up2_n _ _ (fun z => absurd z.2 (by decide))).trans (rfl)))).trans nc2), (hM.o 2 15 7), (vpi (hM.n 2 15 7) (by omega)), hM.1, (hM.r 3 15 7), rfl, hM.1, congrArg Value.int (((up2_n _ _ (fun z => absurd (hi _ _ _ _ z.1).1 (by decide))).trans ((up2_n _ _ (fun z => absurd (hi _ _ _ _ z.1).1 (by decide))).trans ((up2_n _ _ (fun z => absurd (hi _ _ _ _ z.1).1 (by decide))).trans ((up2_n _ _ (fun z => absurd z.2 (by decide))).trans (rfl))))).trans nc2), (hM.o 3 15 7), (vpi (hM.n 3 15 7) (by omega)), rfl, hM.1, congrArg Value.int (((up2_n _ _ (fun z => absurd (hi _ _ _ _ z.1).1 (by decide))).trans ((up2_n _ _ (fun z => absurd (hi _ _ _ _ z.1).1 (by decide))).trans ((up2_n _ _ (fun z => absurd (hi _ _ _ _ z.1).1 (by decide))).trans ((up2_n _ _ (fun z => absurd (hi _ _ _ _ z.1).1 (by decide))).trans ((up2_n _ _ (fun z => absurd z.2 (by decide))).trans (rfl)))))).trans nc2), hM.1, hM.1, congrArg Value.int (up2_s _ _ _ _), trivial⟩ ?_
                      rw [nI_clamp (n := nc) (by omega)]
                      refine go_iret rfl rfl ?_
                      exfalso
                      clear K h2 hW hsc jO jR jB jX jL kO kC kD kP kX iC iB iR iL iT iS hC hB hT hX hF hM hi
                      grind
                    · exact absurd ⟨j3, hl3, hj3, rfl⟩ c8
                  · exact absurd ⟨j2, hl2, hj2, rfl⟩ c7
                · exact absurd ⟨j1, hl1, hj1, rfl⟩ c6
          · -- 0
            show Go 1311 116 1 8 31 [.ref (ad 0 0), .int (nI j1), .int 0, .int (nI j2), .int a4, .retAddr 0] [.int 0] (mm M (mI M) (mJ M)) R
            refine go_if rfl (fun _ => ?_) (fun (z : ¬ ((0 : Int32) = 0)) => absurd (show (0 : Int32) = 0 from (by decide)) z)
            refine go_blk 3 [] (pc' := 43) (vs' := [.ref (ad 0 0), .int (nI j1), .int 0, .int (nI j2), .int a4, .int 0]) (st' := [.int 0]) (M' := mm M (mI M) (mJ M)) (ps := []) rfl trivial ?_
            refine go_if rfl (fun _ => ?_) (fun (z : ¬ ((0 : Int32) = 0)) => absurd (show (0 : Int32) = 0 from (by decide)) z)
            refine go_blk 1 [] (pc' := 63) (vs' := [.ref (ad 0 0), .int (nI j1), .int 0, .int (nI j2), .int a4, .int 0]) (st' := [.int (-1)]) (M' := mm M (mI M) (mJ M)) (ps := []) rfl trivial ?_
            refine go_iret rfl rfl ?_
            refine K _ _ hM.1 rfl (fun R2 h2 => ?_)
            show Go 1311 191 0 0 0 [.ref (ad 10 0), .int (nI j1), .int 0, .int (nI j2), .int a4] [] (mm M (mI M) (mJ M)) R2
            refine go_blk 5 [some (.int 0)] (pc' := 9) (vs' := [.ref (ad 10 0), .int (nI j1), .int 0, .int (nI j2), .int a4]) (st' := [.int 0]) (M' := mm M (up2 (mI M) (ad 10 0) 0 0) (mJ M)) (ps := [ob (mm M (mI M) (mJ M)) (ad 10 0) 12, ob (mm M (up2 (mI M) (ad 10 0) 0 0) (mJ M)) (ad 10 0) 12, (Value.int ((up2 (mI M) (ad 10 0) 0 0) (ad 10 0) 21)) = .int 0]) rfl ⟨hM.1, hM.1, congrArg Value.int (((up2_n _ _ (fun z => absurd z.2 (by decide))).trans (rfl)).trans op2), trivial⟩ ?_
            refine go_if rfl (fun (z : ¬ (0 : Int32) = 0) => absurd z (show ¬ (¬ (0 : Int32) = 0) from (by decide))) (fun _ => ?_)
            refine go_blk 3 [some (.int (nI nc))] (pc' := 18) (vs' := [.ref (ad 10 0), .int (nI j1), .int 0, .int (nI j2), .int a4]) (st' := [.int 7, .int (nI nc)]) (M' := mm M (up2 (mI M) (ad 10 0) 0 0) (mJ M)) (ps := [ob (mm M (up2 (mI M) (ad 10 0) 0 0) (mJ M)) (ad 10 0) 12, (Value.int ((up2 (mI M) (ad 10 0) 0 0) (ad 10 0) 17)) = .int (nI nc)]) rfl ⟨hM.1, congrArg Value.int (((up2_n _ _ (fun z => absurd z.2 (by decide))).trans (rfl)).trans nc2), trivial⟩ ?_
            refine go_icmp rfl (fun (c9 : (nI nc) = 7) => ?_) (fun (c9 : ¬ ((nI nc) = 7)) => ?_)
            · -- (nI nc) = 7
              have nc9 : nc = 7 := (nI_eqs (a := nc) (b := 7) (by omega) (by omega)).mp c9
              refine go_blk 1 [] (pc' := 56) (vs' := [.ref (ad 10 0), .int (nI j1), .int 0, .int (nI j2), .int a4]) (st' := [.int (-1)]) (M' := mm M (up2 (mI M) (ad 10 0) 0 0) (mJ M)) (ps := []) rfl trivial ?_
              refine go_iret rfl rfl ?_
              exact h2 _ ⟨hsc, ad, nc, nb, nt, wk, nw, nx, nl, ne, nk, kd, false, rfl, rfl, rfl, hW.thr⟩
            · -- ¬ ((nI nc) = 7)
              have nc9 : ¬ nc = 7 := fun q => c9 ((nI_eqs (a := nc) (b := 7) (by omega) (by omega)).mpr q)
              refine go_blk 3 [] (pc' := 25) (vs' := [.ref (ad 10 0), .int (nI j1), .int 0, .int (nI j2), .int a4]) (st' := [.int 12, .int 1, .int (nI j1)]) (M' := mm M (up2 (mI M) (ad 10 0) 0 0) (mJ M)) (ps := []) rfl trivial ?_
              refine go_callS rfl (by decide) rfl rfl (by omega) rfl (by decide) (by decide) ?_
              refine s_Mo_isInK 1 12 (by decide) (by decide) (fun j10 hl10 hj10 hx10 => ⟨ne_i, ?_⟩) (fun c10 => ⟨ne_i, ?_⟩)
              · -- 1
                show Go 1311 191 0 0 28 [.ref (ad 10 0), .int (nI j1), .int 0, .int (nI j2), .int a4] [.int 1] (mm M (up2 (mI M) (ad 10 0) 0 0) (mJ M)) R2
                refine go_if rfl (fun (z : (1 : Int32) = 0) => absurd z (show ¬ ((1 : Int32) = 0) from (by decide))) (fun _ => ?_)
                refine go_blk 3 [] (pc' := 36) (vs' := [.ref (ad 10 0), .int (nI j1), .int 0, .int (nI j2), .int a4]) (st' := [.int 2000, .int 1, .int (nI j2)]) (M' := mm M (up2 (mI M) (ad 10 0) 0 0) (mJ M)) (ps := []) rfl trivial ?_
                refine go_callS rfl (by decide) rfl rfl (by omega) rfl (by decide) (by decide) ?_
                refine s_Mo_isInK 1 2000 (by decide) (by decide) (fun j11 hl11 hj11 hx11 => ⟨ne_i, ?_⟩) (fun c11 => ⟨ne_i, ?_⟩)
                · -- 1
                  show Go 1311 191 0 0 39 [.ref (ad 10 0), .int (nI j1), .int 0, .int (nI j2), .int a4] [.int 1] (mm M (up2 (mI M) (ad 10 0) 0 0) (mJ M)) R2
                  refine go_if rfl (fun (z : (1 : Int32) = 0) => absurd z (show ¬ ((1 : Int32) = 0) from (by decide))) (fun _ => ?_)
                  refine go_blk 3 [] (pc' := 49) (vs' := [.ref (ad 10 0), .int (nI j1), .int 0, .int (nI j2), .int a4]) (st' := [.int 240, .int 10, .int a4]) (M' := mm M (up2 (mI M) (ad 10 0) 0 0) (mJ M)) (ps := []) rfl trivial ?_
                  refine go_callS rfl (by decide) rfl rfl (by omega) rfl (by decide) (by decide) ?_
                  refine s_Mo_isInK 10 240 (by decide) (by decide) (fun j12 hl12 hj12 hx12 => ⟨ne_i, ?_⟩) (fun c12 => ⟨ne_i, ?_⟩)
                  · exact absurd ⟨j12, hl12, hj12, hx12⟩ c3
                  · -- 0
                    show Go 1311 191 0 0 52 [.ref (ad 10 0), .int (nI j1), .int 0, .int (nI j2), .int a4] [.int 0] (mm M (up2 (mI M) (ad 10 0) 0 0) (mJ M)) R2
                    refine go_if rfl (fun (z : ¬ (0 : Int32) = 0) => absurd z (show ¬ (¬ (0 : Int32) = 0) from (by decide))) (fun _ => ?_)
                    refine go_blk 1 [] (pc' := 56) (vs' := [.ref (ad 10 0), .int (nI j1), .int 0, .int (nI j2), .int a4]) (st' := [.int (-1)]) (M' := mm M (up2 (mI M) (ad 10 0) 0 0) (mJ M)) (ps := []) rfl trivial ?_
                    refine go_iret rfl rfl ?_
                    exact h2 _ ⟨hsc, ad, nc, nb, nt, wk, nw, nx, nl, ne, nk, kd, false, rfl, rfl, rfl, hW.thr⟩
                · exact absurd ⟨j2, hl2, hj2, rfl⟩ c11
              · exact absurd ⟨j1, hl1, hj1, rfl⟩ c10
        · -- 0
          show Go 1311 116 1 8 18 [.ref (ad 0 0), .int (nI j1), .int 0, .int a3, .int a4, .retAddr 0] [.int 0] (mm M (mI M) (mJ M)) R
          refine go_if rfl (fun _ => ?_) (fun (z : ¬ ((0 : Int32) = 0)) => absurd (show (0 : Int32) = 0 from (by decide)) z)
          refine go_blk 3 [] (pc' := 43) (vs' := [.ref (ad 0 0), .int (nI j1), .int 0, .int a3, .int a4, .int 0]) (st' := [.int 0]) (M' := mm M (mI M) (mJ M)) (ps := []) rfl trivial ?_
          refine go_if rfl (fun _ => ?_) (fun (z : ¬ ((0 : Int32) = 0)) => absurd (show (0 : Int32) = 0 from (by decide)) z)
          refine go_blk 1 [] (pc' := 63) (vs' := [.ref (ad 0 0), .int (nI j1), .int 0, .int a3, .int a4, .int 0]) (st' := [.int (-1)]) (M' := mm M (mI M) (mJ M)) (ps := []) rfl trivial ?_
          refine go_iret rfl rfl ?_
          refine K _ _ hM.1 rfl (fun R2 h2 => ?_)
          show Go 1311 191 0 0 0 [.ref (ad 10 0), .int (nI j1), .int 0, .int a3, .int a4] [] (mm M (mI M) (mJ M)) R2
          refine go_blk 5 [some (.int 0)] (pc' := 9) (vs' := [.ref (ad 10 0), .int (nI j1), .int 0, .int a3, .int a4]) (st' := [.int 0]) (M' := mm M (up2 (mI M) (ad 10 0) 0 0) (mJ M)) (ps := [ob (mm M (mI M) (mJ M)) (ad 10 0) 12, ob (mm M (up2 (mI M) (ad 10 0) 0 0) (mJ M)) (ad 10 0) 12, (Value.int ((up2 (mI M) (ad 10 0) 0 0) (ad 10 0) 21)) = .int 0]) rfl ⟨hM.1, hM.1, congrArg Value.int (((up2_n _ _ (fun z => absurd z.2 (by decide))).trans (rfl)).trans op2), trivial⟩ ?_
          refine go_if rfl (fun (z : ¬ (0 : Int32) = 0) => absurd z (show ¬ (¬ (0 : Int32) = 0) from (by decide))) (fun _ => ?_)
          refine go_blk 3 [some (.int (nI nc))] (pc' := 18) (vs' := [.ref (ad 10 0), .int (nI j1), .int 0, .int a3, .int a4]) (st' := [.int 7, .int (nI nc)]) (M' := mm M (up2 (mI M) (ad 10 0) 0 0) (mJ M)) (ps := [ob (mm M (up2 (mI M) (ad 10 0) 0 0) (mJ M)) (ad 10 0) 12, (Value.int ((up2 (mI M) (ad 10 0) 0 0) (ad 10 0) 17)) = .int (nI nc)]) rfl ⟨hM.1, congrArg Value.int (((up2_n _ _ (fun z => absurd z.2 (by decide))).trans (rfl)).trans nc2), trivial⟩ ?_
          refine go_icmp rfl (fun (c13 : (nI nc) = 7) => ?_) (fun (c13 : ¬ ((nI nc) = 7)) => ?_)
          · -- (nI nc) = 7
            have nc13 : nc = 7 := (nI_eqs (a := nc) (b := 7) (by omega) (by omega)).mp c13
            refine go_blk 1 [] (pc' := 56) (vs' := [.ref (ad 10 0), .int (nI j1), .int 0, .int a3, .int a4]) (st' := [.int (-1)]) (M' := mm M (up2 (mI M) (ad 10 0) 0 0) (mJ M)) (ps := []) rfl trivial ?_
            refine go_iret rfl rfl ?_
            exact h2 _ ⟨hsc, ad, nc, nb, nt, wk, nw, nx, nl, ne, nk, kd, false, rfl, rfl, rfl, hW.thr⟩
          · -- ¬ ((nI nc) = 7)
            have nc13 : ¬ nc = 7 := fun q => c13 ((nI_eqs (a := nc) (b := 7) (by omega) (by omega)).mpr q)
            refine go_blk 3 [] (pc' := 25) (vs' := [.ref (ad 10 0), .int (nI j1), .int 0, .int a3, .int a4]) (st' := [.int 12, .int 1, .int (nI j1)]) (M' := mm M (up2 (mI M) (ad 10 0) 0 0) (mJ M)) (ps := []) rfl trivial ?_
            refine go_callS rfl (by decide) rfl rfl (by omega) rfl (by decide) (by decide) ?_
            refine s_Mo_isInK 1 12 (by decide) (by decide) (fun j14 hl14 hj14 hx14 => ⟨ne_i, ?_⟩) (fun c14 => ⟨ne_i, ?_⟩)
            · -- 1
              show Go 1311 191 0 0 28 [.ref (ad 10 0), .int (nI j1), .int 0, .int a3, .int a4] [.int 1] (mm M (up2 (mI M) (ad 10 0) 0 0) (mJ M)) R2
              refine go_if rfl (fun (z : (1 : Int32) = 0) => absurd z (show ¬ ((1 : Int32) = 0) from (by decide))) (fun _ => ?_)
              refine go_blk 3 [] (pc' := 36) (vs' := [.ref (ad 10 0), .int (nI j1), .int 0, .int a3, .int a4]) (st' := [.int 2000, .int 1, .int a3]) (M' := mm M (up2 (mI M) (ad 10 0) 0 0) (mJ M)) (ps := []) rfl trivial ?_
              refine go_callS rfl (by decide) rfl rfl (by omega) rfl (by decide) (by decide) ?_
              refine s_Mo_isInK 1 2000 (by decide) (by decide) (fun j15 hl15 hj15 hx15 => ⟨ne_i, ?_⟩) (fun c15 => ⟨ne_i, ?_⟩)
              · exact absurd ⟨j15, hl15, hj15, hx15⟩ c2
              · -- 0
                show Go 1311 191 0 0 39 [.ref (ad 10 0), .int (nI j1), .int 0, .int a3, .int a4] [.int 0] (mm M (up2 (mI M) (ad 10 0) 0 0) (mJ M)) R2
                refine go_if rfl (fun _ => ?_) (fun (z : ¬ ((0 : Int32) = 0)) => absurd (show (0 : Int32) = 0 from (by decide)) z)
                refine go_blk 1 [] (pc' := 56) (vs' := [.ref (ad 10 0), .int (nI j1), .int 0, .int a3, .int a4]) (st' := [.int (-1)]) (M' := mm M (up2 (mI M) (ad 10 0) 0 0) (mJ M)) (ps := []) rfl trivial ?_
                refine go_iret rfl rfl ?_
                exact h2 _ ⟨hsc, ad, nc, nb, nt, wk, nw, nx, nl, ne, nk, kd, false, rfl, rfl, rfl, hW.thr⟩
            · exact absurd ⟨j1, hl1, hj1, rfl⟩ c14
      · -- 0
        show Go 1311 116 1 8 7 [.ref (ad 0 0), .int a1, .int 0, .int a3, .int a4, .retAddr 0] [.int 0] (mm M (mI M) (mJ M)) R
        refine go_if rfl (fun _ => ?_) (fun (z : ¬ ((0 : Int32) = 0)) => absurd (show (0 : Int32) = 0 from (by decide)) z)
        refine go_blk 3 [] (pc' := 43) (vs' := [.ref (ad 0 0), .int a1, .int 0, .int a3, .int a4, .int 0]) (st' := [.int 0]) (M' := mm M (mI M) (mJ M)) (ps := []) rfl trivial ?_
        refine go_if rfl (fun _ => ?_) (fun (z : ¬ ((0 : Int32) = 0)) => absurd (show (0 : Int32) = 0 from (by decide)) z)
        refine go_blk 1 [] (pc' := 63) (vs' := [.ref (ad 0 0), .int a1, .int 0, .int a3, .int a4, .int 0]) (st' := [.int (-1)]) (M' := mm M (mI M) (mJ M)) (ps := []) rfl trivial ?_
        refine go_iret rfl rfl ?_
        refine K _ _ hM.1 rfl (fun R2 h2 => ?_)
        show Go 1311 191 0 0 0 [.ref (ad 10 0), .int a1, .int 0, .int a3, .int a4] [] (mm M (mI M) (mJ M)) R2
        refine go_blk 5 [some (.int 0)] (pc' := 9) (vs' := [.ref (ad 10 0), .int a1, .int 0, .int a3, .int a4]) (st' := [.int 0]) (M' := mm M (up2 (mI M) (ad 10 0) 0 0) (mJ M)) (ps := [ob (mm M (mI M) (mJ M)) (ad 10 0) 12, ob (mm M (up2 (mI M) (ad 10 0) 0 0) (mJ M)) (ad 10 0) 12, (Value.int ((up2 (mI M) (ad 10 0) 0 0) (ad 10 0) 21)) = .int 0]) rfl ⟨hM.1, hM.1, congrArg Value.int (((up2_n _ _ (fun z => absurd z.2 (by decide))).trans (rfl)).trans op2), trivial⟩ ?_
        refine go_if rfl (fun (z : ¬ (0 : Int32) = 0) => absurd z (show ¬ (¬ (0 : Int32) = 0) from (by decide))) (fun _ => ?_)
        refine go_blk 3 [some (.int (nI nc))] (pc' := 18) (vs' := [.ref (ad 10 0), .int a1, .int 0, .int a3, .int a4]) (st' := [.int 7, .int (nI nc)]) (M' := mm M (up2 (mI M) (ad 10 0) 0 0) (mJ M)) (ps := [ob (mm M (up2 (mI M) (ad 10 0) 0 0) (mJ M)) (ad 10 0) 12, (Value.int ((up2 (mI M) (ad 10 0) 0 0) (ad 10 0) 17)) = .int (nI nc)]) rfl ⟨hM.1, congrArg Value.int (((up2_n _ _ (fun z => absurd z.2 (by decide))).trans (rfl)).trans nc2), trivial⟩ ?_
        refine go_icmp rfl (fun (c16 : (nI nc) = 7) => ?_) (fun (c16 : ¬ ((nI nc) = 7)) => ?_)
        · -- (nI nc) = 7
          have nc16 : nc = 7 := (nI_eqs (a := nc) (b := 7) (by omega) (by omega)).mp c16
          refine go_blk 1 [] (pc' := 56) (vs' := [.ref (ad 10 0), .int a1, .int 0, .int a3, .int a4]) (st' := [.int (-1)]) (M' := mm M (up2 (mI M) (ad 10 0) 0 0) (mJ M)) (ps := []) rfl trivial ?_
          refine go_iret rfl rfl ?_
          exact h2 _ ⟨hsc, ad, nc, nb, nt, wk, nw, nx, nl, ne, nk, kd, false, rfl, rfl, rfl, hW.thr⟩
        · -- ¬ ((nI nc) = 7)
          have nc16 : ¬ nc = 7 := fun q => c16 ((nI_eqs (a := nc) (b := 7) (by omega) (by omega)).mpr q)
          refine go_blk 3 [] (pc' := 25) (vs' := [.ref (ad 10 0), .int a1, .int 0, .int a3, .int a4]) (st' := [.int 12, .int 1, .int a1]) (M' := mm M (up2 (mI M) (ad 10 0) 0 0) (mJ M)) (ps := []) rfl trivial ?_
          refine go_callS rfl (by decide) rfl rfl (by omega) rfl (by decide) (by decide) ?_
          refine s_Mo_isInK 1 12 (by decide) (by decide) (fun j17 hl17 hj17 hx17 => ⟨ne_i, ?_⟩) (fun c17 => ⟨ne_i, ?_⟩)
          · exact absurd ⟨j17, hl17, hj17, hx17⟩ c1
          · -- 0
            show Go 1311 191 0 0 28 [.ref (ad 10 0), .int a1, .int 0, .int a3, .int a4] [.int 0] (mm M (up2 (mI M) (ad 10 0) 0 0) (mJ M)) R2
            refine go_if rfl (fun _ => ?_) (fun (z : ¬ ((0 : Int32) = 0)) => absurd (show (0 : Int32) = 0 from (by decide)) z)
            refine go_blk 1 [] (pc' := 56) (vs' := [.ref (ad 10 0), .int a1, .int 0, .int a3, .int a4]) (st' := [.int (-1)]) (M' := mm M (up2 (mI M) (ad 10 0) 0 0) (mJ M)) (ps := []) rfl trivial ?_
            refine go_iret rfl rfl ?_
            exact h2 _ ⟨hsc, ad, nc, nb, nt, wk, nw, nx, nl, ne, nk, kd, false, rfl, rfl, rfl, hW.thr⟩
    ·
      show Go 1311 116 1 8 0 [.ref (ad 0 0), .int a1, .int 1, .int a3, .int a4, .retAddr 0] [] (mm M (mI M) (mJ M)) R
      refine go_blk 3 [] (pc' := 4) (vs' := [.ref (ad 0 0), .int a1, .int 1, .int a3, .int a4, .retAddr 0]) (st' := [.int 12, .int 1, .int a1]) (M' := mm M (mI M) (mJ M)) (ps := []) rfl trivial ?_
      refine go_callS rfl (by decide) rfl rfl (by omega) rfl (by decide) (by decide) ?_
      refine s_CY_withinK 1 12 (by decide) (by decide) (fun j1 hl1 hj1 hx1 => ⟨ne_i, ?_⟩) (fun c1 => ⟨ne_i, ?_⟩)
      · -- 1
        subst hx1
        show Go 1311 116 1 8 7 [.ref (ad 0 0), .int (nI j1), .int 1, .int a3, .int a4, .retAddr 0] [.int 1] (mm M (mI M) (mJ M)) R
        refine go_if rfl (fun (z : (1 : Int32) = 0) => absurd z (show ¬ ((1 : Int32) = 0) from (by decide))) (fun _ => ?_)
        refine go_blk 3 [] (pc' := 15) (vs' := [.ref (ad 0 0), .int (nI j1), .int 1, .int a3, .int a4, .retAddr 0]) (st' := [.int 2000, .int 1, .int a3]) (M' := mm M (mI M) (mJ M)) (ps := []) rfl trivial ?_
        refine go_callS rfl (by decide) rfl rfl (by omega) rfl (by decide) (by decide) ?_
        refine s_CY_withinK 1 2000 (by decide) (by decide) (fun j2 hl2 hj2 hx2 => ⟨ne_i, ?_⟩) (fun c2 => ⟨ne_i, ?_⟩)
        · -- 1
          subst hx2
          show Go 1311 116 1 8 18 [.ref (ad 0 0), .int (nI j1), .int 1, .int (nI j2), .int a4, .retAddr 0] [.int 1] (mm M (mI M) (mJ M)) R
          refine go_if rfl (fun (z : (1 : Int32) = 0) => absurd z (show ¬ ((1 : Int32) = 0) from (by decide))) (fun _ => ?_)
          refine go_blk 3 [] (pc' := 28) (vs' := [.ref (ad 0 0), .int (nI j1), .int 1, .int (nI j2), .int a4, .retAddr 0]) (st' := [.int 240, .int 10, .int a4]) (M' := mm M (mI M) (mJ M)) (ps := []) rfl trivial ?_
          refine go_callS rfl (by decide) rfl rfl (by omega) rfl (by decide) (by decide) ?_
          refine s_CY_withinK 10 240 (by decide) (by decide) (fun j3 hl3 hj3 hx3 => ⟨ne_i, ?_⟩) (fun c3 => ⟨ne_i, ?_⟩)
          · -- 1
            subst hx3
            show Go 1311 116 1 8 31 [.ref (ad 0 0), .int (nI j1), .int 1, .int (nI j2), .int (nI j3), .retAddr 0] [.int 1] (mm M (mI M) (mJ M)) R
            refine go_if rfl (fun (z : (1 : Int32) = 0) => absurd z (show ¬ ((1 : Int32) = 0) from (by decide))) (fun _ => ?_)
            refine go_blk 4 [] (pc' := 43) (vs' := [.ref (ad 0 0), .int (nI j1), .int 1, .int (nI j2), .int (nI j3), .int 1]) (st' := [.int 1]) (M' := mm M (mI M) (mJ M)) (ps := []) rfl trivial ?_
            refine go_if rfl (fun (z : (1 : Int32) = 0) => absurd z (show ¬ ((1 : Int32) = 0) from (by decide))) (fun _ => ?_)
            refine go_blk 2 [some (.int 0)] (pc' := 50) (vs' := [.ref (ad 0 0), .int (nI j1), .int 1, .int (nI j2), .int (nI j3), .int 1]) (st' := [.int 0]) (M' := mm M (mI M) (mJ M)) (ps := [ob (mm M (mI M) (mJ M)) (ad 0 0) 11, (Value.int ((mI M) (ad 0 0) 8)) = .int 0]) rfl ⟨(hF.o 0), congrArg Value.int op1, trivial⟩ ?_
            refine go_if rfl (fun (z : ¬ (0 : Int32) = 0) => absurd z (show ¬ (¬ (0 : Int32) = 0) from (by decide))) (fun _ => ?_)
            refine go_blk 3 [some (.int (nI nc))] (pc' := 59) (vs' := [.ref (ad 0 0), .int (nI j1), .int 1, .int (nI j2), .int (nI j3), .int 1]) (st' := [.int 7, .int (nI nc)]) (M' := mm M (mI M) (mJ M)) (ps := [ob (mm M (mI M) (mJ M)) (ad 0 0) 11, (Value.int ((mI M) (ad 0 0) 1)) = .int (nI nc)]) rfl ⟨(hF.o 0), congrArg Value.int nc1, trivial⟩ ?_
            refine go_icmp rfl (fun (c4 : (nI nc) < 7) => ?_) (fun (c4 : ¬ ((nI nc) < 7)) => ?_)
            · -- (nI nc) < 7
              have nc4 : nc < 7 := (nI_lts (a := nc) (b := 7) (by omega) (by omega)).mp c4
              refine go_blk 4 [some (.ref (ad 0 1)), some (.int (nI nc))] (pc' := 72) (vs' := [.ref (ad 0 0), .int (nI j1), .int 1, .int (nI j2), .int (nI j3), .int 1]) (st' := [.int (nI nc), .ref (ad 0 1)]) (M' := mm M (mI M) (mJ M)) (ps := [ob (mm M (mI M) (mJ M)) (ad 0 0) 11, mR (mm M (mI M) (mJ M)) (ad 0 0) 0 = some (ad 0 1), va_rf (some (ad 0 1)) = .ref (ad 0 1), ob (mm M (mI M) (mJ M)) (ad 0 0) 11, (Value.int ((mI M) (ad 0 0) 1)) = .int (nI nc)]) rfl ⟨(hF.o 0), (hF.r 0 0 1), rfl, (hF.o 0), congrArg Value.int nc1, trivial⟩ ?_
              refine go_new rfl (by decide) (by decide) (by decide) (fun q hq => ?_)
              have hqu : ∀ t i, Us nc nb nt nx t i → ¬ ad t i = q := fun t i u z => hq (z ▸ hW.at u)
              have hq01 := hqu 0 1 (show 1 < 41 by decide)
              have hqC : ¬ q = ad 0 1 := fun z => hq01 z.symm
              show Go 1311 116 0 0 75 [.ref (ad 0 0), .int (nI j1), .int 1, .int (nI j2), .int (nI j3), .int 1] [.ref q, .int (nI nc), .ref (ad 0 1)] (mm (alO M q 2) (mI (alO M q 2)) (mJ (alO M q 2))) R
              refine go_blk 5 [] (pc' := 81) (vs' := [.ref (ad 0 0), .int (nI j1), .int 1, .int (nI j2), .int (nI j3), .int 1]) (st' := [.int (nI j3), .int (nI j2), .int 1, .int (nI j1), .ref q, .ref q, .int (nI nc), .ref (ad 0 1)]) (M' := mm (alO M q 2) (mI (alO M q 2)) (mJ (alO M q 2))) (ps := [(.ref q : Value).category = 1]) rfl ⟨rfl, trivial⟩ ?_
              refine go_callI rfl (by decide) rfl rfl (by omega) rfl (by first | decide | omega) (by first | decide | omega) ?_
              show Go (1311 - 1) 20 0 0 0 [.ref q, .int (nI j1), .int 1, .int (nI j2), .int (nI j3)] [] (mm (alO M q 2) (mI (alO M q 2)) (mJ (alO M q 2))) _
              refine go_blk 1 [] (pc' := 1) (vs' := [.ref q, .int (nI j1), .int 1, .int (nI j2), .int (nI j3)]) (st' := [.ref q]) (M' := mm (alO M q 2) (mI (alO M q 2)) (mJ (alO M q 2))) (ps := []) rfl trivial ?_
              refine go_obj rfl (by omega) (by decide) ?_
              refine go_blk 21 [] (pc' := 40) (vs' := [.ref q, .int (nI j1), .int 1, .int (nI j2), .int (nI j3)]) (st' := []) (M' := mm (alO M q 2) (up2 (up2 (up2 (up2 (up2 (up2 (up2 (mI (alO M q 2)) q 5 (-1)) q 6 (-1)) q 7 (-1)) q 0 (nI j1)) q 1 1) q 3 (nI j2)) q 2 (nI j3)) (mJ (alO M q 2))) (ps := [ob (mm (alO M q 2) (mI (alO M q 2)) (mJ (alO M q 2))) q 2, ob (mm (alO M q 2) (up2 (mI (alO M q 2)) q 5 (-1)) (mJ (alO M q 2))) q 2, ob (mm (alO M q 2) (up2 (up2 (mI (alO M q 2)) q 5 (-1)) q 6 (-1)) (mJ (alO M q 2))) q 2, ob (mm (alO M q 2) (up2 (up2 (up2 (mI (alO M q 2)) q 5 (-1)) q 6 (-1)) q 7 (-1)) (mJ (alO M q 2))) q 2, ob (mm (alO M q 2) (up2 (up2 (up2 (up2 (mI (alO M q 2)) q 5 (-1)) q 6 (-1)) q 7 (-1)) q 0 (nI j1)) (mJ (alO M q 2))) q 2, 1 = 0 ∨ 1 = 1, ob (mm (alO M q 2) (up2 (up2 (up2 (up2 (up2 (mI (alO M q 2)) q 5 (-1)) q 6 (-1)) q 7 (-1)) q 0 (nI j1)) q 1 1) (mJ (alO M q 2))) q 2, ob (mm (alO M q 2) (up2 (up2 (up2 (up2 (up2 (up2 (mI (alO M q 2)) q 5 (-1)) q 6 (-1)) q 7 (-1)) q 0 (nI j1)) q 1 1) q 3 (nI j2)) (mJ (alO M q 2))) q 2]) rfl ⟨(alO_ob M q 2), (alO_ob M q 2), (alO_ob M q 2), (alO_ob M q 2), (alO_ob M q 2), (Or.inr rfl), (alO_ob M q 2), (alO_ob M q 2), trivial⟩ ?_
              refine go_vret rfl rfl ?_
              refine ⟨rfl, ?_⟩
              show Go 1311 116 0 0 84 [.ref (ad 0 0), .int (nI j1), .int 1, .int (nI j2), .int (nI j3), .int 1] [.ref q, .int (nI nc), .ref (ad 0 1)] (mm (alO M q 2) (up2 (up2 (up2 (up2 (up2 (up2 (up2 (mI (alO M q 2)) q 5 (-1)) q 6 (-1)) q 7 (-1)) q 0 (nI j1)) q 1 1) q 3 (nI j2)) q 2 (nI j3)) (mJ (alO M q 2))) R
              refine go_blk 1 [] (pc' := 85) (vs' := [.ref (ad 0 0), .int (nI j1), .int 1, .int (nI j2), .int (nI j3), .int 1]) (st' := []) (M' := mm (sR (alO M q 2) (ad 0 1) ((nI nc).toNatClampNeg) (some q)) (up2 (up2 (up2 (up2 (up2 (up2 (up2 (mI (alO M q 2)) q 5 (-1)) q 6 (-1)) q 7 (-1)) q 0 (nI j1)) q 1 1) q 3 (nI j2)) q 2 (nI j3)) (mJ (alO M q 2))) (ps := [ob (mm (alO M q 2) (up2 (up2 (up2 (up2 (up2 (up2 (up2 (mI (alO M q 2)) q 5 (-1)) q 6 (-1)) q 7 (-1)) q 0 (nI j1)) q 1 1) q 3 (nI j2)) q 2 (nI j3)) (mJ (alO M q 2))) (ad 0 1) 18, 17 ≤ 18 ∧ 18 < 22, ob (mm (alO M q 2) (up2 (up2 (up2 (up2 (up2 (up2 (up2 (mI (alO M q 2)) q 5 (-1)) q 6 (-1)) q 7 (-1)) q 0 (nI j1)) q 1 1) q 3 (nI j2)) q 2 (nI j3)) (mJ (alO M q 2))) q (zaI.getD (18 - 17) 0), vp_in (nI nc) (mN (mm (alO M q 2) (up2 (up2 (up2 (up2 (up2 (up2 (up2 (mI (alO M q 2)) q 5 (-1)) q 6 (-1)) q 7 (-1)) q 0 (nI j1)) q 1 1) q 3 (nI j2)) q 2 (nI j3)) (mJ (alO M q 2))) (ad 0 1))]) rfl ⟨alO_old (hF.o 1) hq01, (by decide), alO_ob M q 2, (vpi (hF.n 1) (show nc < 7 by omega)), trivial⟩ ?_
              rw [nI_clamp (n := nc) (by omega)]
              have hU : ∀ t i, Us nc nb nt nx t i → swp ad q 1 nc t i = ad t i := fun t i u => swp_old (fun z => by obtain ⟨rfl, rfl⟩ := z; exact absurd u (Nat.lt_irrefl _)) (hqu t i u)
              have hrow : ∀ a, ¬ a = q → (up2 (up2 (up2 (up2 (up2 (up2 (up2 (mI (alO M q 2)) q 5 (-1)) q 6 (-1)) q 7 (-1)) q 0 (nI j1)) q 1 1) q 3 (nI j2)) q 2 (nI j3)) a = mI M a := fun a ha => by rw [up2_row ha, up2_row ha, up2_row ha, up2_row ha, up2_row ha, up2_row ha, up2_row ha]; exact va_up_o ha
              have e11 : swp ad q 1 nc 1 nc = q := swp_new ad q 1 nc
              have e01 : swp ad q 1 nc 0 1 = ad 0 1 := hU 0 1 (show 1 < 41 by decide)
              have hW2 : WI (mm (sR (alO M q 2) (ad 0 1) nc (some q)) (up2 (up2 (up2 (up2 (up2 (up2 (up2 (mI (alO M q 2)) q 5 (-1)) q 6 (-1)) q 7 (-1)) q 0 (nI j1)) q 1 1) q 3 (nI j2)) q 2 (nI j3)) (mJ (alO M q 2))) (swp ad q 1 nc) nc nb nt wk nw nx nl ne nk kd false := by
                refine hW.re (swp_inj hi q 1 nc) hU (fun b hb hj => swp_old (fun z => by omega) (fun z => hq (z ▸ hW.at6 hb hj))) (fun t i u => ?_) (fun b hb hj => ?_) (fun t i k u v => ?_) (fun b k hb hj => ?_)
                · exact ⟨List.mem_append_left _ (hW.at u), va_up_o (hqu t i u), rfl, hrow _ (hqu t i u), va_up_o (hqu t i u)⟩
                · have hz : ¬ ad 6 b = q := fun z => hq (z ▸ hW.at6 hb hj)
                  exact ⟨List.mem_append_left _ (hW.at6 hb hj), va_up_o hz, rfl, hrow _ hz, va_up_o hz⟩
                · show up2 (va_up (mR M) q (fun _ => none)) (ad 0 1) nc (some q) (ad t i) k = mR M (ad t i) k
                  rw [up2_n _ _ (fun z => v (by obtain ⟨z1, z2⟩ := hi _ _ _ _ z.1; unfold Xr; omega)), va_up_o (hqu t i u)]
                · have hz : ¬ ad 6 b = q := fun z => hq (z ▸ hW.at6 hb hj)
                  show up2 (va_up (mR M) q (fun _ => none)) (ad 0 1) nc (some q) (ad 6 b) k = mR M (ad 6 b) k
                  rw [up2_n _ _ (fun z => absurd (hi _ _ _ _ z.1).1 (by decide)), va_up_o hz]
              refine op0c1 (ad := swp ad q 1 nc) (p1 := j1) (p2 := j2) (p3 := j3) (hU 0 0 (show 0 < 41 by decide)) (hU 10 0 rfl) (hU 0 40 (show 40 < 41 by decide)) hsc hW2 (by omega) (by assumption) (by assumption) (by assumption) (by assumption) (by assumption) (by assumption) ?_ ?_ ?_ ?_ ?_ ?_ ?_ ?_ ?_ ?_ K
              · rw [e11]; exact alO_ob M q 2
              · rw [e11, e01]; show up2 (va_up (mR M) q (fun _ => none)) (ad 0 1) nc (some q) (ad 0 1) nc = some q; exact up2_s _ _ _ _
              · rw [e11]; show (up2 (up2 (up2 (up2 (up2 (up2 (up2 (mI (alO M q 2)) q 5 (-1)) q 6 (-1)) q 7 (-1)) q 0 (nI j1)) q 1 1) q 3 (nI j2)) q 2 (nI j3)) q 0 = _; simp [up2]
              · rw [e11]; show (up2 (up2 (up2 (up2 (up2 (up2 (up2 (mI (alO M q 2)) q 5 (-1)) q 6 (-1)) q 7 (-1)) q 0 (nI j1)) q 1 1) q 3 (nI j2)) q 2 (nI j3)) q 1 = _; simp [up2]
              · rw [e11]; show (up2 (up2 (up2 (up2 (up2 (up2 (up2 (mI (alO M q 2)) q 5 (-1)) q 6 (-1)) q 7 (-1)) q 0 (nI j1)) q 1 1) q 3 (nI j2)) q 2 (nI j3)) q 2 = _; simp [up2]
              · rw [e11]; show (up2 (up2 (up2 (up2 (up2 (up2 (up2 (mI (alO M q 2)) q 5 (-1)) q 6 (-1)) q 7 (-1)) q 0 (nI j1)) q 1 1) q 3 (nI j2)) q 2 (nI j3)) q 3 = _; simp [up2]
              · rw [e11]; show (up2 (up2 (up2 (up2 (up2 (up2 (up2 (mI (alO M q 2)) q 5 (-1)) q 6 (-1)) q 7 (-1)) q 0 (nI j1)) q 1 1) q 3 (nI j2)) q 2 (nI j3)) q 5 = _; simp [up2]
              · rw [e11]; show (up2 (up2 (up2 (up2 (up2 (up2 (up2 (mI (alO M q 2)) q 5 (-1)) q 6 (-1)) q 7 (-1)) q 0 (nI j1)) q 1 1) q 3 (nI j2)) q 2 (nI j3)) q 6 = _; simp [up2]
              · rw [e11]; show (up2 (up2 (up2 (up2 (up2 (up2 (up2 (mI (alO M q 2)) q 5 (-1)) q 6 (-1)) q 7 (-1)) q 0 (nI j1)) q 1 1) q 3 (nI j2)) q 2 (nI j3)) q 7 = _; simp [up2]
              · rw [e11]; show va_up (mJ M) q (fun _ => 0) q 4 = 0; simp [va_up]
              
              
            · -- ¬ ((nI nc) < 7)
              have nc4 : 7 ≤ nc := (nI_les (a := 7) (b := nc) (by omega) (by omega)).mp (Int32.not_lt.mp c4)
              refine go_blk 1 [] (pc' := 63) (vs' := [.ref (ad 0 0), .int (nI j1), .int 1, .int (nI j2), .int (nI j3), .int 1]) (st' := [.int (-1)]) (M' := mm M (mI M) (mJ M)) (ps := []) rfl trivial ?_
              refine go_iret rfl rfl ?_
              refine K _ _ hM.1 rfl (fun R2 h2 => ?_)
              show Go 1311 191 0 0 0 [.ref (ad 10 0), .int (nI j1), .int 1, .int (nI j2), .int (nI j3)] [] (mm M (mI M) (mJ M)) R2
              refine go_blk 5 [some (.int 0)] (pc' := 9) (vs' := [.ref (ad 10 0), .int (nI j1), .int 1, .int (nI j2), .int (nI j3)]) (st' := [.int 0]) (M' := mm M (up2 (mI M) (ad 10 0) 0 0) (mJ M)) (ps := [ob (mm M (mI M) (mJ M)) (ad 10 0) 12, ob (mm M (up2 (mI M) (ad 10 0) 0 0) (mJ M)) (ad 10 0) 12, (Value.int ((up2 (mI M) (ad 10 0) 0 0) (ad 10 0) 21)) = .int 0]) rfl ⟨hM.1, hM.1, congrArg Value.int (((up2_n _ _ (fun z => absurd z.2 (by decide))).trans (rfl)).trans op2), trivial⟩ ?_
              refine go_if rfl (fun (z : ¬ (0 : Int32) = 0) => absurd z (show ¬ (¬ (0 : Int32) = 0) from (by decide))) (fun _ => ?_)
              refine go_blk 3 [some (.int (nI nc))] (pc' := 18) (vs' := [.ref (ad 10 0), .int (nI j1), .int 1, .int (nI j2), .int (nI j3)]) (st' := [.int 7, .int (nI nc)]) (M' := mm M (up2 (mI M) (ad 10 0) 0 0) (mJ M)) (ps := [ob (mm M (up2 (mI M) (ad 10 0) 0 0) (mJ M)) (ad 10 0) 12, (Value.int ((up2 (mI M) (ad 10 0) 0 0) (ad 10 0) 17)) = .int (nI nc)]) rfl ⟨hM.1, congrArg Value.int (((up2_n _ _ (fun z => absurd z.2 (by decide))).trans (rfl)).trans nc2), trivial⟩ ?_
              refine go_icmp rfl (fun (c5 : (nI nc) = 7) => ?_) (fun (c5 : ¬ ((nI nc) = 7)) => ?_)
              · -- (nI nc) = 7
                have nc5 : nc = 7 := (nI_eqs (a := nc) (b := 7) (by omega) (by omega)).mp c5
                refine go_blk 1 [] (pc' := 56) (vs' := [.ref (ad 10 0), .int (nI j1), .int 1, .int (nI j2), .int (nI j3)]) (st' := [.int (-1)]) (M' := mm M (up2 (mI M) (ad 10 0) 0 0) (mJ M)) (ps := []) rfl trivial ?_
                refine go_iret rfl rfl ?_
                exact h2 _ ⟨hsc, ad, nc, nb, nt, wk, nw, nx, nl, ne, nk, kd, false, rfl, rfl, rfl, hW.thr⟩
              · -- ¬ ((nI nc) = 7)
                have nc5 : ¬ nc = 7 := fun q => c5 ((nI_eqs (a := nc) (b := 7) (by omega) (by omega)).mpr q)
                refine go_blk 3 [] (pc' := 25) (vs' := [.ref (ad 10 0), .int (nI j1), .int 1, .int (nI j2), .int (nI j3)]) (st' := [.int 12, .int 1, .int (nI j1)]) (M' := mm M (up2 (mI M) (ad 10 0) 0 0) (mJ M)) (ps := []) rfl trivial ?_
                refine go_callS rfl (by decide) rfl rfl (by omega) rfl (by decide) (by decide) ?_
                refine s_Mo_isInK 1 12 (by decide) (by decide) (fun j6 hl6 hj6 hx6 => ⟨ne_i, ?_⟩) (fun c6 => ⟨ne_i, ?_⟩)
                · -- 1
                  show Go 1311 191 0 0 28 [.ref (ad 10 0), .int (nI j1), .int 1, .int (nI j2), .int (nI j3)] [.int 1] (mm M (up2 (mI M) (ad 10 0) 0 0) (mJ M)) R2
                  refine go_if rfl (fun (z : (1 : Int32) = 0) => absurd z (show ¬ ((1 : Int32) = 0) from (by decide))) (fun _ => ?_)
                  refine go_blk 3 [] (pc' := 36) (vs' := [.ref (ad 10 0), .int (nI j1), .int 1, .int (nI j2), .int (nI j3)]) (st' := [.int 2000, .int 1, .int (nI j2)]) (M' := mm M (up2 (mI M) (ad 10 0) 0 0) (mJ M)) (ps := []) rfl trivial ?_
                  refine go_callS rfl (by decide) rfl rfl (by omega) rfl (by decide) (by decide) ?_
                  refine s_Mo_isInK 1 2000 (by decide) (by decide) (fun j7 hl7 hj7 hx7 => ⟨ne_i, ?_⟩) (fun c7 => ⟨ne_i, ?_⟩)
                  · -- 1
                    show Go 1311 191 0 0 39 [.ref (ad 10 0), .int (nI j1), .int 1, .int (nI j2), .int (nI j3)] [.int 1] (mm M (up2 (mI M) (ad 10 0) 0 0) (mJ M)) R2
                    refine go_if rfl (fun (z : (1 : Int32) = 0) => absurd z (show ¬ ((1 : Int32) = 0) from (by decide))) (fun _ => ?_)
                    refine go_blk 3 [] (pc' := 49) (vs' := [.ref (ad 10 0), .int (nI j1), .int 1, .int (nI j2), .int (nI j3)]) (st' := [.int 240, .int 10, .int (nI j3)]) (M' := mm M (up2 (mI M) (ad 10 0) 0 0) (mJ M)) (ps := []) rfl trivial ?_
                    refine go_callS rfl (by decide) rfl rfl (by omega) rfl (by decide) (by decide) ?_
                    refine s_Mo_isInK 10 240 (by decide) (by decide) (fun j8 hl8 hj8 hx8 => ⟨ne_i, ?_⟩) (fun c8 => ⟨ne_i, ?_⟩)
                    · -- 1
                      show Go 1311 191 0 0 52 [.ref (ad 10 0), .int (nI j1), .int 1, .int (nI j2), .int (nI j3)] [.int 1] (mm M (up2 (mI M) (ad 10 0) 0 0) (mJ M)) R2
                      refine go_if rfl (fun _ => ?_) (fun (z : ¬ (¬ (1 : Int32) = 0)) => absurd (show ¬ (1 : Int32) = 0 from (by decide)) z)
                      refine go_blk 34 [some (.ref (ad 9 1)), some (.int (nI nc)), some (.ref (ad 9 4)), some (.int (nI nc)), some (.ref (ad 9 2)), some (.int (nI nc)), some (.ref (ad 9 3)), some (.int (nI nc)), some (.int (nI nc)), some (.int ((nI nc) + 1))] (pc' := 114) (vs' := [.ref (ad 10 0), .int (nI j1), .int 1, .int (nI j2), .int (nI j3)]) (st' := [.int (((nI nc) + 1) - 1)]) (M' := mm M (up2 (up2 (up2 (up2 (up2 (up2 (mI M) (ad 10 0) 0 0) (ad 9 1) ((nI nc).toNatClampNeg) (nI j1)) (ad 9 4) ((nI nc).toNatClampNeg) 1) (ad 9 2) ((nI nc).toNatClampNeg) (nI j2)) (ad 9 3) ((nI nc).toNatClampNeg) (nI j3)) (ad 10 0) 17 ((nI nc) + 1)) (mJ M)) (ps := [ob (mm M (up2 (mI M) (ad 10 0) 0 0) (mJ M)) (ad 10 0) 12, mR (mm M (up2 (mI M) (ad 10 0) 0 0) (mJ M)) (ad 10 0) 1 = some (ad 9 1), va_rf (some (ad 9 1)) = .ref (ad 9 1), ob (mm M (up2 (mI M) (ad 10 0) 0 0) (mJ M)) (ad 10 0) 12, (Value.int ((up2 (mI M) (ad 10 0) 0 0) (ad 10 0) 17)) = .int (nI nc), ob (mm M (up2 (mI M) (ad 10 0) 0 0) (mJ M)) (ad 9 1) 15, vp_in (nI nc) (mN (mm M (up2 (mI M) (ad 10 0) 0 0) (mJ M)) (ad 9 1)), ob (mm M (up2 (up2 (mI M) (ad 10 0) 0 0) (ad 9 1) ((nI nc).toNatClampNeg) (nI j1)) (mJ M)) (ad 10 0) 12, mR (mm M (up2 (up2 (mI M) (ad 10 0) 0 0) (ad 9 1) ((nI nc).toNatClampNeg) (nI j1)) (mJ M)) (ad 10 0) 4 = some (ad 9 4), va_rf (some (ad 9 4)) = .ref (ad 9 4), ob (mm M (up2 (up2 (mI M) (ad 10 0) 0 0) (ad 9 1) ((nI nc).toNatClampNeg) (nI j1)) (mJ M)) (ad 10 0) 12, (Value.int ((up2 (up2 (mI M) (ad 10 0) 0 0) (ad 9 1) ((nI nc).toNatClampNeg) (nI j1)) (ad 10 0) 17)) = .int (nI nc), ob (mm M (up2 (up2 (mI M) (ad 10 0) 0 0) (ad 9 1) ((nI nc).toNatClampNeg) (nI j1)) (mJ M)) (ad 9 4) 13, vp_in (nI nc) (mN (mm M (up2 (up2 (mI M) (ad 10 0) 0 0) (ad 9 1) ((nI nc).toNatClampNeg) (nI j1)) (mJ M)) (ad 9 4)), ob (mm M (up2 (up2 (up2 (mI M) (ad 10 0) 0 0) (ad 9 1) ((nI nc).toNatClampNeg) (nI j1)) (ad 9 4) ((nI nc).toNatClampNeg) 1) (mJ M)) (ad 10 0) 12, mR (mm M (up2 (up2 (up2 (mI M) (ad 10 0) 0 0) (ad 9 1) ((nI nc).toNatClampNeg) (nI j1)) (ad 9 4) ((nI nc).toNatClampNeg) 1) (mJ M)) (ad 10 0) 2 = some (ad 9 2), va_rf (some (ad 9 2)) = .ref (ad 9 2), ob (mm M (up2 (up2 (up2 (mI M) (ad 10 0) 0 0) (ad 9 1) ((nI nc).toNatClampNeg) (nI j1)) (ad 9 4) ((nI nc).toNatClampNeg) 1) (mJ M)) (ad 10 0) 12, (Value.int ((up2 (up2 (up2 (mI M) (ad 10 0) 0 0) (ad 9 1) ((nI nc).toNatClampNeg) (nI j1)) (ad 9 4) ((nI nc).toNatClampNeg) 1) (ad 10 0) 17)) = .int (nI nc), ob (mm M (up2 (up2 (up2 (mI M) (ad 10 0) 0 0) (ad 9 1) ((nI nc).toNatClampNeg) (nI j1)) (ad 9 4) ((nI nc).toNatClampNeg) 1) (mJ M)) (ad 9 2) 15, vp_in (nI nc) (mN (mm M (up2 (up2 (up2 (mI M) (ad 10 0) 0 0) (ad 9 1) ((nI nc).toNatClampNeg) (nI j1)) (ad 9 4) ((nI nc).toNatClampNeg) 1) (mJ M)) (ad 9 2)), ob (mm M (up2 (up2 (up2 (up2 (mI M) (ad 10 0) 0 0) (ad 9 1) ((nI nc).toNatClampNeg) (nI j1)) (ad 9 4) ((nI nc).toNatClampNeg) 1) (ad 9 2) ((nI nc).toNatClampNeg) (nI j2)) (mJ M)) (ad 10 0) 12, mR (mm M (up2 (up2 (up2 (up2 (mI M) (ad 10 0) 0 0) (ad 9 1) ((nI nc).toNatClampNeg) (nI j1)) (ad 9 4) ((nI nc).toNatClampNeg) 1) (ad 9 2) ((nI nc).toNatClampNeg) (nI j2)) (mJ M)) (ad 10 0) 3 = some (ad 9 3), va_rf (some (ad 9 3)) = .ref (ad 9 3), ob (mm M (up2 (up2 (up2 (up2 (mI M) (ad 10 0) 0 0) (ad 9 1) ((nI nc).toNatClampNeg) (nI j1)) (ad 9 4) ((nI nc).toNatClampNeg) 1) (ad 9 2) ((nI nc).toNatClampNeg) (nI j2)) (mJ M)) (ad 10 0) 12, (Value.int ((up2 (up2 (up2 (up2 (mI M) (ad 10 0) 0 0) (ad 9 1) ((nI nc).toNatClampNeg) (nI j1)) (ad 9 4) ((nI nc).toNatClampNeg) 1) (ad 9 2) ((nI nc).toNatClampNeg) (nI j2)) (ad 10 0) 17)) = .int (nI nc), ob (mm M (up2 (up2 (up2 (up2 (mI M) (ad 10 0) 0 0) (ad 9 1) ((nI nc).toNatClampNeg) (nI j1)) (ad 9 4) ((nI nc).toNatClampNeg) 1) (ad 9 2) ((nI nc).toNatClampNeg) (nI j2)) (mJ M)) (ad 9 3) 15, vp_in (nI nc) (mN (mm M (up2 (up2 (up2 (up2 (mI M) (ad 10 0) 0 0) (ad 9 1) ((nI nc).toNatClampNeg) (nI j1)) (ad 9 4) ((nI nc).toNatClampNeg) 1) (ad 9 2) ((nI nc).toNatClampNeg) (nI j2)) (mJ M)) (ad 9 3)), (.ref (ad 10 0) : Value).category = 1, ob (mm M (up2 (up2 (up2 (up2 (up2 (mI M) (ad 10 0) 0 0) (ad 9 1) ((nI nc).toNatClampNeg) (nI j1)) (ad 9 4) ((nI nc).toNatClampNeg) 1) (ad 9 2) ((nI nc).toNatClampNeg) (nI j2)) (ad 9 3) ((nI nc).toNatClampNeg) (nI j3)) (mJ M)) (ad 10 0) 12, (Value.int ((up2 (up2 (up2 (up2 (up2 (mI M) (ad 10 0) 0 0) (ad 9 1) ((nI nc).toNatClampNeg) (nI j1)) (ad 9 4) ((nI nc).toNatClampNeg) 1) (ad 9 2) ((nI nc).toNatClampNeg) (nI j2)) (ad 9 3) ((nI nc).toNatClampNeg) (nI j3)) (ad 10 0) 17)) = .int (nI nc), ob (mm M (up2 (up2 (up2 (up2 (up2 (mI M) (ad 10 0) 0 0) (ad 9 1) ((nI nc).toNatClampNeg) (nI j1)) (ad 9 4) ((nI nc).toNatClampNeg) 1) (ad 9 2) ((nI nc).toNatClampNeg) (nI j2)) (ad 9 3) ((nI nc).toNatClampNeg) (nI j3)) (mJ M)) (ad 10 0) 12, ob (mm M (up2 (up2 (up2 (up2 (up2 (up2 (mI M) (ad 10 0) 0 0) (ad 9 1) ((nI nc).toNatClampNeg) (nI j1)) (ad 9 4) ((nI nc).toNatClampNeg) 1) (ad 9 2) ((nI nc).toNatClampNeg) (nI j2)) (ad 9 3) ((nI nc).toNatClampNeg) (nI j3)) (ad 10 0) 17 ((nI nc) + 1)) (mJ M)) (ad 10 0) 12, (Value.int ((up2 (up2 (up2 (up2 (up2 (up2 (mI M) (ad 10 0) 0 0) (ad 9 1) ((nI nc).toNatClampNeg) (nI j1)) (ad 9 4) ((nI nc).toNatClampNeg) 1) (ad 9 2) ((nI nc).toNatClampNeg) (nI j2)) (ad 9 3) ((nI nc).toNatClampNeg) (nI j3)) (ad 10 0) 17 ((nI nc) + 1)) (ad 10 0) 17)) = .int ((nI nc) + 1)]) rfl ⟨hM.1, (hM.r 1 15 7), rfl, hM.1, congrArg Value.int (((up2_n _ _ (fun z => absurd z.2 (by decide))).trans (rfl)).trans nc2), (hM.o 1 15 7), (vpi (hM.n 1 15 7) (by omega)), hM.1, (hM.r 4 13 7), rfl, hM.1, congrArg Value.int (((up2_n _ _ (fun z => absurd (hi _ _ _ _ z.1).1 (by decide))).trans ((up2_n _ _ (fun z => absurd z.2 (by decide))).trans (rfl))).trans nc2), (hM.o 4 13 7), (vpi (hM.n 4 13 7) (by omega)), hM.1, (hM.r 2 15 7), rfl, hM.1, congrArg Value.int (((up2_n _ _ (fun z => absurd (hi _ _ _ _ z.1).1 (by decide))).trans ((up2_n _ _ (fun z => absurd (hi _ _ _ _ z.1).1 (by decide))).trans ((up2_n _ _ (fun z => absurd z.2 (by decide))).trans (rfl)))).trans nc2), (hM.o 2 15 7), (vpi (hM.n 2 15 7) (by omega)), hM.1, (hM.r 3 15 7), rfl, hM.1, congrArg Value.int (((up2_n _ _ (fun z => absurd (hi _ _ _ _ z.1).1 (by decide))).trans ((up2_n _ _ (fun z => absurd (hi _ _ _ _ z.1).1 (by decide))).trans ((up2_n _ _ (fun z => absurd (hi _ _ _ _ z.1).1 (by decide))).trans ((up2_n _ _ (fun z => absurd z.2 (by decide))).trans (rfl))))).trans nc2), (hM.o 3 15 7), (vpi (hM.n 3 15 7) (by omega)), rfl, hM.1, congrArg Value.int (((up2_n _ _ (fun z => absurd (hi _ _ _ _ z.1).1 (by decide))).trans ((up2_n _ _ (fun z => absurd (hi _ _ _ _ z.1).1 (by decide))).trans ((up2_n _ _ (fun z => absurd (hi _ _ _ _ z.1).1 (by decide))).trans ((up2_n _ _ (fun z => absurd (hi _ _ _ _ z.1).1 (by decide))).trans ((up2_n _ _ (fun z => absurd z.2 (by decide))).trans (rfl)))))).trans nc2), hM.1, hM.1, congrArg Value.int (up2_s _ _ _ _), trivial⟩ ?_
                      rw [nI_clamp (n := nc) (by omega)]
                      refine go_iret rfl rfl ?_
                      exfalso
                      clear K h2 hW hsc jO jR jB jX jL kO kC kD kP kX iC iB iR iL iT iS hC hB hT hX hF hM hi
                      grind
                    · exact absurd ⟨j3, hl3, hj3, rfl⟩ c8
                  · exact absurd ⟨j2, hl2, hj2, rfl⟩ c7
                · exact absurd ⟨j1, hl1, hj1, rfl⟩ c6
          · -- 0
            show Go 1311 116 1 8 31 [.ref (ad 0 0), .int (nI j1), .int 1, .int (nI j2), .int a4, .retAddr 0] [.int 0] (mm M (mI M) (mJ M)) R
            refine go_if rfl (fun _ => ?_) (fun (z : ¬ ((0 : Int32) = 0)) => absurd (show (0 : Int32) = 0 from (by decide)) z)
            refine go_blk 3 [] (pc' := 43) (vs' := [.ref (ad 0 0), .int (nI j1), .int 1, .int (nI j2), .int a4, .int 0]) (st' := [.int 0]) (M' := mm M (mI M) (mJ M)) (ps := []) rfl trivial ?_
            refine go_if rfl (fun _ => ?_) (fun (z : ¬ ((0 : Int32) = 0)) => absurd (show (0 : Int32) = 0 from (by decide)) z)
            refine go_blk 1 [] (pc' := 63) (vs' := [.ref (ad 0 0), .int (nI j1), .int 1, .int (nI j2), .int a4, .int 0]) (st' := [.int (-1)]) (M' := mm M (mI M) (mJ M)) (ps := []) rfl trivial ?_
            refine go_iret rfl rfl ?_
            refine K _ _ hM.1 rfl (fun R2 h2 => ?_)
            show Go 1311 191 0 0 0 [.ref (ad 10 0), .int (nI j1), .int 1, .int (nI j2), .int a4] [] (mm M (mI M) (mJ M)) R2
            refine go_blk 5 [some (.int 0)] (pc' := 9) (vs' := [.ref (ad 10 0), .int (nI j1), .int 1, .int (nI j2), .int a4]) (st' := [.int 0]) (M' := mm M (up2 (mI M) (ad 10 0) 0 0) (mJ M)) (ps := [ob (mm M (mI M) (mJ M)) (ad 10 0) 12, ob (mm M (up2 (mI M) (ad 10 0) 0 0) (mJ M)) (ad 10 0) 12, (Value.int ((up2 (mI M) (ad 10 0) 0 0) (ad 10 0) 21)) = .int 0]) rfl ⟨hM.1, hM.1, congrArg Value.int (((up2_n _ _ (fun z => absurd z.2 (by decide))).trans (rfl)).trans op2), trivial⟩ ?_
            refine go_if rfl (fun (z : ¬ (0 : Int32) = 0) => absurd z (show ¬ (¬ (0 : Int32) = 0) from (by decide))) (fun _ => ?_)
            refine go_blk 3 [some (.int (nI nc))] (pc' := 18) (vs' := [.ref (ad 10 0), .int (nI j1), .int 1, .int (nI j2), .int a4]) (st' := [.int 7, .int (nI nc)]) (M' := mm M (up2 (mI M) (ad 10 0) 0 0) (mJ M)) (ps := [ob (mm M (up2 (mI M) (ad 10 0) 0 0) (mJ M)) (ad 10 0) 12, (Value.int ((up2 (mI M) (ad 10 0) 0 0) (ad 10 0) 17)) = .int (nI nc)]) rfl ⟨hM.1, congrArg Value.int (((up2_n _ _ (fun z => absurd z.2 (by decide))).trans (rfl)).trans nc2), trivial⟩ ?_
            refine go_icmp rfl (fun (c9 : (nI nc) = 7) => ?_) (fun (c9 : ¬ ((nI nc) = 7)) => ?_)
            · -- (nI nc) = 7
              have nc9 : nc = 7 := (nI_eqs (a := nc) (b := 7) (by omega) (by omega)).mp c9
              refine go_blk 1 [] (pc' := 56) (vs' := [.ref (ad 10 0), .int (nI j1), .int 1, .int (nI j2), .int a4]) (st' := [.int (-1)]) (M' := mm M (up2 (mI M) (ad 10 0) 0 0) (mJ M)) (ps := []) rfl trivial ?_
              refine go_iret rfl rfl ?_
              exact h2 _ ⟨hsc, ad, nc, nb, nt, wk, nw, nx, nl, ne, nk, kd, false, rfl, rfl, rfl, hW.thr⟩
            · -- ¬ ((nI nc) = 7)
              have nc9 : ¬ nc = 7 := fun q => c9 ((nI_eqs (a := nc) (b := 7) (by omega) (by omega)).mpr q)
              refine go_blk 3 [] (pc' := 25) (vs' := [.ref (ad 10 0), .int (nI j1), .int 1, .int (nI j2), .int a4]) (st' := [.int 12, .int 1, .int (nI j1)]) (M' := mm M (up2 (mI M) (ad 10 0) 0 0) (mJ M)) (ps := []) rfl trivial ?_
              refine go_callS rfl (by decide) rfl rfl (by omega) rfl (by decide) (by decide) ?_
              refine s_Mo_isInK 1 12 (by decide) (by decide) (fun j10 hl10 hj10 hx10 => ⟨ne_i, ?_⟩) (fun c10 => ⟨ne_i, ?_⟩)
              · -- 1
                show Go 1311 191 0 0 28 [.ref (ad 10 0), .int (nI j1), .int 1, .int (nI j2), .int a4] [.int 1] (mm M (up2 (mI M) (ad 10 0) 0 0) (mJ M)) R2
                refine go_if rfl (fun (z : (1 : Int32) = 0) => absurd z (show ¬ ((1 : Int32) = 0) from (by decide))) (fun _ => ?_)
                refine go_blk 3 [] (pc' := 36) (vs' := [.ref (ad 10 0), .int (nI j1), .int 1, .int (nI j2), .int a4]) (st' := [.int 2000, .int 1, .int (nI j2)]) (M' := mm M (up2 (mI M) (ad 10 0) 0 0) (mJ M)) (ps := []) rfl trivial ?_
                refine go_callS rfl (by decide) rfl rfl (by omega) rfl (by decide) (by decide) ?_
                refine s_Mo_isInK 1 2000 (by decide) (by decide) (fun j11 hl11 hj11 hx11 => ⟨ne_i, ?_⟩) (fun c11 => ⟨ne_i, ?_⟩)
                · -- 1
                  show Go 1311 191 0 0 39 [.ref (ad 10 0), .int (nI j1), .int 1, .int (nI j2), .int a4] [.int 1] (mm M (up2 (mI M) (ad 10 0) 0 0) (mJ M)) R2
                  refine go_if rfl (fun (z : (1 : Int32) = 0) => absurd z (show ¬ ((1 : Int32) = 0) from (by decide))) (fun _ => ?_)
                  refine go_blk 3 [] (pc' := 49) (vs' := [.ref (ad 10 0), .int (nI j1), .int 1, .int (nI j2), .int a4]) (st' := [.int 240, .int 10, .int a4]) (M' := mm M (up2 (mI M) (ad 10 0) 0 0) (mJ M)) (ps := []) rfl trivial ?_
                  refine go_callS rfl (by decide) rfl rfl (by omega) rfl (by decide) (by decide) ?_
                  refine s_Mo_isInK 10 240 (by decide) (by decide) (fun j12 hl12 hj12 hx12 => ⟨ne_i, ?_⟩) (fun c12 => ⟨ne_i, ?_⟩)
                  · exact absurd ⟨j12, hl12, hj12, hx12⟩ c3
                  · -- 0
                    show Go 1311 191 0 0 52 [.ref (ad 10 0), .int (nI j1), .int 1, .int (nI j2), .int a4] [.int 0] (mm M (up2 (mI M) (ad 10 0) 0 0) (mJ M)) R2
                    refine go_if rfl (fun (z : ¬ (0 : Int32) = 0) => absurd z (show ¬ (¬ (0 : Int32) = 0) from (by decide))) (fun _ => ?_)
                    refine go_blk 1 [] (pc' := 56) (vs' := [.ref (ad 10 0), .int (nI j1), .int 1, .int (nI j2), .int a4]) (st' := [.int (-1)]) (M' := mm M (up2 (mI M) (ad 10 0) 0 0) (mJ M)) (ps := []) rfl trivial ?_
                    refine go_iret rfl rfl ?_
                    exact h2 _ ⟨hsc, ad, nc, nb, nt, wk, nw, nx, nl, ne, nk, kd, false, rfl, rfl, rfl, hW.thr⟩
                · exact absurd ⟨j2, hl2, hj2, rfl⟩ c11
              · exact absurd ⟨j1, hl1, hj1, rfl⟩ c10
        · -- 0
          show Go 1311 116 1 8 18 [.ref (ad 0 0), .int (nI j1), .int 1, .int a3, .int a4, .retAddr 0] [.int 0] (mm M (mI M) (mJ M)) R
          refine go_if rfl (fun _ => ?_) (fun (z : ¬ ((0 : Int32) = 0)) => absurd (show (0 : Int32) = 0 from (by decide)) z)
          refine go_blk 3 [] (pc' := 43) (vs' := [.ref (ad 0 0), .int (nI j1), .int 1, .int a3, .int a4, .int 0]) (st' := [.int 0]) (M' := mm M (mI M) (mJ M)) (ps := []) rfl trivial ?_
          refine go_if rfl (fun _ => ?_) (fun (z : ¬ ((0 : Int32) = 0)) => absurd (show (0 : Int32) = 0 from (by decide)) z)
          refine go_blk 1 [] (pc' := 63) (vs' := [.ref (ad 0 0), .int (nI j1), .int 1, .int a3, .int a4, .int 0]) (st' := [.int (-1)]) (M' := mm M (mI M) (mJ M)) (ps := []) rfl trivial ?_
          refine go_iret rfl rfl ?_
          refine K _ _ hM.1 rfl (fun R2 h2 => ?_)
          show Go 1311 191 0 0 0 [.ref (ad 10 0), .int (nI j1), .int 1, .int a3, .int a4] [] (mm M (mI M) (mJ M)) R2
          refine go_blk 5 [some (.int 0)] (pc' := 9) (vs' := [.ref (ad 10 0), .int (nI j1), .int 1, .int a3, .int a4]) (st' := [.int 0]) (M' := mm M (up2 (mI M) (ad 10 0) 0 0) (mJ M)) (ps := [ob (mm M (mI M) (mJ M)) (ad 10 0) 12, ob (mm M (up2 (mI M) (ad 10 0) 0 0) (mJ M)) (ad 10 0) 12, (Value.int ((up2 (mI M) (ad 10 0) 0 0) (ad 10 0) 21)) = .int 0]) rfl ⟨hM.1, hM.1, congrArg Value.int (((up2_n _ _ (fun z => absurd z.2 (by decide))).trans (rfl)).trans op2), trivial⟩ ?_
          refine go_if rfl (fun (z : ¬ (0 : Int32) = 0) => absurd z (show ¬ (¬ (0 : Int32) = 0) from (by decide))) (fun _ => ?_)
          refine go_blk 3 [some (.int (nI nc))] (pc' := 18) (vs' := [.ref (ad 10 0), .int (nI j1), .int 1, .int a3, .int a4]) (st' := [.int 7, .int (nI nc)]) (M' := mm M (up2 (mI M) (ad 10 0) 0 0) (mJ M)) (ps := [ob (mm M (up2 (mI M) (ad 10 0) 0 0) (mJ M)) (ad 10 0) 12, (Value.int ((up2 (mI M) (ad 10 0) 0 0) (ad 10 0) 17)) = .int (nI nc)]) rfl ⟨hM.1, congrArg Value.int (((up2_n _ _ (fun z => absurd z.2 (by decide))).trans (rfl)).trans nc2), trivial⟩ ?_
          refine go_icmp rfl (fun (c13 : (nI nc) = 7) => ?_) (fun (c13 : ¬ ((nI nc) = 7)) => ?_)
          · -- (nI nc) = 7
            have nc13 : nc = 7 := (nI_eqs (a := nc) (b := 7) (by omega) (by omega)).mp c13
            refine go_blk 1 [] (pc' := 56) (vs' := [.ref (ad 10 0), .int (nI j1), .int 1, .int a3, .int a4]) (st' := [.int (-1)]) (M' := mm M (up2 (mI M) (ad 10 0) 0 0) (mJ M)) (ps := []) rfl trivial ?_
            refine go_iret rfl rfl ?_
            exact h2 _ ⟨hsc, ad, nc, nb, nt, wk, nw, nx, nl, ne, nk, kd, false, rfl, rfl, rfl, hW.thr⟩
          · -- ¬ ((nI nc) = 7)
            have nc13 : ¬ nc = 7 := fun q => c13 ((nI_eqs (a := nc) (b := 7) (by omega) (by omega)).mpr q)
            refine go_blk 3 [] (pc' := 25) (vs' := [.ref (ad 10 0), .int (nI j1), .int 1, .int a3, .int a4]) (st' := [.int 12, .int 1, .int (nI j1)]) (M' := mm M (up2 (mI M) (ad 10 0) 0 0) (mJ M)) (ps := []) rfl trivial ?_
            refine go_callS rfl (by decide) rfl rfl (by omega) rfl (by decide) (by decide) ?_
            refine s_Mo_isInK 1 12 (by decide) (by decide) (fun j14 hl14 hj14 hx14 => ⟨ne_i, ?_⟩) (fun c14 => ⟨ne_i, ?_⟩)
            · -- 1
              show Go 1311 191 0 0 28 [.ref (ad 10 0), .int (nI j1), .int 1, .int a3, .int a4] [.int 1] (mm M (up2 (mI M) (ad 10 0) 0 0) (mJ M)) R2
              refine go_if rfl (fun (z : (1 : Int32) = 0) => absurd z (show ¬ ((1 : Int32) = 0) from (by decide))) (fun _ => ?_)
              refine go_blk 3 [] (pc' := 36) (vs' := [.ref (ad 10 0), .int (nI j1), .int 1, .int a3, .int a4]) (st' := [.int 2000, .int 1, .int a3]) (M' := mm M (up2 (mI M) (ad 10 0) 0 0) (mJ M)) (ps := []) rfl trivial ?_
              refine go_callS rfl (by decide) rfl rfl (by omega) rfl (by decide) (by decide) ?_
              refine s_Mo_isInK 1 2000 (by decide) (by decide) (fun j15 hl15 hj15 hx15 => ⟨ne_i, ?_⟩) (fun c15 => ⟨ne_i, ?_⟩)
              · exact absurd ⟨j15, hl15, hj15, hx15⟩ c2
              · -- 0
                show Go 1311 191 0 0 39 [.ref (ad 10 0), .int (nI j1), .int 1, .int a3, .int a4] [.int 0] (mm M (up2 (mI M) (ad 10 0) 0 0) (mJ M)) R2
                refine go_if rfl (fun _ => ?_) (fun (z : ¬ ((0 : Int32) = 0)) => absurd (show (0 : Int32) = 0 from (by decide)) z)
                refine go_blk 1 [] (pc' := 56) (vs' := [.ref (ad 10 0), .int (nI j1), .int 1, .int a3, .int a4]) (st' := [.int (-1)]) (M' := mm M (up2 (mI M) (ad 10 0) 0 0) (mJ M)) (ps := []) rfl trivial ?_
                refine go_iret rfl rfl ?_
                exact h2 _ ⟨hsc, ad, nc, nb, nt, wk, nw, nx, nl, ne, nk, kd, false, rfl, rfl, rfl, hW.thr⟩
            · exact absurd ⟨j1, hl1, hj1, rfl⟩ c14
      · -- 0
        show Go 1311 116 1 8 7 [.ref (ad 0 0), .int a1, .int 1, .int a3, .int a4, .retAddr 0] [.int 0] (mm M (mI M) (mJ M)) R
        refine go_if rfl (fun _ => ?_) (fun (z : ¬ ((0 : Int32) = 0)) => absurd (show (0 : Int32) = 0 from (by decide)) z)
        refine go_blk 3 [] (pc' := 43) (vs' := [.ref (ad 0 0), .int a1, .int 1, .int a3, .int a4, .int 0]) (st' := [.int 0]) (M' := mm M (mI M) (mJ M)) (ps := []) rfl trivial ?_
        refine go_if rfl (fun _ => ?_) (fun (z : ¬ ((0 : Int32) = 0)) => absurd (show (0 : Int32) = 0 from (by decide)) z)
        refine go_blk 1 [] (pc' := 63) (vs' := [.ref (ad 0 0), .int a1, .int 1, .int a3, .int a4, .int 0]) (st' := [.int (-1)]) (M' := mm M (mI M) (mJ M)) (ps := []) rfl trivial ?_
        refine go_iret rfl rfl ?_
        refine K _ _ hM.1 rfl (fun R2 h2 => ?_)
        show Go 1311 191 0 0 0 [.ref (ad 10 0), .int a1, .int 1, .int a3, .int a4] [] (mm M (mI M) (mJ M)) R2
        refine go_blk 5 [some (.int 0)] (pc' := 9) (vs' := [.ref (ad 10 0), .int a1, .int 1, .int a3, .int a4]) (st' := [.int 0]) (M' := mm M (up2 (mI M) (ad 10 0) 0 0) (mJ M)) (ps := [ob (mm M (mI M) (mJ M)) (ad 10 0) 12, ob (mm M (up2 (mI M) (ad 10 0) 0 0) (mJ M)) (ad 10 0) 12, (Value.int ((up2 (mI M) (ad 10 0) 0 0) (ad 10 0) 21)) = .int 0]) rfl ⟨hM.1, hM.1, congrArg Value.int (((up2_n _ _ (fun z => absurd z.2 (by decide))).trans (rfl)).trans op2), trivial⟩ ?_
        refine go_if rfl (fun (z : ¬ (0 : Int32) = 0) => absurd z (show ¬ (¬ (0 : Int32) = 0) from (by decide))) (fun _ => ?_)
        refine go_blk 3 [some (.int (nI nc))] (pc' := 18) (vs' := [.ref (ad 10 0), .int a1, .int 1, .int a3, .int a4]) (st' := [.int 7, .int (nI nc)]) (M' := mm M (up2 (mI M) (ad 10 0) 0 0) (mJ M)) (ps := [ob (mm M (up2 (mI M) (ad 10 0) 0 0) (mJ M)) (ad 10 0) 12, (Value.int ((up2 (mI M) (ad 10 0) 0 0) (ad 10 0) 17)) = .int (nI nc)]) rfl ⟨hM.1, congrArg Value.int (((up2_n _ _ (fun z => absurd z.2 (by decide))).trans (rfl)).trans nc2), trivial⟩ ?_
        refine go_icmp rfl (fun (c16 : (nI nc) = 7) => ?_) (fun (c16 : ¬ ((nI nc) = 7)) => ?_)
        · -- (nI nc) = 7
          have nc16 : nc = 7 := (nI_eqs (a := nc) (b := 7) (by omega) (by omega)).mp c16
          refine go_blk 1 [] (pc' := 56) (vs' := [.ref (ad 10 0), .int a1, .int 1, .int a3, .int a4]) (st' := [.int (-1)]) (M' := mm M (up2 (mI M) (ad 10 0) 0 0) (mJ M)) (ps := []) rfl trivial ?_
          refine go_iret rfl rfl ?_
          exact h2 _ ⟨hsc, ad, nc, nb, nt, wk, nw, nx, nl, ne, nk, kd, false, rfl, rfl, rfl, hW.thr⟩
        · -- ¬ ((nI nc) = 7)
          have nc16 : ¬ nc = 7 := fun q => c16 ((nI_eqs (a := nc) (b := 7) (by omega) (by omega)).mpr q)
          refine go_blk 3 [] (pc' := 25) (vs' := [.ref (ad 10 0), .int a1, .int 1, .int a3, .int a4]) (st' := [.int 12, .int 1, .int a1]) (M' := mm M (up2 (mI M) (ad 10 0) 0 0) (mJ M)) (ps := []) rfl trivial ?_
          refine go_callS rfl (by decide) rfl rfl (by omega) rfl (by decide) (by decide) ?_
          refine s_Mo_isInK 1 12 (by decide) (by decide) (fun j17 hl17 hj17 hx17 => ⟨ne_i, ?_⟩) (fun c17 => ⟨ne_i, ?_⟩)
          · exact absurd ⟨j17, hl17, hj17, hx17⟩ c1
          · -- 0
            show Go 1311 191 0 0 28 [.ref (ad 10 0), .int a1, .int 1, .int a3, .int a4] [.int 0] (mm M (up2 (mI M) (ad 10 0) 0 0) (mJ M)) R2
            refine go_if rfl (fun _ => ?_) (fun (z : ¬ ((0 : Int32) = 0)) => absurd (show (0 : Int32) = 0 from (by decide)) z)
            refine go_blk 1 [] (pc' := 56) (vs' := [.ref (ad 10 0), .int a1, .int 1, .int a3, .int a4]) (st' := [.int (-1)]) (M' := mm M (up2 (mI M) (ad 10 0) 0 0) (mJ M)) (ps := []) rfl trivial ?_
            refine go_iret rfl rfl ?_
            exact h2 _ ⟨hsc, ad, nc, nb, nt, wk, nw, nx, nl, ne, nk, kd, false, rfl, rfl, rfl, hW.thr⟩
  · replace op1 : mI M (ad 0 0) 8 = 1 := op1
    replace op2 : mI M (ad 10 0) 21 = 1 := op2
    replace op3 : wk < 52 := op3 rfl
    rcases hz0 with rfl | rfl
    ·
      show Go 1311 116 1 8 0 [.ref (ad 0 0), .int a1, .int 0, .int a3, .int a4, .retAddr 0] [] (mm M (mI M) (mJ M)) R
      refine go_blk 3 [] (pc' := 4) (vs' := [.ref (ad 0 0), .int a1, .int 0, .int a3, .int a4, .retAddr 0]) (st' := [.int 12, .int 1, .int a1]) (M' := mm M (mI M) (mJ M)) (ps := []) rfl trivial ?_
      refine go_callS rfl (by decide) rfl rfl (by omega) rfl (by decide) (by decide) ?_
      refine s_CY_withinK 1 12 (by decide) (by decide) (fun j1 hl1 hj1 hx1 => ⟨ne_i, ?_⟩) (fun c1 => ⟨ne_i, ?_⟩)
      · -- 1
        subst hx1
        show Go 1311 116 1 8 7 [.ref (ad 0 0), .int (nI j1), .int 0, .int a3, .int a4, .retAddr 0] [.int 1] (mm M (mI M) (mJ M)) R
        refine go_if rfl (fun (z : (1 : Int32) = 0) => absurd z (show ¬ ((1 : Int32) = 0) from (by decide))) (fun _ => ?_)
        refine go_blk 3 [] (pc' := 15) (vs' := [.ref (ad 0 0), .int (nI j1), .int 0, .int a3, .int a4, .retAddr 0]) (st' := [.int 2000, .int 1, .int a3]) (M' := mm M (mI M) (mJ M)) (ps := []) rfl trivial ?_
        refine go_callS rfl (by decide) rfl rfl (by omega) rfl (by decide) (by decide) ?_
        refine s_CY_withinK 1 2000 (by decide) (by decide) (fun j2 hl2 hj2 hx2 => ⟨ne_i, ?_⟩) (fun c2 => ⟨ne_i, ?_⟩)
        · -- 1
          subst hx2
          show Go 1311 116 1 8 18 [.ref (ad 0 0), .int (nI j1), .int 0, .int (nI j2), .int a4, .retAddr 0] [.int 1] (mm M (mI M) (mJ M)) R
          refine go_if rfl (fun (z : (1 : Int32) = 0) => absurd z (show ¬ ((1 : Int32) = 0) from (by decide))) (fun _ => ?_)
          refine go_blk 3 [] (pc' := 28) (vs' := [.ref (ad 0 0), .int (nI j1), .int 0, .int (nI j2), .int a4, .retAddr 0]) (st' := [.int 240, .int 10, .int a4]) (M' := mm M (mI M) (mJ M)) (ps := []) rfl trivial ?_
          refine go_callS rfl (by decide) rfl rfl (by omega) rfl (by decide) (by decide) ?_
          refine s_CY_withinK 10 240 (by decide) (by decide) (fun j3 hl3 hj3 hx3 => ⟨ne_i, ?_⟩) (fun c3 => ⟨ne_i, ?_⟩)
          · -- 1
            subst hx3
            show Go 1311 116 1 8 31 [.ref (ad 0 0), .int (nI j1), .int 0, .int (nI j2), .int (nI j3), .retAddr 0] [.int 1] (mm M (mI M) (mJ M)) R
            refine go_if rfl (fun (z : (1 : Int32) = 0) => absurd z (show ¬ ((1 : Int32) = 0) from (by decide))) (fun _ => ?_)
            refine go_blk 4 [] (pc' := 43) (vs' := [.ref (ad 0 0), .int (nI j1), .int 0, .int (nI j2), .int (nI j3), .int 1]) (st' := [.int 1]) (M' := mm M (mI M) (mJ M)) (ps := []) rfl trivial ?_
            refine go_if rfl (fun (z : (1 : Int32) = 0) => absurd z (show ¬ ((1 : Int32) = 0) from (by decide))) (fun _ => ?_)
            refine go_blk 2 [some (.int 1)] (pc' := 50) (vs' := [.ref (ad 0 0), .int (nI j1), .int 0, .int (nI j2), .int (nI j3), .int 1]) (st' := [.int 1]) (M' := mm M (mI M) (mJ M)) (ps := [ob (mm M (mI M) (mJ M)) (ad 0 0) 11, (Value.int ((mI M) (ad 0 0) 8)) = .int 1]) rfl ⟨(hF.o 0), congrArg Value.int op1, trivial⟩ ?_
            refine go_if rfl (fun _ => ?_) (fun (z : ¬ (¬ (1 : Int32) = 0)) => absurd (show ¬ (1 : Int32) = 0 from (by decide)) z)
            refine go_blk 1 [] (pc' := 63) (vs' := [.ref (ad 0 0), .int (nI j1), .int 0, .int (nI j2), .int (nI j3), .int 1]) (st' := [.int (-1)]) (M' := mm M (mI M) (mJ M)) (ps := []) rfl trivial ?_
            refine go_iret rfl rfl ?_
            refine K _ _ hM.1 rfl (fun R2 h2 => ?_)
            show Go 1311 191 0 0 0 [.ref (ad 10 0), .int (nI j1), .int 0, .int (nI j2), .int (nI j3)] [] (mm M (mI M) (mJ M)) R2
            refine go_blk 5 [some (.int 1)] (pc' := 9) (vs' := [.ref (ad 10 0), .int (nI j1), .int 0, .int (nI j2), .int (nI j3)]) (st' := [.int 1]) (M' := mm M (up2 (mI M) (ad 10 0) 0 0) (mJ M)) (ps := [ob (mm M (mI M) (mJ M)) (ad 10 0) 12, ob (mm M (up2 (mI M) (ad 10 0) 0 0) (mJ M)) (ad 10 0) 12, (Value.int ((up2 (mI M) (ad 10 0) 0 0) (ad 10 0) 21)) = .int 1]) rfl ⟨hM.1, hM.1, congrArg Value.int (((up2_n _ _ (fun z => absurd z.2 (by decide))).trans (rfl)).trans op2), trivial⟩ ?_
            refine go_if rfl (fun _ => ?_) (fun (z : ¬ (¬ (1 : Int32) = 0)) => absurd (show ¬ (1 : Int32) = 0 from (by decide)) z)
            refine go_blk 1 [] (pc' := 56) (vs' := [.ref (ad 10 0), .int (nI j1), .int 0, .int (nI j2), .int (nI j3)]) (st' := [.int (-1)]) (M' := mm M (up2 (mI M) (ad 10 0) 0 0) (mJ M)) (ps := []) rfl trivial ?_
            refine go_iret rfl rfl ?_
            exact h2 _ ⟨hsc, ad, nc, nb, nt, wk, nw, nx, nl, ne, nk, kd, true, rfl, rfl, rfl, hW.thr⟩
          · -- 0
            show Go 1311 116 1 8 31 [.ref (ad 0 0), .int (nI j1), .int 0, .int (nI j2), .int a4, .retAddr 0] [.int 0] (mm M (mI M) (mJ M)) R
            refine go_if rfl (fun _ => ?_) (fun (z : ¬ ((0 : Int32) = 0)) => absurd (show (0 : Int32) = 0 from (by decide)) z)
            refine go_blk 3 [] (pc' := 43) (vs' := [.ref (ad 0 0), .int (nI j1), .int 0, .int (nI j2), .int a4, .int 0]) (st' := [.int 0]) (M' := mm M (mI M) (mJ M)) (ps := []) rfl trivial ?_
            refine go_if rfl (fun _ => ?_) (fun (z : ¬ ((0 : Int32) = 0)) => absurd (show (0 : Int32) = 0 from (by decide)) z)
            refine go_blk 1 [] (pc' := 63) (vs' := [.ref (ad 0 0), .int (nI j1), .int 0, .int (nI j2), .int a4, .int 0]) (st' := [.int (-1)]) (M' := mm M (mI M) (mJ M)) (ps := []) rfl trivial ?_
            refine go_iret rfl rfl ?_
            refine K _ _ hM.1 rfl (fun R2 h2 => ?_)
            show Go 1311 191 0 0 0 [.ref (ad 10 0), .int (nI j1), .int 0, .int (nI j2), .int a4] [] (mm M (mI M) (mJ M)) R2
            refine go_blk 5 [some (.int 1)] (pc' := 9) (vs' := [.ref (ad 10 0), .int (nI j1), .int 0, .int (nI j2), .int a4]) (st' := [.int 1]) (M' := mm M (up2 (mI M) (ad 10 0) 0 0) (mJ M)) (ps := [ob (mm M (mI M) (mJ M)) (ad 10 0) 12, ob (mm M (up2 (mI M) (ad 10 0) 0 0) (mJ M)) (ad 10 0) 12, (Value.int ((up2 (mI M) (ad 10 0) 0 0) (ad 10 0) 21)) = .int 1]) rfl ⟨hM.1, hM.1, congrArg Value.int (((up2_n _ _ (fun z => absurd z.2 (by decide))).trans (rfl)).trans op2), trivial⟩ ?_
            refine go_if rfl (fun _ => ?_) (fun (z : ¬ (¬ (1 : Int32) = 0)) => absurd (show ¬ (1 : Int32) = 0 from (by decide)) z)
            refine go_blk 1 [] (pc' := 56) (vs' := [.ref (ad 10 0), .int (nI j1), .int 0, .int (nI j2), .int a4]) (st' := [.int (-1)]) (M' := mm M (up2 (mI M) (ad 10 0) 0 0) (mJ M)) (ps := []) rfl trivial ?_
            refine go_iret rfl rfl ?_
            exact h2 _ ⟨hsc, ad, nc, nb, nt, wk, nw, nx, nl, ne, nk, kd, true, rfl, rfl, rfl, hW.thr⟩
        · -- 0
          show Go 1311 116 1 8 18 [.ref (ad 0 0), .int (nI j1), .int 0, .int a3, .int a4, .retAddr 0] [.int 0] (mm M (mI M) (mJ M)) R
          refine go_if rfl (fun _ => ?_) (fun (z : ¬ ((0 : Int32) = 0)) => absurd (show (0 : Int32) = 0 from (by decide)) z)
          refine go_blk 3 [] (pc' := 43) (vs' := [.ref (ad 0 0), .int (nI j1), .int 0, .int a3, .int a4, .int 0]) (st' := [.int 0]) (M' := mm M (mI M) (mJ M)) (ps := []) rfl trivial ?_
          refine go_if rfl (fun _ => ?_) (fun (z : ¬ ((0 : Int32) = 0)) => absurd (show (0 : Int32) = 0 from (by decide)) z)
          refine go_blk 1 [] (pc' := 63) (vs' := [.ref (ad 0 0), .int (nI j1), .int 0, .int a3, .int a4, .int 0]) (st' := [.int (-1)]) (M' := mm M (mI M) (mJ M)) (ps := []) rfl trivial ?_
          refine go_iret rfl rfl ?_
          refine K _ _ hM.1 rfl (fun R2 h2 => ?_)
          show Go 1311 191 0 0 0 [.ref (ad 10 0), .int (nI j1), .int 0, .int a3, .int a4] [] (mm M (mI M) (mJ M)) R2
          refine go_blk 5 [some (.int 1)] (pc' := 9) (vs' := [.ref (ad 10 0), .int (nI j1), .int 0, .int a3, .int a4]) (st' := [.int 1]) (M' := mm M (up2 (mI M) (ad 10 0) 0 0) (mJ M)) (ps := [ob (mm M (mI M) (mJ M)) (ad 10 0) 12, ob (mm M (up2 (mI M) (ad 10 0) 0 0) (mJ M)) (ad 10 0) 12, (Value.int ((up2 (mI M) (ad 10 0) 0 0) (ad 10 0) 21)) = .int 1]) rfl ⟨hM.1, hM.1, congrArg Value.int (((up2_n _ _ (fun z => absurd z.2 (by decide))).trans (rfl)).trans op2), trivial⟩ ?_
          refine go_if rfl (fun _ => ?_) (fun (z : ¬ (¬ (1 : Int32) = 0)) => absurd (show ¬ (1 : Int32) = 0 from (by decide)) z)
          refine go_blk 1 [] (pc' := 56) (vs' := [.ref (ad 10 0), .int (nI j1), .int 0, .int a3, .int a4]) (st' := [.int (-1)]) (M' := mm M (up2 (mI M) (ad 10 0) 0 0) (mJ M)) (ps := []) rfl trivial ?_
          refine go_iret rfl rfl ?_
          exact h2 _ ⟨hsc, ad, nc, nb, nt, wk, nw, nx, nl, ne, nk, kd, true, rfl, rfl, rfl, hW.thr⟩
      · -- 0
        show Go 1311 116 1 8 7 [.ref (ad 0 0), .int a1, .int 0, .int a3, .int a4, .retAddr 0] [.int 0] (mm M (mI M) (mJ M)) R
        refine go_if rfl (fun _ => ?_) (fun (z : ¬ ((0 : Int32) = 0)) => absurd (show (0 : Int32) = 0 from (by decide)) z)
        refine go_blk 3 [] (pc' := 43) (vs' := [.ref (ad 0 0), .int a1, .int 0, .int a3, .int a4, .int 0]) (st' := [.int 0]) (M' := mm M (mI M) (mJ M)) (ps := []) rfl trivial ?_
        refine go_if rfl (fun _ => ?_) (fun (z : ¬ ((0 : Int32) = 0)) => absurd (show (0 : Int32) = 0 from (by decide)) z)
        refine go_blk 1 [] (pc' := 63) (vs' := [.ref (ad 0 0), .int a1, .int 0, .int a3, .int a4, .int 0]) (st' := [.int (-1)]) (M' := mm M (mI M) (mJ M)) (ps := []) rfl trivial ?_
        refine go_iret rfl rfl ?_
        refine K _ _ hM.1 rfl (fun R2 h2 => ?_)
        show Go 1311 191 0 0 0 [.ref (ad 10 0), .int a1, .int 0, .int a3, .int a4] [] (mm M (mI M) (mJ M)) R2
        refine go_blk 5 [some (.int 1)] (pc' := 9) (vs' := [.ref (ad 10 0), .int a1, .int 0, .int a3, .int a4]) (st' := [.int 1]) (M' := mm M (up2 (mI M) (ad 10 0) 0 0) (mJ M)) (ps := [ob (mm M (mI M) (mJ M)) (ad 10 0) 12, ob (mm M (up2 (mI M) (ad 10 0) 0 0) (mJ M)) (ad 10 0) 12, (Value.int ((up2 (mI M) (ad 10 0) 0 0) (ad 10 0) 21)) = .int 1]) rfl ⟨hM.1, hM.1, congrArg Value.int (((up2_n _ _ (fun z => absurd z.2 (by decide))).trans (rfl)).trans op2), trivial⟩ ?_
        refine go_if rfl (fun _ => ?_) (fun (z : ¬ (¬ (1 : Int32) = 0)) => absurd (show ¬ (1 : Int32) = 0 from (by decide)) z)
        refine go_blk 1 [] (pc' := 56) (vs' := [.ref (ad 10 0), .int a1, .int 0, .int a3, .int a4]) (st' := [.int (-1)]) (M' := mm M (up2 (mI M) (ad 10 0) 0 0) (mJ M)) (ps := []) rfl trivial ?_
        refine go_iret rfl rfl ?_
        exact h2 _ ⟨hsc, ad, nc, nb, nt, wk, nw, nx, nl, ne, nk, kd, true, rfl, rfl, rfl, hW.thr⟩
    ·
      show Go 1311 116 1 8 0 [.ref (ad 0 0), .int a1, .int 1, .int a3, .int a4, .retAddr 0] [] (mm M (mI M) (mJ M)) R
      refine go_blk 3 [] (pc' := 4) (vs' := [.ref (ad 0 0), .int a1, .int 1, .int a3, .int a4, .retAddr 0]) (st' := [.int 12, .int 1, .int a1]) (M' := mm M (mI M) (mJ M)) (ps := []) rfl trivial ?_
      refine go_callS rfl (by decide) rfl rfl (by omega) rfl (by decide) (by decide) ?_
      refine s_CY_withinK 1 12 (by decide) (by decide) (fun j1 hl1 hj1 hx1 => ⟨ne_i, ?_⟩) (fun c1 => ⟨ne_i, ?_⟩)
      · -- 1
        subst hx1
        show Go 1311 116 1 8 7 [.ref (ad 0 0), .int (nI j1), .int 1, .int a3, .int a4, .retAddr 0] [.int 1] (mm M (mI M) (mJ M)) R
        refine go_if rfl (fun (z : (1 : Int32) = 0) => absurd z (show ¬ ((1 : Int32) = 0) from (by decide))) (fun _ => ?_)
        refine go_blk 3 [] (pc' := 15) (vs' := [.ref (ad 0 0), .int (nI j1), .int 1, .int a3, .int a4, .retAddr 0]) (st' := [.int 2000, .int 1, .int a3]) (M' := mm M (mI M) (mJ M)) (ps := []) rfl trivial ?_
        refine go_callS rfl (by decide) rfl rfl (by omega) rfl (by decide) (by decide) ?_
        refine s_CY_withinK 1 2000 (by decide) (by decide) (fun j2 hl2 hj2 hx2 => ⟨ne_i, ?_⟩) (fun c2 => ⟨ne_i, ?_⟩)
        · -- 1
          subst hx2
          show Go 1311 116 1 8 18 [.ref (ad 0 0), .int (nI j1), .int 1, .int (nI j2), .int a4, .retAddr 0] [.int 1] (mm M (mI M) (mJ M)) R
          refine go_if rfl (fun (z : (1 : Int32) = 0) => absurd z (show ¬ ((1 : Int32) = 0) from (by decide))) (fun _ => ?_)
          refine go_blk 3 [] (pc' := 28) (vs' := [.ref (ad 0 0), .int (nI j1), .int 1, .int (nI j2), .int a4, .retAddr 0]) (st' := [.int 240, .int 10, .int a4]) (M' := mm M (mI M) (mJ M)) (ps := []) rfl trivial ?_
          refine go_callS rfl (by decide) rfl rfl (by omega) rfl (by decide) (by decide) ?_
          refine s_CY_withinK 10 240 (by decide) (by decide) (fun j3 hl3 hj3 hx3 => ⟨ne_i, ?_⟩) (fun c3 => ⟨ne_i, ?_⟩)
          · -- 1
            subst hx3
            show Go 1311 116 1 8 31 [.ref (ad 0 0), .int (nI j1), .int 1, .int (nI j2), .int (nI j3), .retAddr 0] [.int 1] (mm M (mI M) (mJ M)) R
            refine go_if rfl (fun (z : (1 : Int32) = 0) => absurd z (show ¬ ((1 : Int32) = 0) from (by decide))) (fun _ => ?_)
            refine go_blk 4 [] (pc' := 43) (vs' := [.ref (ad 0 0), .int (nI j1), .int 1, .int (nI j2), .int (nI j3), .int 1]) (st' := [.int 1]) (M' := mm M (mI M) (mJ M)) (ps := []) rfl trivial ?_
            refine go_if rfl (fun (z : (1 : Int32) = 0) => absurd z (show ¬ ((1 : Int32) = 0) from (by decide))) (fun _ => ?_)
            refine go_blk 2 [some (.int 1)] (pc' := 50) (vs' := [.ref (ad 0 0), .int (nI j1), .int 1, .int (nI j2), .int (nI j3), .int 1]) (st' := [.int 1]) (M' := mm M (mI M) (mJ M)) (ps := [ob (mm M (mI M) (mJ M)) (ad 0 0) 11, (Value.int ((mI M) (ad 0 0) 8)) = .int 1]) rfl ⟨(hF.o 0), congrArg Value.int op1, trivial⟩ ?_
            refine go_if rfl (fun _ => ?_) (fun (z : ¬ (¬ (1 : Int32) = 0)) => absurd (show ¬ (1 : Int32) = 0 from (by decide)) z)
            refine go_blk 1 [] (pc' := 63) (vs' := [.ref (ad 0 0), .int (nI j1), .int 1, .int (nI j2), .int (nI j3), .int 1]) (st' := [.int (-1)]) (M' := mm M (mI M) (mJ M)) (ps := []) rfl trivial ?_
            refine go_iret rfl rfl ?_
            refine K _ _ hM.1 rfl (fun R2 h2 => ?_)
            show Go 1311 191 0 0 0 [.ref (ad 10 0), .int (nI j1), .int 1, .int (nI j2), .int (nI j3)] [] (mm M (mI M) (mJ M)) R2
            refine go_blk 5 [some (.int 1)] (pc' := 9) (vs' := [.ref (ad 10 0), .int (nI j1), .int 1, .int (nI j2), .int (nI j3)]) (st' := [.int 1]) (M' := mm M (up2 (mI M) (ad 10 0) 0 0) (mJ M)) (ps := [ob (mm M (mI M) (mJ M)) (ad 10 0) 12, ob (mm M (up2 (mI M) (ad 10 0) 0 0) (mJ M)) (ad 10 0) 12, (Value.int ((up2 (mI M) (ad 10 0) 0 0) (ad 10 0) 21)) = .int 1]) rfl ⟨hM.1, hM.1, congrArg Value.int (((up2_n _ _ (fun z => absurd z.2 (by decide))).trans (rfl)).trans op2), trivial⟩ ?_
            refine go_if rfl (fun _ => ?_) (fun (z : ¬ (¬ (1 : Int32) = 0)) => absurd (show ¬ (1 : Int32) = 0 from (by decide)) z)
            refine go_blk 1 [] (pc' := 56) (vs' := [.ref (ad 10 0), .int (nI j1), .int 1, .int (nI j2), .int (nI j3)]) (st' := [.int (-1)]) (M' := mm M (up2 (mI M) (ad 10 0) 0 0) (mJ M)) (ps := []) rfl trivial ?_
            refine go_iret rfl rfl ?_
            exact h2 _ ⟨hsc, ad, nc, nb, nt, wk, nw, nx, nl, ne, nk, kd, true, rfl, rfl, rfl, hW.thr⟩
          · -- 0
            show Go 1311 116 1 8 31 [.ref (ad 0 0), .int (nI j1), .int 1, .int (nI j2), .int a4, .retAddr 0] [.int 0] (mm M (mI M) (mJ M)) R
            refine go_if rfl (fun _ => ?_) (fun (z : ¬ ((0 : Int32) = 0)) => absurd (show (0 : Int32) = 0 from (by decide)) z)
            refine go_blk 3 [] (pc' := 43) (vs' := [.ref (ad 0 0), .int (nI j1), .int 1, .int (nI j2), .int a4, .int 0]) (st' := [.int 0]) (M' := mm M (mI M) (mJ M)) (ps := []) rfl trivial ?_
            refine go_if rfl (fun _ => ?_) (fun (z : ¬ ((0 : Int32) = 0)) => absurd (show (0 : Int32) = 0 from (by decide)) z)
            refine go_blk 1 [] (pc' := 63) (vs' := [.ref (ad 0 0), .int (nI j1), .int 1, .int (nI j2), .int a4, .int 0]) (st' := [.int (-1)]) (M' := mm M (mI M) (mJ M)) (ps := []) rfl trivial ?_
            refine go_iret rfl rfl ?_
            refine K _ _ hM.1 rfl (fun R2 h2 => ?_)
            show Go 1311 191 0 0 0 [.ref (ad 10 0), .int (nI j1), .int 1, .int (nI j2), .int a4] [] (mm M (mI M) (mJ M)) R2
            refine go_blk 5 [some (.int 1)] (pc' := 9) (vs' := [.ref (ad 10 0), .int (nI j1), .int 1, .int (nI j2), .int a4]) (st' := [.int 1]) (M' := mm M (up2 (mI M) (ad 10 0) 0 0) (mJ M)) (ps := [ob (mm M (mI M) (mJ M)) (ad 10 0) 12, ob (mm M (up2 (mI M) (ad 10 0) 0 0) (mJ M)) (ad 10 0) 12, (Value.int ((up2 (mI M) (ad 10 0) 0 0) (ad 10 0) 21)) = .int 1]) rfl ⟨hM.1, hM.1, congrArg Value.int (((up2_n _ _ (fun z => absurd z.2 (by decide))).trans (rfl)).trans op2), trivial⟩ ?_
            refine go_if rfl (fun _ => ?_) (fun (z : ¬ (¬ (1 : Int32) = 0)) => absurd (show ¬ (1 : Int32) = 0 from (by decide)) z)
            refine go_blk 1 [] (pc' := 56) (vs' := [.ref (ad 10 0), .int (nI j1), .int 1, .int (nI j2), .int a4]) (st' := [.int (-1)]) (M' := mm M (up2 (mI M) (ad 10 0) 0 0) (mJ M)) (ps := []) rfl trivial ?_
            refine go_iret rfl rfl ?_
            exact h2 _ ⟨hsc, ad, nc, nb, nt, wk, nw, nx, nl, ne, nk, kd, true, rfl, rfl, rfl, hW.thr⟩
        · -- 0
          show Go 1311 116 1 8 18 [.ref (ad 0 0), .int (nI j1), .int 1, .int a3, .int a4, .retAddr 0] [.int 0] (mm M (mI M) (mJ M)) R
          refine go_if rfl (fun _ => ?_) (fun (z : ¬ ((0 : Int32) = 0)) => absurd (show (0 : Int32) = 0 from (by decide)) z)
          refine go_blk 3 [] (pc' := 43) (vs' := [.ref (ad 0 0), .int (nI j1), .int 1, .int a3, .int a4, .int 0]) (st' := [.int 0]) (M' := mm M (mI M) (mJ M)) (ps := []) rfl trivial ?_
          refine go_if rfl (fun _ => ?_) (fun (z : ¬ ((0 : Int32) = 0)) => absurd (show (0 : Int32) = 0 from (by decide)) z)
          refine go_blk 1 [] (pc' := 63) (vs' := [.ref (ad 0 0), .int (nI j1), .int 1, .int a3, .int a4, .int 0]) (st' := [.int (-1)]) (M' := mm M (mI M) (mJ M)) (ps := []) rfl trivial ?_
          refine go_iret rfl rfl ?_
          refine K _ _ hM.1 rfl (fun R2 h2 => ?_)
          show Go 1311 191 0 0 0 [.ref (ad 10 0), .int (nI j1), .int 1, .int a3, .int a4] [] (mm M (mI M) (mJ M)) R2
          refine go_blk 5 [some (.int 1)] (pc' := 9) (vs' := [.ref (ad 10 0), .int (nI j1), .int 1, .int a3, .int a4]) (st' := [.int 1]) (M' := mm M (up2 (mI M) (ad 10 0) 0 0) (mJ M)) (ps := [ob (mm M (mI M) (mJ M)) (ad 10 0) 12, ob (mm M (up2 (mI M) (ad 10 0) 0 0) (mJ M)) (ad 10 0) 12, (Value.int ((up2 (mI M) (ad 10 0) 0 0) (ad 10 0) 21)) = .int 1]) rfl ⟨hM.1, hM.1, congrArg Value.int (((up2_n _ _ (fun z => absurd z.2 (by decide))).trans (rfl)).trans op2), trivial⟩ ?_
          refine go_if rfl (fun _ => ?_) (fun (z : ¬ (¬ (1 : Int32) = 0)) => absurd (show ¬ (1 : Int32) = 0 from (by decide)) z)
          refine go_blk 1 [] (pc' := 56) (vs' := [.ref (ad 10 0), .int (nI j1), .int 1, .int a3, .int a4]) (st' := [.int (-1)]) (M' := mm M (up2 (mI M) (ad 10 0) 0 0) (mJ M)) (ps := []) rfl trivial ?_
          refine go_iret rfl rfl ?_
          exact h2 _ ⟨hsc, ad, nc, nb, nt, wk, nw, nx, nl, ne, nk, kd, true, rfl, rfl, rfl, hW.thr⟩
      · -- 0
        show Go 1311 116 1 8 7 [.ref (ad 0 0), .int a1, .int 1, .int a3, .int a4, .retAddr 0] [.int 0] (mm M (mI M) (mJ M)) R
        refine go_if rfl (fun _ => ?_) (fun (z : ¬ ((0 : Int32) = 0)) => absurd (show (0 : Int32) = 0 from (by decide)) z)
        refine go_blk 3 [] (pc' := 43) (vs' := [.ref (ad 0 0), .int a1, .int 1, .int a3, .int a4, .int 0]) (st' := [.int 0]) (M' := mm M (mI M) (mJ M)) (ps := []) rfl trivial ?_
        refine go_if rfl (fun _ => ?_) (fun (z : ¬ ((0 : Int32) = 0)) => absurd (show (0 : Int32) = 0 from (by decide)) z)
        refine go_blk 1 [] (pc' := 63) (vs' := [.ref (ad 0 0), .int a1, .int 1, .int a3, .int a4, .int 0]) (st' := [.int (-1)]) (M' := mm M (mI M) (mJ M)) (ps := []) rfl trivial ?_
        refine go_iret rfl rfl ?_
        refine K _ _ hM.1 rfl (fun R2 h2 => ?_)
        show Go 1311 191 0 0 0 [.ref (ad 10 0), .int a1, .int 1, .int a3, .int a4] [] (mm M (mI M) (mJ M)) R2
        refine go_blk 5 [some (.int 1)] (pc' := 9) (vs' := [.ref (ad 10 0), .int a1, .int 1, .int a3, .int a4]) (st' := [.int 1]) (M' := mm M (up2 (mI M) (ad 10 0) 0 0) (mJ M)) (ps := [ob (mm M (mI M) (mJ M)) (ad 10 0) 12, ob (mm M (up2 (mI M) (ad 10 0) 0 0) (mJ M)) (ad 10 0) 12, (Value.int ((up2 (mI M) (ad 10 0) 0 0) (ad 10 0) 21)) = .int 1]) rfl ⟨hM.1, hM.1, congrArg Value.int (((up2_n _ _ (fun z => absurd z.2 (by decide))).trans (rfl)).trans op2), trivial⟩ ?_
        refine go_if rfl (fun _ => ?_) (fun (z : ¬ (¬ (1 : Int32) = 0)) => absurd (show ¬ (1 : Int32) = 0 from (by decide)) z)
        refine go_blk 1 [] (pc' := 56) (vs' := [.ref (ad 10 0), .int a1, .int 1, .int a3, .int a4]) (st' := [.int (-1)]) (M' := mm M (up2 (mI M) (ad 10 0) 0 0) (mJ M)) (ps := []) rfl trivial ?_
        refine go_iret rfl rfl ?_
        exact h2 _ ⟨hsc, ad, nc, nb, nt, wk, nw, nx, nl, ne, nk, kd, true, rfl, rfl, rfl, hW.thr⟩

