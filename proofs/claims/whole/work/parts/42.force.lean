/-! calls: taken, force -/
set_option maxRecDepth 100000 in
theorem s_CY_taken {d : Nat} {M : Mem} {f : Nat → Nat → Int32} {g : Nat → Nat → Int64} {ad : Nat → Nat → Nat} {R : Option Value → Mem → Prop} {x y : Int32} {nb : Nat} (hd : 2 ≤ d) (hF : Fx M ad) (hB : Bs M ad nb) (hn : f (ad 0 0) 3 = nI nb) (hl : nb ≤ 60) (h1 : ((0 ≤ x ∧ x ≤ 51) ∧ (0 ≤ y ∧ y ≤ 51) ∧ x ≤ y) → R (some (.int (smI (fun b => if f (ad 2 b) 7 = 0 then 0 else if x ≤ f (ad 2 b) 1 ∧ f (ad 2 b) 1 ≤ y then f (ad 2 b) 5 else 0) nb))) (mm M f g)) (h0 : ¬ ((0 ≤ x ∧ x ≤ 51) ∧ (0 ≤ y ∧ y ≤ 51) ∧ x ≤ y) → R (some (.int (-1))) (mm M f g)) : Call d 125 [.ref (ad 0 0), .int x, .int y] (mm M f g) R := by
  show Go d 125 0 0 0 [.ref (ad 0 0), .int x, .int y, .retAddr 0, .retAddr 0, .retAddr 0] [] (mm M f g) R
  refine go_blk 1 [] (pc' := 1) (vs' := [.ref (ad 0 0), .int x, .int y, .retAddr 0, .retAddr 0, .retAddr 0]) (st' := [.int x]) (M' := mm M f g) (ps := []) rfl trivial ?_
  refine go_callS rfl (by decide) rfl rfl (by omega) rfl (by decide) (by decide) ?_
  refine s_CY_isWeek (by omega) (fun c1 => ⟨ne_i, ?_⟩) (fun c1 => ⟨ne_i, ?_⟩)
  · -- 1
    show Go d 125 0 0 4 [.ref (ad 0 0), .int x, .int y, .retAddr 0, .retAddr 0, .retAddr 0] [.int 1] (mm M f g) R
    refine go_if rfl (fun (z : (1 : Int32) = 0) => absurd z (show ¬ ((1 : Int32) = 0) from (by decide))) (fun _ => ?_)
    refine go_blk 1 [] (pc' := 8) (vs' := [.ref (ad 0 0), .int x, .int y, .retAddr 0, .retAddr 0, .retAddr 0]) (st' := [.int y]) (M' := mm M f g) (ps := []) rfl trivial ?_
    refine go_callS rfl (by decide) rfl rfl (by omega) rfl (by decide) (by decide) ?_
    refine s_CY_isWeek (by omega) (fun c2 => ⟨ne_i, ?_⟩) (fun c2 => ⟨ne_i, ?_⟩)
    · -- 1
      show Go d 125 0 0 11 [.ref (ad 0 0), .int x, .int y, .retAddr 0, .retAddr 0, .retAddr 0] [.int 1] (mm M f g) R
      refine go_if rfl (fun (z : (1 : Int32) = 0) => absurd z (show ¬ ((1 : Int32) = 0) from (by decide))) (fun _ => ?_)
      refine go_blk 2 [] (pc' := 16) (vs' := [.ref (ad 0 0), .int x, .int y, .retAddr 0, .retAddr 0, .retAddr 0]) (st' := [.int x, .int y]) (M' := mm M f g) (ps := []) rfl trivial ?_
      refine go_icmp rfl (fun (c3 : x ≤ y) => ?_) (fun (c3 : ¬ (x ≤ y)) => ?_)
      · -- x ≤ y
        refine go_blk 4 [] (pc' := 26) (vs' := [.ref (ad 0 0), .int x, .int y, .int 0, .int 0, .retAddr 0]) (st' := []) (M' := mm M f g) (ps := []) rfl trivial ?_
        refine lp_CY_taken hd hF hB hn hl (fun u => ?_) 0 (Nat.zero_le _) _
        show Go d 125 0 0 79 [.ref (ad 0 0), .int x, .int y, .int (smI (fun b => if f (ad 2 b) 7 = 0 then 0 else if x ≤ f (ad 2 b) 1 ∧ f (ad 2 b) 1 ≤ y then f (ad 2 b) 5 else 0) nb), .int (nI nb), u] [] (mm M f g) R
        refine go_blk 1 [] (pc' := 80) (vs' := [.ref (ad 0 0), .int x, .int y, .int (smI (fun b => if f (ad 2 b) 7 = 0 then 0 else if x ≤ f (ad 2 b) 1 ∧ f (ad 2 b) 1 ≤ y then f (ad 2 b) 5 else 0) nb), .int (nI nb), u]) (st' := [.int (smI (fun b => if f (ad 2 b) 7 = 0 then 0 else if x ≤ f (ad 2 b) 1 ∧ f (ad 2 b) 1 ≤ y then f (ad 2 b) 5 else 0) nb)]) (M' := mm M f g) (ps := []) rfl trivial ?_
        refine go_iret rfl rfl ?_
        exact h1 (by grind)
      · -- ¬ (x ≤ y)
        refine go_blk 1 [] (pc' := 20) (vs' := [.ref (ad 0 0), .int x, .int y, .retAddr 0, .retAddr 0, .retAddr 0]) (st' := [.int (-1)]) (M' := mm M f g) (ps := []) rfl trivial ?_
        refine go_iret rfl rfl ?_
        exact h0 (by grind)
    · -- 0
      show Go d 125 0 0 11 [.ref (ad 0 0), .int x, .int y, .retAddr 0, .retAddr 0, .retAddr 0] [.int 0] (mm M f g) R
      refine go_if rfl (fun _ => ?_) (fun (z : ¬ ((0 : Int32) = 0)) => absurd (show (0 : Int32) = 0 from (by decide)) z)
      refine go_blk 1 [] (pc' := 20) (vs' := [.ref (ad 0 0), .int x, .int y, .retAddr 0, .retAddr 0, .retAddr 0]) (st' := [.int (-1)]) (M' := mm M f g) (ps := []) rfl trivial ?_
      refine go_iret rfl rfl ?_
      exact h0 (by grind)
  · -- 0
    show Go d 125 0 0 4 [.ref (ad 0 0), .int x, .int y, .retAddr 0, .retAddr 0, .retAddr 0] [.int 0] (mm M f g) R
    refine go_if rfl (fun _ => ?_) (fun (z : ¬ ((0 : Int32) = 0)) => absurd (show (0 : Int32) = 0 from (by decide)) z)
    refine go_blk 1 [] (pc' := 20) (vs' := [.ref (ad 0 0), .int x, .int y, .retAddr 0, .retAddr 0, .retAddr 0]) (st' := [.int (-1)]) (M' := mm M f g) (ps := []) rfl trivial ?_
    refine go_iret rfl rfl ?_
    exact h0 (by grind)

set_option maxRecDepth 100000 in
theorem s_Mo_taken {d : Nat} {M : Mem} {f : Nat → Nat → Int32} {g : Nat → Nat → Int64} {ad : Nat → Nat → Nat} {R : Option Value → Mem → Prop} {x y : Int32} {nb : Nat} (hd : 1 ≤ d) (hi : Inj ad) (hM : Mx M ad) (hn : f (ad 10 0) 18 = nI nb) (hl : nb ≤ 60) (h1 : ((0 ≤ x ∧ x ≤ 51) ∧ (x ≤ y ∧ y ≤ 51)) → R (some (.int (smI (fun b => if (up2 f (ad 10 0) 0 0) (ad 9 16) b = 0 then 0 else if x ≤ (up2 f (ad 10 0) 0 0) (ad 9 7) b ∧ (up2 f (ad 10 0) 0 0) (ad 9 7) b ≤ y then (up2 f (ad 10 0) 0 0) (ad 9 10) b else 0) nb))) (mm M (up2 f (ad 10 0) 0 0) g)) (h0 : ¬ ((0 ≤ x ∧ x ≤ 51) ∧ (x ≤ y ∧ y ≤ 51)) → R (some (.int (-1))) (mm M (up2 f (ad 10 0) 0 0) g)) : Call d 203 [.ref (ad 10 0), .int x, .int y] (mm M f g) R := by
  show Go d 203 0 0 0 [.ref (ad 10 0), .int x, .int y, .retAddr 0, .retAddr 0] [] (mm M f g) R
  refine go_blk 6 [] (pc' := 9) (vs' := [.ref (ad 10 0), .int x, .int y, .retAddr 0, .retAddr 0]) (st' := [.int 51, .int 0, .int x]) (M' := mm M (up2 f (ad 10 0) 0 0) g) (ps := [ob (mm M f g) (ad 10 0) 12]) rfl ⟨hM.1, trivial⟩ ?_
  refine go_callS rfl (by decide) rfl rfl (by omega) rfl (by decide) (by decide) ?_
  refine s_Mo_isIn (by omega) (fun c1 => ⟨ne_i, ?_⟩) (fun c1 => ⟨ne_i, ?_⟩)
  · -- 1
    show Go d 203 0 0 12 [.ref (ad 10 0), .int x, .int y, .retAddr 0, .retAddr 0] [.int 1] (mm M (up2 f (ad 10 0) 0 0) g) R
    refine go_if rfl (fun (z : (1 : Int32) = 0) => absurd z (show ¬ ((1 : Int32) = 0) from (by decide))) (fun _ => ?_)
    refine go_blk 3 [] (pc' := 19) (vs' := [.ref (ad 10 0), .int x, .int y, .retAddr 0, .retAddr 0]) (st' := [.int 51, .int x, .int y]) (M' := mm M (up2 f (ad 10 0) 0 0) g) (ps := []) rfl trivial ?_
    refine go_callS rfl (by decide) rfl rfl (by omega) rfl (by decide) (by decide) ?_
    refine s_Mo_isIn (by omega) (fun c2 => ⟨ne_i, ?_⟩) (fun c2 => ⟨ne_i, ?_⟩)
    · -- 1
      show Go d 203 0 0 22 [.ref (ad 10 0), .int x, .int y, .retAddr 0, .retAddr 0] [.int 1] (mm M (up2 f (ad 10 0) 0 0) g) R
      refine go_if rfl (fun _ => ?_) (fun (z : ¬ (¬ (1 : Int32) = 0)) => absurd (show ¬ (1 : Int32) = 0 from (by decide)) z)
      refine go_blk 4 [] (pc' := 32) (vs' := [.ref (ad 10 0), .int x, .int y, .int 0, .int 0]) (st' := []) (M' := mm M (up2 f (ad 10 0) 0 0) g) (ps := []) rfl trivial ?_
      refine lp_Mo_taken (f := up2 f (ad 10 0) 0 0) hd hM ((up2_n _ _ (fun z => absurd z.2 (by decide))).trans hn) hl ?_ 0 (Nat.zero_le _)
      show Go d 203 0 0 86 [.ref (ad 10 0), .int x, .int y, .int (smI (fun b => if (up2 f (ad 10 0) 0 0) (ad 9 16) b = 0 then 0 else if x ≤ (up2 f (ad 10 0) 0 0) (ad 9 7) b ∧ (up2 f (ad 10 0) 0 0) (ad 9 7) b ≤ y then (up2 f (ad 10 0) 0 0) (ad 9 10) b else 0) nb), .int (nI nb)] [] (mm M (up2 f (ad 10 0) 0 0) g) R
      refine go_blk 1 [] (pc' := 87) (vs' := [.ref (ad 10 0), .int x, .int y, .int (smI (fun b => if (up2 f (ad 10 0) 0 0) (ad 9 16) b = 0 then 0 else if x ≤ (up2 f (ad 10 0) 0 0) (ad 9 7) b ∧ (up2 f (ad 10 0) 0 0) (ad 9 7) b ≤ y then (up2 f (ad 10 0) 0 0) (ad 9 10) b else 0) nb), .int (nI nb)]) (st' := [.int (smI (fun b => if (up2 f (ad 10 0) 0 0) (ad 9 16) b = 0 then 0 else if x ≤ (up2 f (ad 10 0) 0 0) (ad 9 7) b ∧ (up2 f (ad 10 0) 0 0) (ad 9 7) b ≤ y then (up2 f (ad 10 0) 0 0) (ad 9 10) b else 0) nb)]) (M' := mm M (up2 f (ad 10 0) 0 0) g) (ps := []) rfl trivial ?_
      refine go_iret rfl rfl ?_
      exact h1 (by grind)
    · -- 0
      show Go d 203 0 0 22 [.ref (ad 10 0), .int x, .int y, .retAddr 0, .retAddr 0] [.int 0] (mm M (up2 f (ad 10 0) 0 0) g) R
      refine go_if rfl (fun (z : ¬ (0 : Int32) = 0) => absurd z (show ¬ (¬ (0 : Int32) = 0) from (by decide))) (fun _ => ?_)
      refine go_blk 1 [] (pc' := 26) (vs' := [.ref (ad 10 0), .int x, .int y, .retAddr 0, .retAddr 0]) (st' := [.int (-1)]) (M' := mm M (up2 f (ad 10 0) 0 0) g) (ps := []) rfl trivial ?_
      refine go_iret rfl rfl ?_
      exact h0 (by grind)
  · -- 0
    show Go d 203 0 0 12 [.ref (ad 10 0), .int x, .int y, .retAddr 0, .retAddr 0] [.int 0] (mm M (up2 f (ad 10 0) 0 0) g) R
    refine go_if rfl (fun _ => ?_) (fun (z : ¬ ((0 : Int32) = 0)) => absurd (show (0 : Int32) = 0 from (by decide)) z)
    refine go_blk 1 [] (pc' := 26) (vs' := [.ref (ad 10 0), .int x, .int y, .retAddr 0, .retAddr 0]) (st' := [.int (-1)]) (M' := mm M (up2 f (ad 10 0) 0 0) g) (ps := []) rfl trivial ?_
    refine go_iret rfl rfl ?_
    exact h0 (by grind)

set_option maxHeartbeats 20000000 in
set_option maxRecDepth 100000 in
theorem op9 {x o u : Nat} {sc : Nat × Nat × (Nat → Int32)} : Op9 (II x o u sc) x o := by
  intro M a1 a2 hI R K
  obtain ⟨hsc, ad, nc, nb, nt, wk, nw, nx, nl, ne, nk, kd, op, rfl, rfl, rfl, hW⟩ := hI
  obtain ⟨hi, ⟨hF, hM, hC, hB, hT, hX⟩, ⟨iS, iC, iB, iR, iL, iT⟩, ⟨jO, jR, jB, jX, jL⟩, kO, kC, kD, kP, kX⟩ := id hW
  obtain ⟨⟨nc1, nc2, nc3⟩, ⟨nb1, nb2, nb3⟩, ⟨nt1, nt2, nt3⟩, ⟨wk1, wk2, wk3⟩, ⟨nw1, nw2, nw3⟩, ⟨op1, op2, op3⟩, ncm, ncm1, ncm2, ncm3⟩ := id iS
  simp only [vw] at nc1 nc2 nb1 nb2 nt1 nt2 wk1 wk2 nw1 nw2 op1 op2 ncm2 ncm3
  obtain ⟨nn, nn3, nn1, nn2, nnb⟩ := jX.2.1
  simp only [vw] at nn1 nn2
  have nl3 := jL.1.2.2.1
  have nx3 := jX.1.2.2
  have nk3 := jB.1.2.2.2.2.1
  have ne3 := jB.1.2.2.2.2.2
  refine s_CY_taken (M := M) (f := mI M) (g := mJ M) (by omega) hF hB nb1 nb3 (fun hA => ?_) (fun hA => ?_)
  · refine K _ _ hM.1 rfl (fun R2 h2 => ?_)
    refine s_Mo_taken (M := M) (f := mI M) (g := mJ M) (by omega) hi hM nb2 nb3 (fun _ => ?_) (fun hn => absurd ⟨hA.1, hA.2.2, hA.2.1.2⟩ hn)
    rw [smI_congr (fun b hb => ?_)]
    · exact h2 _ ⟨hsc, ad, nc, nb, nt, wk, nw, nx, nl, ne, nk, kd, op, rfl, rfl, rfl, hW.thr⟩
    · have q := (iB.1 b hb).1
      simp only [vw] at q
      simp [up2_ad hi, q]
  · refine K _ _ hM.1 rfl (fun R2 h2 => ?_)
    refine s_Mo_taken (M := M) (f := mI M) (g := mJ M) (by omega) hi hM nb2 nb3 (fun hB => absurd ⟨hB.1, ⟨Int32.le_trans hB.1.1 hB.2.1, hB.2.2⟩, hB.2.1⟩ hA) (fun _ => ?_)
    exact h2 _ ⟨hsc, ad, nc, nb, nt, wk, nw, nx, nl, ne, nk, kd, op, rfl, rfl, rfl, hW.thr⟩

/-- the terms in force: the last of those with the greatest beginning -/
def tmV (fr td : Nat → Int32) (x y : Int32) : Nat → Int32 × Int32
  | 0 => (-1, -1)
  | i + 1 => if td i ≤ y ∧ fr i ≤ x ∧ (tmV fr td x y i).2 ≤ fr i then (nI i, fr i) else tmV fr td x y i
theorem tmV_congr {fr fr' td td' : Nat → Int32} {x y : Int32} : ∀ {n : Nat}, (∀ i, i < n → fr i = fr' i ∧ td i = td' i) → tmV fr td x y n = tmV fr' td' x y n
  | 0, _ => rfl
  | n + 1, h => by rw [tmV, tmV, tmV_congr (fun i hi => h i (by omega)), (h n (by omega)).1, (h n (by omega)).2]
theorem tmV_is (fr td : Nat → Int32) (x y : Int32) : ∀ n, tmV fr td x y n = (-1, -1) ∨ ∃ k, k < n ∧ tmV fr td x y n = (nI k, fr k) ∧ td k ≤ y ∧ fr k ≤ x
  | 0 => Or.inl rfl
  | n + 1 => by
    rw [tmV]
    by_cases c : td n ≤ y ∧ fr n ≤ x ∧ (tmV fr td x y n).2 ≤ fr n
    · rw [if_pos c]; exact Or.inr ⟨n, by omega, rfl, c.1, c.2.1⟩
    · rw [if_neg c]
      rcases tmV_is fr td x y n with h | ⟨k, h1, h2⟩
      · exact Or.inl h
      · exact Or.inr ⟨k, by omega, h2⟩

set_option maxRecDepth 100000 in
theorem lp_Wa_termsFor {d : Nat} {M : Mem} {f : Nat → Nat → Int32} {g : Nat → Nat → Int64} {ad : Nat → Nat → Nat} {R : Option Value → Mem → Prop} {x y : Int32} {nx : Nat} (hd : 0 ≤ d) (hF : Fx M ad) (hX : Xs M ad nx) (hn : f (ad 0 10) 2 = nI nx) (hl : nx ≤ 20) (hx : ∀ u : Value, Go d 109 0 0 70 [.ref (ad 0 10), .int x, .int y, .int ((tmV (fun i => f (ad 7 i) 2) (fun i => f (ad 7 i) 3) x y nx).1), .int ((tmV (fun i => f (ad 7 i) 2) (fun i => f (ad 7 i) 3) x y nx).2), .int (nI nx), u] [] (mm M f g) R) : ∀ i, i ≤ nx → ∀ u : Value, Go d 109 0 0 8 [.ref (ad 0 10), .int x, .int y, .int ((tmV (fun i => f (ad 7 i) 2) (fun i => f (ad 7 i) 3) x y i).1), .int ((tmV (fun i => f (ad 7 i) 2) (fun i => f (ad 7 i) 3) x y i).2), .int (nI i), u] [] (mm M f g) R := by
  refine up_ind (P := fun i => ∀ u : Value, Go d 109 0 0 8 [.ref (ad 0 10), .int x, .int y, .int ((tmV (fun i => f (ad 7 i) 2) (fun i => f (ad 7 i) 3) x y i).1), .int ((tmV (fun i => f (ad 7 i) 2) (fun i => f (ad 7 i) 3) x y i).2), .int (nI i), u] [] (mm M f g) R) nx ?_ (fun i hi ih => ?_)
  ·
    intro u
    show Go d 109 0 0 8 [.ref (ad 0 10), .int x, .int y, .int ((tmV (fun i => f (ad 7 i) 2) (fun i => f (ad 7 i) 3) x y nx).1), .int ((tmV (fun i => f (ad 7 i) 2) (fun i => f (ad 7 i) 3) x y nx).2), .int (nI nx), u] [] (mm M f g) R
    refine go_blk 3 [some (.int (nI nx))] (pc' := 14) (vs' := [.ref (ad 0 10), .int x, .int y, .int ((tmV (fun i => f (ad 7 i) 2) (fun i => f (ad 7 i) 3) x y nx).1), .int ((tmV (fun i => f (ad 7 i) 2) (fun i => f (ad 7 i) 3) x y nx).2), .int (nI nx), u]) (st' := [.int (nI nx), .int (nI nx)]) (M' := mm M f g) (ps := [ob (mm M f g) (ad 0 10) 10, (Value.int (f (ad 0 10) 2)) = .int (nI nx)]) rfl ⟨(hF.o 10), congrArg Value.int hn, trivial⟩ ?_
    refine go_icmp rfl (fun _ => ?_) (fun (z : ¬ (nI nx ≤ (nI nx))) => absurd (show nI nx ≤ (nI nx) from Int32.le_refl _) z)
    exact hx u
  ·
    intro u
    show Go d 109 0 0 8 [.ref (ad 0 10), .int x, .int y, .int ((tmV (fun i => f (ad 7 i) 2) (fun i => f (ad 7 i) 3) x y i).1), .int ((tmV (fun i => f (ad 7 i) 2) (fun i => f (ad 7 i) 3) x y i).2), .int (nI i), u] [] (mm M f g) R
    refine go_blk 3 [some (.int (nI nx))] (pc' := 14) (vs' := [.ref (ad 0 10), .int x, .int y, .int ((tmV (fun i => f (ad 7 i) 2) (fun i => f (ad 7 i) 3) x y i).1), .int ((tmV (fun i => f (ad 7 i) 2) (fun i => f (ad 7 i) 3) x y i).2), .int (nI i), u]) (st' := [.int (nI nx), .int (nI i)]) (M' := mm M f g) (ps := [ob (mm M f g) (ad 0 10) 10, (Value.int (f (ad 0 10) 2)) = .int (nI nx)]) rfl ⟨(hF.o 10), congrArg Value.int hn, trivial⟩ ?_
    refine go_icmp rfl (fun (z : nI nx ≤ (nI i)) => absurd z (show ¬ (nI nx ≤ (nI i)) from (Int32.not_le.mpr ((nI_lts (by omega) (by omega)).mpr hi)))) (fun _ => ?_)
    refine go_blk 8 [some (.ref (ad 0 36)), some (.ref (ad 7 i))] (pc' := 32) (vs' := [.ref (ad 0 10), .int x, .int y, .int ((tmV (fun i => f (ad 7 i) 2) (fun i => f (ad 7 i) 3) x y i).1), .int ((tmV (fun i => f (ad 7 i) 2) (fun i => f (ad 7 i) 3) x y i).2), .int (nI i), .ref (ad 7 i)]) (st' := [.int y, .int (f (ad 7 i) 3)]) (M' := mm M f g) (ps := [ob (mm M f g) (ad 0 10) 10, mR (mm M f g) (ad 0 10) 1 = some (ad 0 36), va_rf (some (ad 0 36)) = .ref (ad 0 36), ob (mm M f g) (ad 0 36) 21, 17 ≤ 21 ∧ 21 < 22, vp_in (nI i) (mN (mm M f g) (ad 0 36)), mR (mm M f g) (ad 0 36) ((nI i).toNatClampNeg) = some (ad 7 i), va_rf (some (ad 7 i)) = .ref (ad 7 i), ob (mm M f g) (ad 7 i) 9]) rfl ⟨(hF.o 10), (hF.r 10 1 36), rfl, (hF.o 36), (by decide), (vpi (hF.n 36) (show _ < 20 by omega)), (cl_rf rfl (by omega) (hX.2.1 i (by omega))), rfl, (hX.2.2 i (by omega)).1, trivial⟩ ?_
    refine go_icmp rfl (fun (c1 : y < (f (ad 7 i) 3)) => ?_) (fun (c1 : ¬ (y < (f (ad 7 i) 3))) => ?_)
    · -- y < (f (ad 7 i) 3)
      refine go_blk 2 [] (pc' := 8) (vs' := [.ref (ad 0 10), .int x, .int y, .int ((tmV (fun i => f (ad 7 i) 2) (fun i => f (ad 7 i) 3) x y i).1), .int ((tmV (fun i => f (ad 7 i) 2) (fun i => f (ad 7 i) 3) x y i).2), .int ((nI i) + 1), .ref (ad 7 i)]) (st' := []) (M' := mm M f g) (ps := []) rfl trivial ?_
      have e1 : nI i + 1 = nI (i + 1) := nI_add i 1
      have e5 : ((tmV (fun i => f (ad 7 i) 2) (fun i => f (ad 7 i) 3) x y i).1) = (tmV (fun i => f (ad 7 i) 2) (fun i => f (ad 7 i) 3) x y (i + 1)).1 := (by rw [tmV]; grind)
      have e6 : ((tmV (fun i => f (ad 7 i) 2) (fun i => f (ad 7 i) 3) x y i).2) = (tmV (fun i => f (ad 7 i) 2) (fun i => f (ad 7 i) 3) x y (i + 1)).2 := (by rw [tmV]; grind)
      rw [e1, e5, e6]
      exact ih _
    · -- ¬ (y < (f (ad 7 i) 3))
      refine go_blk 3 [] (pc' := 41) (vs' := [.ref (ad 0 10), .int x, .int y, .int ((tmV (fun i => f (ad 7 i) 2) (fun i => f (ad 7 i) 3) x y i).1), .int ((tmV (fun i => f (ad 7 i) 2) (fun i => f (ad 7 i) 3) x y i).2), .int (nI i), .ref (ad 7 i)]) (st' := [.int x, .int (f (ad 7 i) 2)]) (M' := mm M f g) (ps := [ob (mm M f g) (ad 7 i) 9]) rfl ⟨(hX.2.2 i (by omega)).1, trivial⟩ ?_
      refine go_icmp rfl (fun (c2 : x < (f (ad 7 i) 2)) => ?_) (fun (c2 : ¬ (x < (f (ad 7 i) 2))) => ?_)
      · -- x < (f (ad 7 i) 2)
        refine go_blk 2 [] (pc' := 8) (vs' := [.ref (ad 0 10), .int x, .int y, .int ((tmV (fun i => f (ad 7 i) 2) (fun i => f (ad 7 i) 3) x y i).1), .int ((tmV (fun i => f (ad 7 i) 2) (fun i => f (ad 7 i) 3) x y i).2), .int ((nI i) + 1), .ref (ad 7 i)]) (st' := []) (M' := mm M f g) (ps := []) rfl trivial ?_
        have e1 : nI i + 1 = nI (i + 1) := nI_add i 1
        have e5 : ((tmV (fun i => f (ad 7 i) 2) (fun i => f (ad 7 i) 3) x y i).1) = (tmV (fun i => f (ad 7 i) 2) (fun i => f (ad 7 i) 3) x y (i + 1)).1 := (by rw [tmV]; grind)
        have e6 : ((tmV (fun i => f (ad 7 i) 2) (fun i => f (ad 7 i) 3) x y i).2) = (tmV (fun i => f (ad 7 i) 2) (fun i => f (ad 7 i) 3) x y (i + 1)).2 := (by rw [tmV]; grind)
        rw [e1, e5, e6]
        exact ih _
      · -- ¬ (x < (f (ad 7 i) 2))
        refine go_blk 3 [] (pc' := 51) (vs' := [.ref (ad 0 10), .int x, .int y, .int ((tmV (fun i => f (ad 7 i) 2) (fun i => f (ad 7 i) 3) x y i).1), .int ((tmV (fun i => f (ad 7 i) 2) (fun i => f (ad 7 i) 3) x y i).2), .int (nI i), .ref (ad 7 i)]) (st' := [.int ((tmV (fun i => f (ad 7 i) 2) (fun i => f (ad 7 i) 3) x y i).2), .int (f (ad 7 i) 2)]) (M' := mm M f g) (ps := [ob (mm M f g) (ad 7 i) 9]) rfl ⟨(hX.2.2 i (by omega)).1, trivial⟩ ?_
        refine go_icmp rfl (fun (c3 : (f (ad 7 i) 2) < (tmV (fun i => f (ad 7 i) 2) (fun i => f (ad 7 i) 3) x y i).2) => ?_) (fun (c3 : ¬ ((f (ad 7 i) 2) < (tmV (fun i => f (ad 7 i) 2) (fun i => f (ad 7 i) 3) x y i).2)) => ?_)
        · -- (f (ad 7 i) 2) < (tmV (fun i => f (ad 7 i) 2) (fun i => f (ad 7 i) 3) x y i).2
          refine go_blk 2 [] (pc' := 8) (vs' := [.ref (ad 0 10), .int x, .int y, .int ((tmV (fun i => f (ad 7 i) 2) (fun i => f (ad 7 i) 3) x y i).1), .int ((tmV (fun i => f (ad 7 i) 2) (fun i => f (ad 7 i) 3) x y i).2), .int ((nI i) + 1), .ref (ad 7 i)]) (st' := []) (M' := mm M f g) (ps := []) rfl trivial ?_
          have e1 : nI i + 1 = nI (i + 1) := nI_add i 1
          have e5 : ((tmV (fun i => f (ad 7 i) 2) (fun i => f (ad 7 i) 3) x y i).1) = (tmV (fun i => f (ad 7 i) 2) (fun i => f (ad 7 i) 3) x y (i + 1)).1 := (by rw [tmV]; grind)
          have e6 : ((tmV (fun i => f (ad 7 i) 2) (fun i => f (ad 7 i) 3) x y i).2) = (tmV (fun i => f (ad 7 i) 2) (fun i => f (ad 7 i) 3) x y (i + 1)).2 := (by rw [tmV]; grind)
          rw [e1, e5, e6]
          exact ih _
        · -- ¬ ((f (ad 7 i) 2) < (tmV (fun i => f (ad 7 i) 2) (fun i => f (ad 7 i) 3) x y i).2)
          refine go_blk 7 [] (pc' := 8) (vs' := [.ref (ad 0 10), .int x, .int y, .int (nI i), .int (f (ad 7 i) 2), .int ((nI i) + 1), .ref (ad 7 i)]) (st' := []) (M' := mm M f g) (ps := [ob (mm M f g) (ad 7 i) 9]) rfl ⟨(hX.2.2 i (by omega)).1, trivial⟩ ?_
          have e1 : nI i + 1 = nI (i + 1) := nI_add i 1
          have e5 : (nI i) = (tmV (fun i => f (ad 7 i) 2) (fun i => f (ad 7 i) 3) x y (i + 1)).1 := (by rw [tmV]; grind)
          have e6 : (f (ad 7 i) 2) = (tmV (fun i => f (ad 7 i) 2) (fun i => f (ad 7 i) 3) x y (i + 1)).2 := (by rw [tmV]; grind)
          rw [e1, e5, e6]
          exact ih _

set_option maxRecDepth 100000 in
theorem s_Wa_termsFor {d : Nat} {M : Mem} {f : Nat → Nat → Int32} {g : Nat → Nat → Int64} {ad : Nat → Nat → Nat} {R : Option Value → Mem → Prop} {x y : Int32} {nx : Nat} (hd : 0 ≤ d) (hF : Fx M ad) (hX : Xs M ad nx) (hn : f (ad 0 10) 2 = nI nx) (hl : nx ≤ 20) (hR : R (some (.int (tmV (fun i => f (ad 7 i) 2) (fun i => f (ad 7 i) 3) x y nx).1)) (mm M f g)) : Call d 109 [.ref (ad 0 10), .int x, .int y] (mm M f g) R := by
  show Go d 109 0 0 0 [.ref (ad 0 10), .int x, .int y, .retAddr 0, .retAddr 0, .retAddr 0, .retAddr 0] [] (mm M f g) R
  refine go_blk 6 [] (pc' := 8) (vs' := [.ref (ad 0 10), .int x, .int y, .int (-1), .int (-1), .int 0, .retAddr 0]) (st' := []) (M' := mm M f g) (ps := []) rfl trivial ?_
  refine lp_Wa_termsFor hd hF hX hn hl (fun u => ?_) 0 (Nat.zero_le _) _
  show Go d 109 0 0 70 [.ref (ad 0 10), .int x, .int y, .int ((tmV (fun i => f (ad 7 i) 2) (fun i => f (ad 7 i) 3) x y nx).1), .int ((tmV (fun i => f (ad 7 i) 2) (fun i => f (ad 7 i) 3) x y nx).2), .int (nI nx), u] [] (mm M f g) R
  refine go_blk 1 [] (pc' := 71) (vs' := [.ref (ad 0 10), .int x, .int y, .int ((tmV (fun i => f (ad 7 i) 2) (fun i => f (ad 7 i) 3) x y nx).1), .int ((tmV (fun i => f (ad 7 i) 2) (fun i => f (ad 7 i) 3) x y nx).2), .int (nI nx), u]) (st' := [.int ((tmV (fun i => f (ad 7 i) 2) (fun i => f (ad 7 i) 3) x y nx).1)]) (M' := mm M f g) (ps := []) rfl trivial ?_
  refine go_iret rfl rfl ?_
  exact hR

set_option maxRecDepth 100000 in
theorem lp_Mo_termsFor {d : Nat} {M : Mem} {f : Nat → Nat → Int32} {g : Nat → Nat → Int64} {ad : Nat → Nat → Nat} {R : Option Value → Mem → Prop} {x y : Int32} {nx : Nat} (hd : 0 ≤ d) (hM : Mx M ad) (hn : f (ad 10 0) 81 = nI nx) (hl : nx ≤ 20) (hfr : ∀ i, i < nx → 0 ≤ f (ad 9 78) i) (hx : Go d 255 0 0 66 [.ref (ad 10 0), .int x, .int y, .int ((tmV (f (ad 9 78)) (f (ad 9 79)) x y nx).1), .int (nI nx)] [] (mm M f g) R) : ∀ i, i ≤ nx → Go d 255 0 0 5 [.ref (ad 10 0), .int x, .int y, .int ((tmV (f (ad 9 78)) (f (ad 9 79)) x y i).1), .int (nI i)] [] (mm M f g) R := by
  refine up_ind (P := fun i => Go d 255 0 0 5 [.ref (ad 10 0), .int x, .int y, .int ((tmV (f (ad 9 78)) (f (ad 9 79)) x y i).1), .int (nI i)] [] (mm M f g) R) nx ?_ (fun i hi ih => ?_)
  ·
    show Go d 255 0 0 5 [.ref (ad 10 0), .int x, .int y, .int ((tmV (f (ad 9 78)) (f (ad 9 79)) x y nx).1), .int (nI nx)] [] (mm M f g) R
    refine go_blk 3 [some (.int (nI nx))] (pc' := 11) (vs' := [.ref (ad 10 0), .int x, .int y, .int ((tmV (f (ad 9 78)) (f (ad 9 79)) x y nx).1), .int (nI nx)]) (st' := [.int (nI nx), .int (nI nx)]) (M' := mm M f g) (ps := [ob (mm M f g) (ad 10 0) 12, (Value.int (f (ad 10 0) 81)) = .int (nI nx)]) rfl ⟨hM.1, congrArg Value.int hn, trivial⟩ ?_
    refine go_icmp rfl (fun _ => ?_) (fun (z : ¬ (nI nx ≤ (nI nx))) => absurd (show nI nx ≤ (nI nx) from Int32.le_refl _) z)
    exact hx
  · rcases tmV_is (f (ad 9 78)) (f (ad 9 79)) x y i with hq | ⟨k, hk, hq, hq1, hq2⟩
    · rw [hq]
      show Go d 255 0 0 5 [.ref (ad 10 0), .int x, .int y, .int (-1), .int (nI i)] [] (mm M f g) R
      refine go_blk 3 [some (.int (nI nx))] (pc' := 11) (vs' := [.ref (ad 10 0), .int x, .int y, .int (-1), .int (nI i)]) (st' := [.int (nI nx), .int (nI i)]) (M' := mm M f g) (ps := [ob (mm M f g) (ad 10 0) 12, (Value.int (f (ad 10 0) 81)) = .int (nI nx)]) rfl ⟨hM.1, congrArg Value.int hn, trivial⟩ ?_
      refine go_icmp rfl (fun (z : nI nx ≤ (nI i)) => absurd z (show ¬ (nI nx ≤ (nI i)) from (Int32.not_le.mpr ((nI_lts (by omega) (by omega)).mpr hi)))) (fun _ => ?_)
      refine go_blk 5 [some (.ref (ad 9 79)), some (.int (f (ad 9 79) i))] (pc' := 22) (vs' := [.ref (ad 10 0), .int x, .int y, .int (-1), .int (nI i)]) (st' := [.int y, .int (f (ad 9 79) i)]) (M' := mm M f g) (ps := [ob (mm M f g) (ad 10 0) 12, mR (mm M f g) (ad 10 0) 79 = some (ad 9 79), va_rf (some (ad 9 79)) = .ref (ad 9 79), ob (mm M f g) (ad 9 79) 15, vp_in (nI i) (mN (mm M f g) (ad 9 79)), (Value.int (f (ad 9 79) ((nI i).toNatClampNeg))) = .int (f (ad 9 79) i)]) rfl ⟨hM.1, (hM.r 79 15 20), rfl, (hM.o 79 15 20), (vpi (hM.n 79 15 20) (by omega)), congrArg (fun z => Value.int (f (ad 9 79) z)) (nI_clamp (by omega)), trivial⟩ ?_
      refine go_icmp rfl (fun (c1 : y < (f (ad 9 79) i)) => ?_) (fun (c1 : ¬ (y < (f (ad 9 79) i))) => ?_)
      · -- y < (f (ad 9 79) i)
        refine go_blk 2 [] (pc' := 5) (vs' := [.ref (ad 10 0), .int x, .int y, .int (-1), .int ((nI i) + 1)]) (st' := []) (M' := mm M f g) (ps := []) rfl trivial ?_
        have e1 : nI i + 1 = nI (i + 1) := nI_add i 1
        have h0 := hfr i hi
        have e2 : ((-1) : Int32) = (tmV (f (ad 9 78)) (f (ad 9 79)) x y (i + 1)).1 := by rw [tmV, hq]; have := Int32.le_trans (show (-1 : Int32) ≤ 0 by decide) h0; grind
        rw [e1, e2]
        exact ih
      · -- ¬ (y < (f (ad 9 79) i))
        refine go_blk 5 [some (.ref (ad 9 78)), some (.int (f (ad 9 78) i))] (pc' := 33) (vs' := [.ref (ad 10 0), .int x, .int y, .int (-1), .int (nI i)]) (st' := [.int x, .int (f (ad 9 78) i)]) (M' := mm M f g) (ps := [ob (mm M f g) (ad 10 0) 12, mR (mm M f g) (ad 10 0) 78 = some (ad 9 78), va_rf (some (ad 9 78)) = .ref (ad 9 78), ob (mm M f g) (ad 9 78) 15, vp_in (nI i) (mN (mm M f g) (ad 9 78)), (Value.int (f (ad 9 78) ((nI i).toNatClampNeg))) = .int (f (ad 9 78) i)]) rfl ⟨hM.1, (hM.r 78 15 20), rfl, (hM.o 78 15 20), (vpi (hM.n 78 15 20) (by omega)), congrArg (fun z => Value.int (f (ad 9 78) z)) (nI_clamp (by omega)), trivial⟩ ?_
        refine go_icmp rfl (fun (c2 : x < (f (ad 9 78) i)) => ?_) (fun (c2 : ¬ (x < (f (ad 9 78) i))) => ?_)
        · -- x < (f (ad 9 78) i)
          refine go_blk 2 [] (pc' := 5) (vs' := [.ref (ad 10 0), .int x, .int y, .int (-1), .int ((nI i) + 1)]) (st' := []) (M' := mm M f g) (ps := []) rfl trivial ?_
          have e1 : nI i + 1 = nI (i + 1) := nI_add i 1
          have h0 := hfr i hi
          have e2 : ((-1) : Int32) = (tmV (f (ad 9 78)) (f (ad 9 79)) x y (i + 1)).1 := by rw [tmV, hq]; have := Int32.le_trans (show (-1 : Int32) ≤ 0 by decide) h0; grind
          rw [e1, e2]
          exact ih
        · -- ¬ (x < (f (ad 9 78) i))
          refine go_blk 2 [] (pc' := 38) (vs' := [.ref (ad 10 0), .int x, .int y, .int (-1), .int (nI i)]) (st' := [.int (-1), .int (-1)]) (M' := mm M f g) (ps := []) rfl trivial ?_
          refine go_icmp rfl (fun _ => ?_) (fun (z : ¬ (((-1) : Int32) = (-1))) => absurd (show ((-1) : Int32) = (-1) from (by decide)) z)
          refine go_blk 4 [] (pc' := 5) (vs' := [.ref (ad 10 0), .int x, .int y, .int (nI i), .int ((nI i) + 1)]) (st' := []) (M' := mm M f g) (ps := []) rfl trivial ?_
          have e1 : nI i + 1 = nI (i + 1) := nI_add i 1
          have h0 := hfr i hi
          have e2 : (nI i) = (tmV (f (ad 9 78)) (f (ad 9 79)) x y (i + 1)).1 := by rw [tmV, hq]; have := Int32.le_trans (show (-1 : Int32) ≤ 0 by decide) h0; grind
          rw [e1, e2]
          exact ih
    · rw [hq]
      show Go d 255 0 0 5 [.ref (ad 10 0), .int x, .int y, .int (nI k), .int (nI i)] [] (mm M f g) R
      refine go_blk 3 [some (.int (nI nx))] (pc' := 11) (vs' := [.ref (ad 10 0), .int x, .int y, .int (nI k), .int (nI i)]) (st' := [.int (nI nx), .int (nI i)]) (M' := mm M f g) (ps := [ob (mm M f g) (ad 10 0) 12, (Value.int (f (ad 10 0) 81)) = .int (nI nx)]) rfl ⟨hM.1, congrArg Value.int hn, trivial⟩ ?_
      refine go_icmp rfl (fun (z : nI nx ≤ (nI i)) => absurd z (show ¬ (nI nx ≤ (nI i)) from (Int32.not_le.mpr ((nI_lts (by omega) (by omega)).mpr hi)))) (fun _ => ?_)
      refine go_blk 5 [some (.ref (ad 9 79)), some (.int (f (ad 9 79) i))] (pc' := 22) (vs' := [.ref (ad 10 0), .int x, .int y, .int (nI k), .int (nI i)]) (st' := [.int y, .int (f (ad 9 79) i)]) (M' := mm M f g) (ps := [ob (mm M f g) (ad 10 0) 12, mR (mm M f g) (ad 10 0) 79 = some (ad 9 79), va_rf (some (ad 9 79)) = .ref (ad 9 79), ob (mm M f g) (ad 9 79) 15, vp_in (nI i) (mN (mm M f g) (ad 9 79)), (Value.int (f (ad 9 79) ((nI i).toNatClampNeg))) = .int (f (ad 9 79) i)]) rfl ⟨hM.1, (hM.r 79 15 20), rfl, (hM.o 79 15 20), (vpi (hM.n 79 15 20) (by omega)), congrArg (fun z => Value.int (f (ad 9 79) z)) (nI_clamp (by omega)), trivial⟩ ?_
      refine go_icmp rfl (fun (c1 : y < (f (ad 9 79) i)) => ?_) (fun (c1 : ¬ (y < (f (ad 9 79) i))) => ?_)
      · -- y < (f (ad 9 79) i)
        refine go_blk 2 [] (pc' := 5) (vs' := [.ref (ad 10 0), .int x, .int y, .int (nI k), .int ((nI i) + 1)]) (st' := []) (M' := mm M f g) (ps := []) rfl trivial ?_
        have e1 : nI i + 1 = nI (i + 1) := nI_add i 1
        have h0 := hfr i hi
        have e2 : (nI k) = (tmV (f (ad 9 78)) (f (ad 9 79)) x y (i + 1)).1 := by rw [tmV, hq]; have := Int32.le_trans (show (-1 : Int32) ≤ 0 by decide) h0; grind
        rw [e1, e2]
        exact ih
      · -- ¬ (y < (f (ad 9 79) i))
        refine go_blk 5 [some (.ref (ad 9 78)), some (.int (f (ad 9 78) i))] (pc' := 33) (vs' := [.ref (ad 10 0), .int x, .int y, .int (nI k), .int (nI i)]) (st' := [.int x, .int (f (ad 9 78) i)]) (M' := mm M f g) (ps := [ob (mm M f g) (ad 10 0) 12, mR (mm M f g) (ad 10 0) 78 = some (ad 9 78), va_rf (some (ad 9 78)) = .ref (ad 9 78), ob (mm M f g) (ad 9 78) 15, vp_in (nI i) (mN (mm M f g) (ad 9 78)), (Value.int (f (ad 9 78) ((nI i).toNatClampNeg))) = .int (f (ad 9 78) i)]) rfl ⟨hM.1, (hM.r 78 15 20), rfl, (hM.o 78 15 20), (vpi (hM.n 78 15 20) (by omega)), congrArg (fun z => Value.int (f (ad 9 78) z)) (nI_clamp (by omega)), trivial⟩ ?_
        refine go_icmp rfl (fun (c2 : x < (f (ad 9 78) i)) => ?_) (fun (c2 : ¬ (x < (f (ad 9 78) i))) => ?_)
        · -- x < (f (ad 9 78) i)
          refine go_blk 2 [] (pc' := 5) (vs' := [.ref (ad 10 0), .int x, .int y, .int (nI k), .int ((nI i) + 1)]) (st' := []) (M' := mm M f g) (ps := []) rfl trivial ?_
          have e1 : nI i + 1 = nI (i + 1) := nI_add i 1
          have h0 := hfr i hi
          have e2 : (nI k) = (tmV (f (ad 9 78)) (f (ad 9 79)) x y (i + 1)).1 := by rw [tmV, hq]; have := Int32.le_trans (show (-1 : Int32) ≤ 0 by decide) h0; grind
          rw [e1, e2]
          exact ih
        · -- ¬ (x < (f (ad 9 78) i))
          refine go_blk 2 [] (pc' := 38) (vs' := [.ref (ad 10 0), .int x, .int y, .int (nI k), .int (nI i)]) (st' := [.int (-1), .int (nI k)]) (M' := mm M f g) (ps := []) rfl trivial ?_
          refine go_icmp rfl (fun (z : (nI k) = (-1)) => absurd z (show ¬ ((nI k) = (-1)) from (fun z => absurd z (by rw [← Int32.toInt_inj, nI_toInt (by omega)]; show ¬ ((k : Int) = -1); omega)))) (fun _ => ?_)
          refine go_blk 8 [some (.ref (ad 9 78)), some (.int (f (ad 9 78) i)), some (.ref (ad 9 78)), some (.int (f (ad 9 78) k))] (pc' := 54) (vs' := [.ref (ad 10 0), .int x, .int y, .int (nI k), .int (nI i)]) (st' := [.int (f (ad 9 78) k), .int (f (ad 9 78) i)]) (M' := mm M f g) (ps := [ob (mm M f g) (ad 10 0) 12, mR (mm M f g) (ad 10 0) 78 = some (ad 9 78), va_rf (some (ad 9 78)) = .ref (ad 9 78), ob (mm M f g) (ad 9 78) 15, vp_in (nI i) (mN (mm M f g) (ad 9 78)), (Value.int (f (ad 9 78) ((nI i).toNatClampNeg))) = .int (f (ad 9 78) i), ob (mm M f g) (ad 10 0) 12, mR (mm M f g) (ad 10 0) 78 = some (ad 9 78), va_rf (some (ad 9 78)) = .ref (ad 9 78), ob (mm M f g) (ad 9 78) 15, vp_in (nI k) (mN (mm M f g) (ad 9 78)), (Value.int (f (ad 9 78) ((nI k).toNatClampNeg))) = .int (f (ad 9 78) k)]) rfl ⟨hM.1, (hM.r 78 15 20), rfl, (hM.o 78 15 20), (vpi (hM.n 78 15 20) (by omega)), congrArg (fun z => Value.int (f (ad 9 78) z)) (nI_clamp (by omega)), hM.1, (hM.r 78 15 20), rfl, (hM.o 78 15 20), (vpi (hM.n 78 15 20) (by omega)), congrArg (fun z => Value.int (f (ad 9 78) z)) (nI_clamp (by omega)), trivial⟩ ?_
          refine go_icmp rfl (fun (c3 : (f (ad 9 78) i) < f (ad 9 78) k) => ?_) (fun (c3 : ¬ ((f (ad 9 78) i) < f (ad 9 78) k)) => ?_)
          · -- (f (ad 9 78) i) < f (ad 9 78) k
            refine go_blk 2 [] (pc' := 5) (vs' := [.ref (ad 10 0), .int x, .int y, .int (nI k), .int ((nI i) + 1)]) (st' := []) (M' := mm M f g) (ps := []) rfl trivial ?_
            have e1 : nI i + 1 = nI (i + 1) := nI_add i 1
            have h0 := hfr i hi
            have e2 : (nI k) = (tmV (f (ad 9 78)) (f (ad 9 79)) x y (i + 1)).1 := by rw [tmV, hq]; have := Int32.le_trans (show (-1 : Int32) ≤ 0 by decide) h0; grind
            rw [e1, e2]
            exact ih
          · -- ¬ ((f (ad 9 78) i) < f (ad 9 78) k)
            refine go_blk 4 [] (pc' := 5) (vs' := [.ref (ad 10 0), .int x, .int y, .int (nI i), .int ((nI i) + 1)]) (st' := []) (M' := mm M f g) (ps := []) rfl trivial ?_
            have e1 : nI i + 1 = nI (i + 1) := nI_add i 1
            have h0 := hfr i hi
            have e2 : (nI i) = (tmV (f (ad 9 78)) (f (ad 9 79)) x y (i + 1)).1 := by rw [tmV, hq]; have := Int32.le_trans (show (-1 : Int32) ≤ 0 by decide) h0; grind
            rw [e1, e2]
            exact ih

set_option maxRecDepth 100000 in
theorem s_Mo_termsFor {d : Nat} {M : Mem} {f : Nat → Nat → Int32} {g : Nat → Nat → Int64} {ad : Nat → Nat → Nat} {R : Option Value → Mem → Prop} {x y : Int32} {nx : Nat} (hd : 0 ≤ d) (hM : Mx M ad) (hn : f (ad 10 0) 81 = nI nx) (hl : nx ≤ 20) (hfr : ∀ i, i < nx → 0 ≤ f (ad 9 78) i) (hR : R (some (.int (tmV (f (ad 9 78)) (f (ad 9 79)) x y nx).1)) (mm M f g)) : Call d 255 [.ref (ad 10 0), .int x, .int y] (mm M f g) R := by
  show Go d 255 0 0 0 [.ref (ad 10 0), .int x, .int y, .retAddr 0, .retAddr 0] [] (mm M f g) R
  refine go_blk 4 [] (pc' := 5) (vs' := [.ref (ad 10 0), .int x, .int y, .int (-1), .int 0]) (st' := []) (M' := mm M f g) (ps := []) rfl trivial ?_
  refine lp_Mo_termsFor hd hM hn hl hfr ?_ 0 (Nat.zero_le _)
  show Go d 255 0 0 66 [.ref (ad 10 0), .int x, .int y, .int ((tmV (f (ad 9 78)) (f (ad 9 79)) x y nx).1), .int (nI nx)] [] (mm M f g) R
  refine go_blk 1 [] (pc' := 67) (vs' := [.ref (ad 10 0), .int x, .int y, .int ((tmV (f (ad 9 78)) (f (ad 9 79)) x y nx).1), .int (nI nx)]) (st' := [.int ((tmV (f (ad 9 78)) (f (ad 9 79)) x y nx).1)]) (M' := mm M f g) (ps := []) rfl trivial ?_
  refine go_iret rfl rfl ?_
  exact hR

set_option maxRecDepth 100000 in
theorem s_CY_force {d : Nat} {M : Mem} {f : Nat → Nat → Int32} {g : Nat → Nat → Int64} {ad : Nat → Nat → Nat} {R : Option Value → Mem → Prop} {x y : Int32} {nx : Nat} (hd : 2 ≤ d) (hF : Fx M ad) (hX : Xs M ad nx) (hn : f (ad 0 10) 2 = nI nx) (hl : nx ≤ 20) (h1 : ((0 ≤ x ∧ x ≤ 51) ∧ (0 ≤ y ∧ y ≤ 51) ∧ y ≤ f (ad 0 0) 7) → R (some (.int (tmV (fun i => f (ad 7 i) 2) (fun i => f (ad 7 i) 3) x y nx).1)) (mm M f g)) (h0 : ¬ ((0 ≤ x ∧ x ≤ 51) ∧ (0 ≤ y ∧ y ≤ 51) ∧ y ≤ f (ad 0 0) 7) → R (some (.int (-1))) (mm M f g)) : Call d 146 [.ref (ad 0 0), .int x, .int y] (mm M f g) R := by
  show Go d 146 0 0 0 [.ref (ad 0 0), .int x, .int y] [] (mm M f g) R
  refine go_blk 1 [] (pc' := 1) (vs' := [.ref (ad 0 0), .int x, .int y]) (st' := [.int x]) (M' := mm M f g) (ps := []) rfl trivial ?_
  refine go_callS rfl (by decide) rfl rfl (by omega) rfl (by decide) (by decide) ?_
  refine s_CY_isWeek (by omega) (fun c1 => ⟨ne_i, ?_⟩) (fun c1 => ⟨ne_i, ?_⟩)
  · -- 1
    show Go d 146 0 0 4 [.ref (ad 0 0), .int x, .int y] [.int 1] (mm M f g) R
    refine go_if rfl (fun (z : (1 : Int32) = 0) => absurd z (show ¬ ((1 : Int32) = 0) from (by decide))) (fun _ => ?_)
    refine go_blk 1 [] (pc' := 8) (vs' := [.ref (ad 0 0), .int x, .int y]) (st' := [.int y]) (M' := mm M f g) (ps := []) rfl trivial ?_
    refine go_callS rfl (by decide) rfl rfl (by omega) rfl (by decide) (by decide) ?_
    refine s_CY_isWeek (by omega) (fun c2 => ⟨ne_i, ?_⟩) (fun c2 => ⟨ne_i, ?_⟩)
    · -- 1
      show Go d 146 0 0 11 [.ref (ad 0 0), .int x, .int y] [.int 1] (mm M f g) R
      refine go_if rfl (fun (z : (1 : Int32) = 0) => absurd z (show ¬ ((1 : Int32) = 0) from (by decide))) (fun _ => ?_)
      refine go_blk 3 [] (pc' := 19) (vs' := [.ref (ad 0 0), .int x, .int y]) (st' := [.int (f (ad 0 0) 7), .int y]) (M' := mm M f g) (ps := [ob (mm M f g) (ad 0 0) 11]) rfl ⟨(hF.o 0), trivial⟩ ?_
      refine go_icmp rfl (fun (c3 : y ≤ f (ad 0 0) 7) => ?_) (fun (c3 : ¬ (y ≤ f (ad 0 0) 7)) => ?_)
      · -- y ≤ f (ad 0 0) 7
        refine go_blk 4 [some (.ref (ad 0 10))] (pc' := 30) (vs' := [.ref (ad 0 0), .int x, .int y]) (st' := [.int y, .int x, .ref (ad 0 10)]) (M' := mm M f g) (ps := [ob (mm M f g) (ad 0 0) 11, mR (mm M f g) (ad 0 0) 17 = some (ad 0 10), va_rf (some (ad 0 10)) = .ref (ad 0 10)]) rfl ⟨(hF.o 0), (hF.r 0 17 10), rfl, trivial⟩ ?_
        refine go_callV rfl rfl rfl (by omega) rfl (by decide) (by decide) (hF.o 10) ?_
        refine s_Wa_termsFor (by omega) hF hX hn hl ⟨ne_i, ?_⟩
        show Go d 146 0 0 33 [.ref (ad 0 0), .int x, .int y] [.int ((tmV (fun i => f (ad 7 i) 2) (fun i => f (ad 7 i) 3) x y nx).1)] (mm M f g) R
        refine go_iret rfl rfl ?_
        exact h1 (by grind)
      · -- ¬ (y ≤ f (ad 0 0) 7)
        refine go_blk 1 [] (pc' := 23) (vs' := [.ref (ad 0 0), .int x, .int y]) (st' := [.int (-1)]) (M' := mm M f g) (ps := []) rfl trivial ?_
        refine go_iret rfl rfl ?_
        exact h0 (by grind)
    · -- 0
      show Go d 146 0 0 11 [.ref (ad 0 0), .int x, .int y] [.int 0] (mm M f g) R
      refine go_if rfl (fun _ => ?_) (fun (z : ¬ ((0 : Int32) = 0)) => absurd (show (0 : Int32) = 0 from (by decide)) z)
      refine go_blk 1 [] (pc' := 23) (vs' := [.ref (ad 0 0), .int x, .int y]) (st' := [.int (-1)]) (M' := mm M f g) (ps := []) rfl trivial ?_
      refine go_iret rfl rfl ?_
      exact h0 (by grind)
  · -- 0
    show Go d 146 0 0 4 [.ref (ad 0 0), .int x, .int y] [.int 0] (mm M f g) R
    refine go_if rfl (fun _ => ?_) (fun (z : ¬ ((0 : Int32) = 0)) => absurd (show (0 : Int32) = 0 from (by decide)) z)
    refine go_blk 1 [] (pc' := 23) (vs' := [.ref (ad 0 0), .int x, .int y]) (st' := [.int (-1)]) (M' := mm M f g) (ps := []) rfl trivial ?_
    refine go_iret rfl rfl ?_
    exact h0 (by grind)

set_option maxRecDepth 100000 in
theorem s_Mo_force {d : Nat} {M : Mem} {f : Nat → Nat → Int32} {g : Nat → Nat → Int64} {ad : Nat → Nat → Nat} {R : Option Value → Mem → Prop} {x y : Int32} {nx : Nat} (hd : 1 ≤ d) (hi : Inj ad) (hM : Mx M ad) (hn : f (ad 10 0) 81 = nI nx) (hl : nx ≤ 20) (hfr : ∀ i, i < nx → 0 ≤ f (ad 9 78) i) (h1 : ((0 ≤ x ∧ x ≤ 51) ∧ (0 ≤ y ∧ y ≤ (if 51 < f (ad 10 0) 19 then 51 else f (ad 10 0) 19))) → R (some (.int (tmV ((up2 f (ad 10 0) 0 0) (ad 9 78)) ((up2 f (ad 10 0) 0 0) (ad 9 79)) x y nx).1)) (mm M (up2 f (ad 10 0) 0 0) g)) (h0 : ¬ ((0 ≤ x ∧ x ≤ 51) ∧ (0 ≤ y ∧ y ≤ (if 51 < f (ad 10 0) 19 then 51 else f (ad 10 0) 19))) → R (some (.int (-1))) (mm M (up2 f (ad 10 0) 0 0) g)) : Call d 256 [.ref (ad 10 0), .int x, .int y] (mm M f g) R := by
  show Go d 256 0 0 0 [.ref (ad 10 0), .int x, .int y] [] (mm M f g) R
  refine go_blk 6 [] (pc' := 9) (vs' := [.ref (ad 10 0), .int x, .int y]) (st' := [.int 51, .int 0, .int x]) (M' := mm M (up2 f (ad 10 0) 0 0) g) (ps := [ob (mm M f g) (ad 10 0) 12]) rfl ⟨hM.1, trivial⟩ ?_
  refine go_callS rfl (by decide) rfl rfl (by omega) rfl (by decide) (by decide) ?_
  refine s_Mo_isIn (by omega) (fun c1 => ⟨ne_i, ?_⟩) (fun c1 => ⟨ne_i, ?_⟩)
  · -- 1
    show Go d 256 0 0 12 [.ref (ad 10 0), .int x, .int y] [.int 1] (mm M (up2 f (ad 10 0) 0 0) g) R
    refine go_if rfl (fun (z : (1 : Int32) = 0) => absurd z (show ¬ ((1 : Int32) = 0) from (by decide))) (fun _ => ?_)
    refine go_blk 5 [some (.int (f (ad 10 0) 19))] (pc' := 23) (vs' := [.ref (ad 10 0), .int x, .int y]) (st' := [.int 51, .int (f (ad 10 0) 19), .int 0, .int y]) (M' := mm M (up2 f (ad 10 0) 0 0) g) (ps := [ob (mm M (up2 f (ad 10 0) 0 0) g) (ad 10 0) 12, (Value.int ((up2 f (ad 10 0) 0 0) (ad 10 0) 19)) = .int (f (ad 10 0) 19)]) rfl ⟨hM.1, congrArg Value.int ((up2_n _ _ (fun z => absurd z.2 (by decide))).trans (rfl)), trivial⟩ ?_
    refine go_callS rfl (by decide) rfl rfl (by omega) rfl (by decide) (by decide) ?_
    refine s_JM_min0 (by omega) ⟨ne_i, ?_⟩
    show Go d 256 0 0 26 [.ref (ad 10 0), .int x, .int y] [.int (if 51 < (f (ad 10 0) 19) then 51 else (f (ad 10 0) 19)), .int 0, .int y] (mm M (up2 f (ad 10 0) 0 0) g) R
    refine go_callS rfl (by decide) rfl rfl (by omega) rfl (by decide) (by decide) ?_
    refine s_Mo_isIn (by omega) (fun c2 => ⟨ne_i, ?_⟩) (fun c2 => ⟨ne_i, ?_⟩)
    · -- 1
      show Go d 256 0 0 29 [.ref (ad 10 0), .int x, .int y] [.int 1] (mm M (up2 f (ad 10 0) 0 0) g) R
      refine go_if rfl (fun (z : (1 : Int32) = 0) => absurd z (show ¬ ((1 : Int32) = 0) from (by decide))) (fun _ => ?_)
      refine go_blk 3 [] (pc' := 35) (vs' := [.ref (ad 10 0), .int x, .int y]) (st' := [.int y, .int x, .ref (ad 10 0)]) (M' := mm M (up2 f (ad 10 0) 0 0) g) (ps := []) rfl trivial ?_
      refine go_callV rfl rfl rfl (by omega) rfl (by decide) (by decide) hM.1 ?_
      refine s_Mo_termsFor (f := up2 f (ad 10 0) 0 0) (by omega) hM ((up2_n _ _ (fun z => absurd z.2 (by decide))).trans hn) hl (fun i hq => by rw [up2_ad hi]; simpa using hfr i hq) ⟨ne_i, ?_⟩
      show Go d 256 0 0 38 [.ref (ad 10 0), .int x, .int y] [.int ((tmV ((up2 f (ad 10 0) 0 0) (ad 9 78)) ((up2 f (ad 10 0) 0 0) (ad 9 79)) x y nx).1)] (mm M (up2 f (ad 10 0) 0 0) g) R
      refine go_blk 1 [] (pc' := 42) (vs' := [.ref (ad 10 0), .int x, .int y]) (st' := [.int ((tmV ((up2 f (ad 10 0) 0 0) (ad 9 78)) ((up2 f (ad 10 0) 0 0) (ad 9 79)) x y nx).1)]) (M' := mm M (up2 f (ad 10 0) 0 0) g) (ps := []) rfl trivial ?_
      refine go_iret rfl rfl ?_
      exact h1 (by grind)
    · -- 0
      show Go d 256 0 0 29 [.ref (ad 10 0), .int x, .int y] [.int 0] (mm M (up2 f (ad 10 0) 0 0) g) R
      refine go_if rfl (fun _ => ?_) (fun (z : ¬ ((0 : Int32) = 0)) => absurd (show (0 : Int32) = 0 from (by decide)) z)
      refine go_blk 1 [] (pc' := 42) (vs' := [.ref (ad 10 0), .int x, .int y]) (st' := [.int (-1)]) (M' := mm M (up2 f (ad 10 0) 0 0) g) (ps := []) rfl trivial ?_
      refine go_iret rfl rfl ?_
      exact h0 (by grind)
  · -- 0
    show Go d 256 0 0 12 [.ref (ad 10 0), .int x, .int y] [.int 0] (mm M (up2 f (ad 10 0) 0 0) g) R
    refine go_if rfl (fun _ => ?_) (fun (z : ¬ ((0 : Int32) = 0)) => absurd (show (0 : Int32) = 0 from (by decide)) z)
    refine go_blk 1 [] (pc' := 42) (vs' := [.ref (ad 10 0), .int x, .int y]) (st' := [.int (-1)]) (M' := mm M (up2 f (ad 10 0) 0 0) g) (ps := []) rfl trivial ?_
    refine go_iret rfl rfl ?_
    exact h0 (by grind)

set_option maxHeartbeats 20000000 in
set_option maxRecDepth 100000 in
theorem op30 {x o u : Nat} {sc : Nat × Nat × (Nat → Int32)} : Op30 (II x o u sc) x o := by
  intro M a1 a2 hI R K
  obtain ⟨hsc, ad, nc, nb, nt, wk, nw, nx, nl, ne, nk, kd, op, rfl, rfl, rfl, hW⟩ := hI
  obtain ⟨hi, ⟨hF, hM, hC, hB, hT, hX⟩, ⟨iS, iC, iB, iR, iL, iT⟩, ⟨jO, jR, jB, jX, jL⟩, kO, kC, kD, kP, kX⟩ := id hW
  obtain ⟨⟨nc1, nc2, nc3⟩, ⟨nb1, nb2, nb3⟩, ⟨nt1, nt2, nt3⟩, ⟨wk1, wk2, wk3⟩, ⟨nw1, nw2, nw3⟩, ⟨op1, op2, op3⟩, ncm, ncm1, ncm2, ncm3⟩ := id iS
  simp only [vw] at nc1 nc2 nb1 nb2 nt1 nt2 wk1 wk2 nw1 nw2 op1 op2 ncm2 ncm3
  obtain ⟨nn, nn3, nn1, nn2, nnb⟩ := jX.2.1
  simp only [vw] at nn1 nn2
  have nl3 := jL.1.2.2.1
  have nx3 := jX.1.2.2
  have nk3 := jB.1.2.2.2.2.1
  have ne3 := jB.1.2.2.2.2.2
  have hfr : ∀ i, i < nx → 0 ≤ mI M (ad 9 78) i := fun i hq => by
    obtain ⟨k, -, k2, k3⟩ := (jX.2.2 i hq).1.2.2.1
    rw [show mI M (ad 9 78) i = nI k from k3]
    exact nI_pos' (by omega)
  have hq : ∀ y : Int32, ((0 ≤ y ∧ y ≤ 51) ∧ y ≤ mI M (ad 0 0) 7) ↔ (0 ≤ y ∧ y ≤ (if 51 < mI M (ad 10 0) 19 then 51 else mI M (ad 10 0) 19)) := by
    intro y
    rw [wk1, wk2]
    by_cases c : (51 : Int32) < nI wk
    · rw [if_pos c]; exact ⟨fun z => z.1, fun z => ⟨z, Int32.le_trans z.2 (Int32.le_of_lt c)⟩⟩
    · rw [if_neg c]; exact ⟨fun z => ⟨z.1.1, z.2⟩, fun z => ⟨⟨z.1, Int32.le_trans z.2 (Int32.not_lt.mp c)⟩, z.2⟩⟩
  refine s_CY_force (M := M) (f := mI M) (g := mJ M) (by omega) hF hX jX.1.1 jX.1.2.2 (fun hA => ?_) (fun hA => ?_)
  · refine K _ _ hM.1 rfl (fun R2 h2 => ?_)
    refine s_Mo_force (M := M) (f := mI M) (g := mJ M) (by omega) hi hM jX.1.2.1 jX.1.2.2 hfr (fun _ => ?_) (fun hn => absurd ⟨hA.1, (hq _).mp hA.2⟩ hn)
    rw [tmV_congr (fun i hi2 => ?_)]
    · exact h2 _ ⟨hsc, ad, nc, nb, nt, wk, nw, nx, nl, ne, nk, kd, op, rfl, rfl, rfl, hW.thr⟩
    · have q := (jX.2.2 i hi2).1
      simp only [vw] at q
      simp [up2_ad hi, q]
  · refine K _ _ hM.1 rfl (fun R2 h2 => ?_)
    refine s_Mo_force (M := M) (f := mI M) (g := mJ M) (by omega) hi hM jX.1.2.1 jX.1.2.2 hfr (fun hB => absurd ⟨hB.1, (hq _).mpr hB.2⟩ hA) (fun _ => ?_)
    exact h2 _ ⟨hsc, ad, nc, nb, nt, wk, nw, nx, nl, ne, nk, kd, op, rfl, rfl, rfl, hW.thr⟩

