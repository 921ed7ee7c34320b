/-! closeDay: the class's draftLines -/
theorem gsL_mono {p : Nat → Bool} {n : Nat} : ∀ m, (gsL p n).length ≤ (gsL p (n + m)).length
  | 0 => Nat.le_refl _
  | m + 1 => by
    have := gsL_mono (p := p) (n := n) m
    rw [show n + (m + 1) = (n + m) + 1 from rfl, gs_succ, List.length_append]
    omega

set_option maxHeartbeats 4000000 in
set_option maxRecDepth 100000 in
theorem lp_draftI {d : Nat} {M : Mem} {ad : Nat → Nat → Nat} {R : Option Value → Mem → Prop} {bj : Nat → Nat} {nc nb nt wk nw nx nl ne nk kd : Nat} {w i : Nat} (hd : 41 ≤ d) (hW : WI M ad nc nb nt wk nw nx nl ne nk kd true) (hbj : ∀ j, j < 364 → mI M (ad 9 32) j = 1 → bj j < nb ∧ hJ (vw ad (mI M)) wk true (bj j) ∧ jAt (vw ad (mI M)) (bj j) j) (hw : w ≤ wk) (hw2 : w < 52) (hix : i < nx) (htm : tmW' M ad wk nx w = nI i) (h0 : 3000 < nl + (gsL (lnP M ad wk nx bj) 364).length → ∀ r f dl, DR M ad wk nx nl bj dl r f → R (some (.int 0)) (mm (mr M r) f (mJ M))) (hR : ∀ r f u4, DR M ad wk nx nl bj (gsL (lnP M ad wk nx bj) (7 * w + nc)) r f → Go d 177 0 0 106 [.ref (ad 0 0), .int (nI w), .int (nI i), .int (nI nc), u4] [] (mm (mr M r) f (mJ M)) R) : ∀ c, c ≤ nc → ∀ r f u4, DR M ad wk nx nl bj (gsL (lnP M ad wk nx bj) (7 * w + c)) r f → Go d 177 0 0 38 [.ref (ad 0 0), .int (nI w), .int (nI i), .int (nI c), u4] [] (mm (mr M r) f (mJ M)) R := by
  obtain ⟨hi, ⟨hF0, hM, hC0, hB0, hT, hX0⟩, ⟨iS, iC, iB, iR, iL, iT⟩, ⟨jO, jR, jB, jX, jL⟩, kO, kC, kD, kP, kX⟩ := id hW
  obtain ⟨⟨nc1, nc2, nc3⟩, ⟨nb1, nb2, nb3⟩, ⟨nt1, nt2, nt3⟩, ⟨wk1, wk2, wk3⟩, ⟨nw1, nw2, nw3⟩, ⟨op1, op2, op3⟩, ncm, ncm1, ncm2, ncm3⟩ := id iS
  simp only [vw] at nc1 nc2 nb1 nb2 nt1 nt2 wk1 wk2 nw1 nw2 op1 op2 ncm2 ncm3
  have nl3 := jL.1.2.2.1
  have nx3 := jX.1.2.2
  replace op3 : wk < 52 := op3 rfl
  refine up_ind (P := fun c => ∀ r f u4, DR M ad wk nx nl bj (gsL (lnP M ad wk nx bj) (7 * w + c)) r f → Go d 177 0 0 38 [.ref (ad 0 0), .int (nI w), .int (nI i), .int (nI c), u4] [] (mm (mr M r) f (mJ M)) R) nc (fun r f u4 h => ?_) (fun c hc ih r f u4 h => ?_)
  ·
    obtain ⟨hF, hC, hB, hX⟩ := h.env hF0 hC0 hB0 hX0
    show Go d 177 0 0 38 [.ref (ad 0 0), .int (nI w), .int (nI i), .int (nI nc), u4] [] (mm (mr M r) f (mJ M)) R
    refine go_blk 3 [some (.int (nI nc))] (pc' := 43) (vs' := [.ref (ad 0 0), .int (nI w), .int (nI i), .int (nI nc), u4]) (st' := [.int (nI nc), .int (nI nc)]) (M' := mm (mr M r) f (mJ M)) (ps := [ob (mm (mr M r) f (mJ M)) (ad 0 0) 11, (Value.int (f (ad 0 0) 1)) = .int (nI nc)]) rfl ⟨(hF.o 0), congrArg Value.int ((h.2.1 0 0 1 (by omega)).trans nc1), trivial⟩ ?_
    refine go_icmp rfl (fun _ => ?_) (fun (z : ¬ (nI nc ≤ (nI nc))) => absurd (show nI nc ≤ (nI nc) from Int32.le_refl _) z)
    exact hR r f u4 h
  · obtain ⟨hF, hC, hB, hX⟩ := h.env hF0 hC0 hB0 hX0
    have jR2 := h.jr jR
    have hj364 : 7 * w + c < 364 := by omega
    have hj7 : (7 * w + c) / 7 = w := by omega
    have gs1 : gsL (lnP M ad wk nx bj) (7 * w + (c + 1)) = gsL (lnP M ad wk nx bj) (7 * w + c) ++ (if (lnP M ad wk nx bj) (7 * w + c) = true then [7 * w + c] else []) := gs_succ _ _
    have skip : ¬ (lnP M ad wk nx bj) (7 * w + c) = true → ∀ r f u4, DR M ad wk nx nl bj (gsL (lnP M ad wk nx bj) (7 * w + c)) r f → Go d 177 0 0 38 [.ref (ad 0 0), .int (nI w), .int (nI i), .int (nI (c + 1)), u4] [] (mm (mr M r) f (mJ M)) R := fun z r f u4 hh => ih r f u4 (by rw [gs1, if_neg z, List.append_nil]; exact hh)
    show Go d 177 0 0 38 [.ref (ad 0 0), .int (nI w), .int (nI i), .int (nI c), u4] [] (mm (mr M r) f (mJ M)) R
    refine go_blk 3 [some (.int (nI nc))] (pc' := 43) (vs' := [.ref (ad 0 0), .int (nI w), .int (nI i), .int (nI c), u4]) (st' := [.int (nI nc), .int (nI c)]) (M' := mm (mr M r) f (mJ M)) (ps := [ob (mm (mr M r) f (mJ M)) (ad 0 0) 11, (Value.int (f (ad 0 0) 1)) = .int (nI nc)]) rfl ⟨(hF.o 0), congrArg Value.int ((h.2.1 0 0 1 (by omega)).trans nc1), trivial⟩ ?_
    refine go_icmp rfl (fun (z : nI nc ≤ (nI c)) => absurd z (show ¬ (nI nc ≤ (nI c)) from (Int32.not_le.mpr ((nI_lts (a := c) (b := nc) (by omega) (by omega)).mpr hc)))) (fun _ => ?_)
    refine go_blk 2 [] (pc' := 48) (vs' := [.ref (ad 0 0), .int (nI w), .int (nI i), .int (nI c), u4]) (st' := [.int (-1), .int (nI i)]) (M' := mm (mr M r) f (mJ M)) (ps := []) rfl trivial ?_
    refine go_icmp rfl (fun (z : (nI i) = (-1)) => absurd z (show ¬ ((nI i) = (-1)) from (nI_m1 (n := i) (by omega)))) (fun _ => ?_)
    refine go_blk 3 [] (pc' := 54) (vs' := [.ref (ad 0 0), .int (nI w), .int (nI i), .int (nI c), u4]) (st' := [.int (nI c), .int (nI w), .ref (ad 0 0)]) (M' := mm (mr M r) f (mJ M)) (ps := []) rfl trivial ?_
    refine go_callV rfl rfl rfl (by omega) rfl (by decide) (by decide) (hF.o 0) ?_
    refine s_CY_jobOf (by omega) hF hB hC ((h.2.1 0 0 1 (by omega)).trans nc1) nc3 iB jO jR2 (fun w21 c21 b21 hw21 hc21 hb21 hJ21 hA21 hx21 hy21 => ⟨ne_a, ?_⟩) (fun hn21 => ⟨ne_0, ?_⟩)
    · -- ('r', 'ad 6 b#')
      obtain rfl : w = w21 := (nI_eqs (by omega) (by omega)).mp hx21
      obtain rfl : c = c21 := (nI_eqs (by omega) (by omega)).mp hy21
      have h32 : mI M (ad 9 32) (7 * w + c) = 1 := (jO.1 b21 hb21 hJ21 _ hA21).2.1.2.2
      obtain ⟨z1, z2, z3⟩ := hbj _ hj364 h32
      obtain rfl : b21 = bj (7 * w + c) := jAt_inj iB hb21 z1 hJ21 z2 hA21 z3
      obtain ⟨⟨-, -, -, -, -, -, -, p8, -, -, p11⟩, -⟩ := jO.1 _ hb21 hJ21 _ hA21
      simp only [vw] at p8 p11
      have hob : ob M (ad 6 (bj (7 * w + c))) 3 := ((jR.1 _ hb21).1 hJ21).2.1
      show Go d 177 0 0 57 [.ref (ad 0 0), .int (nI w), .int (nI i), .int (nI c), u4] [.ref (ad 6 (bj (7 * w + c)))] (mm (mr M r) f (mJ M)) R
      refine go_blk 2 [] (pc' := 61) (vs' := [.ref (ad 0 0), .int (nI w), .int (nI i), .int (nI c), .ref (ad 6 (bj (7 * w + c)))]) (st' := [.ref (ad 6 (bj (7 * w + c)))]) (M' := mm (mr M r) f (mJ M)) (ps := []) rfl trivial ?_
      refine go_ifnull1 rfl ?_
      refine go_blk 1 [] (pc' := 66) (vs' := [.ref (ad 0 0), .int (nI w), .int (nI i), .int (nI c), .ref (ad 6 (bj (7 * w + c)))]) (st' := [.ref (ad 6 (bj (7 * w + c)))]) (M' := mm (mr M r) f (mJ M)) (ps := []) rfl trivial ?_
      refine go_callV rfl rfl rfl (by omega) rfl (by decide) (by decide) hob ?_
      show Go (d - 1) 27 0 0 0 [.ref (ad 6 (bj (7 * w + c)))] [] (mm (mr M r) f (mJ M)) _
      refine go_blk 3 [some (.int (mI M (ad 9 38) (7 * w + c)))] (pc' := 5) (vs' := [.ref (ad 6 (bj (7 * w + c)))]) (st' := [.int (-1), .int (mI M (ad 9 38) (7 * w + c))]) (M' := mm (mr M r) f (mJ M)) (ps := [ob (mm (mr M r) f (mJ M)) (ad 6 (bj (7 * w + c))) 3, (Value.int (f (ad 6 (bj (7 * w + c))) 8)) = .int (mI M (ad 9 38) (7 * w + c))]) rfl ⟨hob, congrArg Value.int ((h.2.1 6 _ 8 (by omega)).trans p8), trivial⟩ ?_
      refine go_icmp rfl (fun (c22 : (mI M (ad 9 38) (7 * w + c)) = (-1)) => ?_) (fun (c22 : ¬ ((mI M (ad 9 38) (7 * w + c)) = (-1))) => ?_)
      · -- (mI M (ad 9 38) (7 * w + c)) = (-1)
        refine go_blk 1 [] (pc' := 13) (vs' := [.ref (ad 6 (bj (7 * w + c)))]) (st' := [.int 0]) (M' := mm (mr M r) f (mJ M)) (ps := []) rfl trivial ?_
        refine go_zret rfl rfl (Or.inl rfl) ?_
        refine ⟨ne_i, ?_⟩
        show Go d 177 0 0 69 [.ref (ad 0 0), .int (nI w), .int (nI i), .int (nI c), .ref (ad 6 (bj (7 * w + c)))] [.int 0] (mm (mr M r) f (mJ M)) R
        refine go_if rfl (fun _ => ?_) (fun (z : ¬ ((0 : Int32) = 0)) => absurd (show (0 : Int32) = 0 from (by decide)) z)
        refine go_blk 2 [] (pc' := 38) (vs' := [.ref (ad 0 0), .int (nI w), .int (nI i), .int ((nI c) + 1), .ref (ad 6 (bj (7 * w + c)))]) (st' := []) (M' := mm (mr M r) f (mJ M)) (ps := []) rfl trivial ?_
        have hnp : ¬ (lnP M ad wk nx bj) (7 * w + c) = true := fun z => (lnP_of.mp z).2.1 (by first | assumption | exact Classical.not_not.mp (by assumption))
        rw [show nI c + 1 = nI (c + 1) from nI_add c 1]
        exact skip hnp r f _ h
      · -- ¬ ((mI M (ad 9 38) (7 * w + c)) = (-1))
        refine go_blk 2 [] (pc' := 13) (vs' := [.ref (ad 6 (bj (7 * w + c)))]) (st' := [.int 1]) (M' := mm (mr M r) f (mJ M)) (ps := []) rfl trivial ?_
        refine go_zret rfl rfl (Or.inr rfl) ?_
        refine ⟨ne_i, ?_⟩
        show Go d 177 0 0 69 [.ref (ad 0 0), .int (nI w), .int (nI i), .int (nI c), .ref (ad 6 (bj (7 * w + c)))] [.int 1] (mm (mr M r) f (mJ M)) R
        refine go_if rfl (fun (z : (1 : Int32) = 0) => absurd z (show ¬ ((1 : Int32) = 0) from (by decide))) (fun _ => ?_)
        refine go_blk 9 [some (.ref (ad 0 10)), some (.int (nI wk)), some (.ref (ad 0 10))] (pc' := 89) (vs' := [.ref (ad 0 0), .int (nI w), .int (nI i), .int (nI c), .ref (ad 6 (bj (7 * w + c)))]) (st' := [.ref (ad 6 (bj (7 * w + c))), .int (nI i), .ref (ad 0 10), .ref (ad 6 (bj (7 * w + c))), .int (nI wk), .ref (ad 0 10)]) (M' := mm (mr M r) f (mJ M)) (ps := [ob (mm (mr M r) f (mJ M)) (ad 0 0) 11, mR (mm (mr M r) f (mJ M)) (ad 0 0) 17 = some (ad 0 10), va_rf (some (ad 0 10)) = .ref (ad 0 10), ob (mm (mr M r) f (mJ M)) (ad 0 0) 11, (Value.int (f (ad 0 0) 7)) = .int (nI wk), ob (mm (mr M r) f (mJ M)) (ad 0 0) 11, mR (mm (mr M r) f (mJ M)) (ad 0 0) 17 = some (ad 0 10), va_rf (some (ad 0 10)) = .ref (ad 0 10)]) rfl ⟨(hF.o 0), (hF.r 0 17 10), rfl, (hF.o 0), congrArg Value.int ((h.2.1 0 0 7 (by omega)).trans wk1), (hF.o 0), (hF.r 0 17 10), rfl, trivial⟩ ?_
        obtain ⟨-, n, n1, n2, n3⟩ := kX.2.2.1 i hix
        simp only [vw] at n2
        have eL : (mI M (ad 7 i) 1).toNatClampNeg = n := by rw [n2, nI_clamp (by omega)]
        obtain ⟨o, ho⟩ := thr_ok (lv := lvC (mI M) ad (bj (7 * w + c))) (show okT (mI M (ad 8 i)) n from n3)
        have epy : coinO o = pyJ M ad wk nx bj (7 * w + c) := by unfold pyJ; rw [hj7, htm, if_neg (nI_m1 (by omega)), nI_clamp (by omega)]; unfold pyV; rw [eL, ho]
        have hTC : TC (mr M r) ad i n (mI M (ad 8 i)) (lvC (mI M) ad (bj (7 * w + c))) (bj (7 * w + c)) f := by
          have t0 := TX.of hi hX0 jX hB0 jR hix hb21 hJ21
          rw [eL] at t0
          obtain ⟨⟨⟨x1, x2, x3, x4⟩, y1, y2, y3, y4, y5⟩, u1, u2, u3⟩ := t0
          refine ⟨⟨⟨x1, (h.1 7 i 0 (by omega)).trans x2, x3, x4⟩, y1, y2, y3, (h.1 6 _ 0 (by omega)).trans y4, y5⟩, (h.2.1 7 i 1 (by omega)).trans u1, fun k hk => ⟨h.2.1 8 i k (by omega), (u2 k hk).2⟩, fun x hx => ?_⟩
          unfold lvC
          rw [h.2.1 6 _ 6 (by omega), h.2.1 2 _ 3 (by omega), h.2.1 2 _ 2 (by omega), h.2.1 6 _ 8 (by omega), h.2.1 6 _ 3 (by omega), h.2.1 6 _ 10 (by omega), h.2.1 6 _ 7 (by omega)]
        refine go_callV rfl rfl rfl (by omega) rfl (by decide) (by decide) (hF.o 10) ?_
        refine s_Wa_coinsBy (by omega) hF hX ((h.2.1 0 10 2 (by omega)).trans jX.1.1) nx3 hix hTC ho (fun x => ⟨ne_i, ?_⟩)
        · -- ('i', 'coinO o')
          have hq := DR.at (q := i) (x := x) hi h
          generalize up2 f (ad 7 i) 8 x = f2 at hq ⊢
          rw [epy]
          show Go d 177 0 0 92 [.ref (ad 0 0), .int (nI w), .int (nI i), .int (nI c), .ref (ad 6 (bj (7 * w + c)))] [.int (pyJ M ad wk nx bj (7 * w + c)), .ref (ad 6 (bj (7 * w + c))), .int (nI wk), .ref (ad 0 10)] (mm (mr M r) f2 (mJ M)) R
          refine go_callV rfl rfl rfl (by omega) rfl (by decide) (by decide) (hF.o 10) ?_
          refine s_Wa_draft (nl := nl) (m := (gsL (lnP M ad wk nx bj) (7 * w + c)).length) hi hF hob ((hq.2.1 6 _ 11 (by omega)).trans p11) ((hq.2.1 0 10 6 (by omega)).trans jL.1.1) hq.2.2.1.1 hq.2.2.1.2 (fun hdu24 => ⟨ne_i, ?_⟩) (fun hdu24 hln24 => ⟨ne_i, ?_⟩) (fun hdu24 hln24 => ⟨ne_i, ?_⟩)
          · -- ('i', '1')
            have hnp : ¬ (lnP M ad wk nx bj) (7 * w + c) = true := fun z => (lnP_of.mp z).2.2 hdu24
            show Go d 177 0 0 95 [.ref (ad 0 0), .int (nI w), .int (nI i), .int (nI c), .ref (ad 6 (bj (7 * w + c)))] [.int 1] (mm (mr M r) f2 (mJ M)) R
            refine go_if rfl (fun _ => ?_) (fun (z : ¬ (¬ (1 : Int32) = 0)) => absurd (show ¬ (1 : Int32) = 0 from (by decide)) z)
            refine go_blk 2 [] (pc' := 38) (vs' := [.ref (ad 0 0), .int (nI w), .int (nI i), .int ((nI c) + 1), .ref (ad 6 (bj (7 * w + c)))]) (st' := []) (M' := mm (mr M r) f2 (mJ M)) (ps := []) rfl trivial ?_
            rw [show nI c + 1 = nI (c + 1) from nI_add c 1]
            exact skip hnp r f2 _ hq
          · -- ('i', '0')
            have hpp : (lnP M ad wk nx bj) (7 * w + c) = true := lnP_of.mpr ⟨h32, by assumption, hdu24⟩
            have hgt : 3000 < nl + (gsL (lnP M ad wk nx bj) 364).length := by
              have m1 := gsL_mono (p := (lnP M ad wk nx bj)) (n := 7 * w + (c + 1)) (364 - (7 * w + (c + 1)))
              rw [show 7 * w + (c + 1) + (364 - (7 * w + (c + 1))) = 364 by omega, gs1, if_pos hpp, List.length_append] at m1
              simp at m1
              omega
            show Go d 177 0 0 95 [.ref (ad 0 0), .int (nI w), .int (nI i), .int (nI c), .ref (ad 6 (bj (7 * w + c)))] [.int 0] (mm (mr M r) f2 (mJ M)) R
            refine go_if rfl (fun (z : ¬ (0 : Int32) = 0) => absurd z (show ¬ (¬ (0 : Int32) = 0) from (by decide))) (fun _ => ?_)
            refine go_blk 1 [] (pc' := 99) (vs' := [.ref (ad 0 0), .int (nI w), .int (nI i), .int (nI c), .ref (ad 6 (bj (7 * w + c)))]) (st' := [.int 0]) (M' := mm (mr M r) f2 (mJ M)) (ps := []) rfl trivial ?_
            refine go_zret rfl rfl (Or.inl rfl) ?_
            exact h0 hgt r f2 _ hq
          · -- ('i', '1')
            have hpp : (lnP M ad wk nx bj) (7 * w + c) = true := lnP_of.mpr ⟨h32, by assumption, hdu24⟩
            have hqa := DR.add (j := 7 * w + c) hi hq hln24
            generalize up2 r (ad 0 38) _ _ = r3 at hqa ⊢
            generalize up2 (up2 (up2 f2 (ad 0 37) _ _) (ad 0 39) _ _) (ad 0 10) 8 _ = f3 at hqa ⊢
            show Go d 177 0 0 95 [.ref (ad 0 0), .int (nI w), .int (nI i), .int (nI c), .ref (ad 6 (bj (7 * w + c)))] [.int 1] (mm (mr M r3) f3 (mJ M)) R
            refine go_if rfl (fun _ => ?_) (fun (z : ¬ (¬ (1 : Int32) = 0)) => absurd (show ¬ (1 : Int32) = 0 from (by decide)) z)
            refine go_blk 2 [] (pc' := 38) (vs' := [.ref (ad 0 0), .int (nI w), .int (nI i), .int ((nI c) + 1), .ref (ad 6 (bj (7 * w + c)))]) (st' := []) (M' := mm (mr M r3) f3 (mJ M)) (ps := []) rfl trivial ?_
            rw [show nI c + 1 = nI (c + 1) from nI_add c 1]
            exact ih r3 f3 _ (by rw [gs1, if_pos hpp]; exact hqa)
    · -- ('n',)
      have hnp : ¬ (lnP M ad wk nx bj) (7 * w + c) = true := fun z => hn21 ⟨w, c, hw2, hc, rfl, rfl, (lnP_of.mp z).1⟩
      show Go d 177 0 0 57 [.ref (ad 0 0), .int (nI w), .int (nI i), .int (nI c), u4] [.null] (mm (mr M r) f (mJ M)) R
      refine go_blk 2 [] (pc' := 61) (vs' := [.ref (ad 0 0), .int (nI w), .int (nI i), .int (nI c), .null]) (st' := [.null]) (M' := mm (mr M r) f (mJ M)) (ps := []) rfl trivial ?_
      refine go_ifnull0 rfl ?_
      refine go_blk 2 [] (pc' := 38) (vs' := [.ref (ad 0 0), .int (nI w), .int (nI i), .int ((nI c) + 1), .null]) (st' := []) (M' := mm (mr M r) f (mJ M)) (ps := []) rfl trivial ?_
      rw [show nI c + 1 = nI (c + 1) from nI_add c 1]
      exact skip hnp r f _ h

set_option maxHeartbeats 4000000 in
set_option maxRecDepth 100000 in
theorem s_CY_draftLines {d : Nat} {M : Mem} {ad : Nat → Nat → Nat} {R : Option Value → Mem → Prop} {bj : Nat → Nat} {nc nb nt wk nw nx nl ne nk kd : Nat} (hd : 41 ≤ d) (hW : WI M ad nc nb nt wk nw nx nl ne nk kd true) (hbj : ∀ j, j < 364 → mI M (ad 9 32) j = 1 → bj j < nb ∧ hJ (vw ad (mI M)) wk true (bj j) ∧ jAt (vw ad (mI M)) (bj j) j) (h0 : 3000 < nl + (gsL (lnP M ad wk nx bj) 364).length → ∀ r f dl, DR M ad wk nx nl bj dl r f → R (some (.int 0)) (mm (mr M r) f (mJ M))) (h1 : ∀ r f, DR M ad wk nx nl bj (gsL (lnP M ad wk nx bj) 364) r f → R (some (.int 1)) (mm (mr M r) f (mJ M))) : Call d 177 [.ref (ad 0 0)] (mm M (mI M) (mJ M)) R := by
  obtain ⟨hi, ⟨hF0, hM, hC0, hB0, hT, hX0⟩, ⟨iS, iC, iB, iR, iL, iT⟩, ⟨jO, jR, jB, jX, jL⟩, kO, kC, kD, kP, kX⟩ := id hW
  obtain ⟨⟨nc1, nc2, nc3⟩, ⟨nb1, nb2, nb3⟩, ⟨nt1, nt2, nt3⟩, ⟨wk1, wk2, wk3⟩, ⟨nw1, nw2, nw3⟩, ⟨op1, op2, op3⟩, ncm, ncm1, ncm2, ncm3⟩ := id iS
  simp only [vw] at nc1 nc2 nb1 nb2 nt1 nt2 wk1 wk2 nw1 nw2 op1 op2 ncm2 ncm3
  have nl3 := jL.1.2.2.1
  have nx3 := jX.1.2.2
  replace op3 : wk < 52 := op3 rfl
  have tail : gsL (lnP M ad wk nx bj) (7 * (wk + 1)) = gsL (lnP M ad wk nx bj) 364 := by
    have z := gsL_none (p := (lnP M ad wk nx bj)) (n := 7 * (wk + 1)) (364 - 7 * (wk + 1)) (fun k k1 k2 z => ?_)
    · rw [show 7 * (wk + 1) + (364 - 7 * (wk + 1)) = 364 by omega] at z; exact z.symm
    · obtain ⟨y1, y2, y3⟩ := hbj k (by omega) (lnP_of.mp z).1
      obtain ⟨c, w, q1, q2, q3, q4, q5⟩ := y3
      obtain ⟨-, w', r1, r2, r3⟩ := y2
      have ew : w = w' := (nI_eqs (by omega) (by omega)).mp (q4.symm.trans r1)
      omega
  have week : ∀ w, w ≤ wk → gsL (lnP M ad wk nx bj) (7 * w + nc) = gsL (lnP M ad wk nx bj) (7 * (w + 1)) := fun w hw => by
    have z := gsL_none (p := (lnP M ad wk nx bj)) (n := 7 * w + nc) (7 - nc) (fun k k1 k2 z => ?_)
    · rw [show 7 * w + nc + (7 - nc) = 7 * (w + 1) by omega] at z; exact z.symm
    · obtain ⟨y1, y2, y3⟩ := hbj k (by omega) (lnP_of.mp z).1
      obtain ⟨c, w', q1, q2, q3, q4, q5⟩ := y3
      obtain ⟨c', c1, c2⟩ := (iB.1 _ y1).2.1.1
      have ec : c = c' := (nI_eqs (by omega) (by omega)).mp (q3.symm.trans c2)
      omega
  have key : ∀ w, w ≤ wk + 1 → ∀ r f u2 u3 u4, DR M ad wk nx nl bj (gsL (lnP M ad wk nx bj) (7 * w)) r f → Go d 177 0 0 9 [.ref (ad 0 0), .int (nI w), u2, u3, u4] [] (mm (mr M r) f (mJ M)) R := by
    refine up_ind (P := fun w => ∀ r f u2 u3 u4, DR M ad wk nx nl bj (gsL (lnP M ad wk nx bj) (7 * w)) r f → Go d 177 0 0 9 [.ref (ad 0 0), .int (nI w), u2, u3, u4] [] (mm (mr M r) f (mJ M)) R) (wk + 1) (fun r f u2 u3 u4 h => ?_) (fun w hw ih r f u2 u3 u4 h => ?_)
    ·
      obtain ⟨hF, hC, hB, hX⟩ := h.env hF0 hC0 hB0 hX0
      show Go d 177 0 0 9 [.ref (ad 0 0), .int (nI (wk + 1)), u2, u3, u4] [] (mm (mr M r) f (mJ M)) R
      refine go_blk 3 [some (.int (nI wk))] (pc' := 14) (vs' := [.ref (ad 0 0), .int (nI (wk + 1)), u2, u3, u4]) (st' := [.int (nI wk), .int (nI (wk + 1))]) (M' := mm (mr M r) f (mJ M)) (ps := [ob (mm (mr M r) f (mJ M)) (ad 0 0) 11, (Value.int (f (ad 0 0) 7)) = .int (nI wk)]) rfl ⟨(hF.o 0), congrArg Value.int ((h.2.1 0 0 7 (by omega)).trans wk1), trivial⟩ ?_
      refine go_icmp rfl (fun _ => ?_) (fun (z : ¬ (nI wk < (nI (wk + 1)))) => absurd (show nI wk < (nI (wk + 1)) from ((nI_lts (a := wk) (b := wk + 1) (by omega) (by omega)).mpr (by omega))) z)
      refine go_blk 1 [] (pc' := 113) (vs' := [.ref (ad 0 0), .int (nI (wk + 1)), u2, u3, u4]) (st' := [.int 1]) (M' := mm (mr M r) f (mJ M)) (ps := []) rfl trivial ?_
      refine go_zret rfl rfl (Or.inr rfl) ?_
      rw [tail] at h; exact h1 r f h
    · obtain ⟨hF, hC, hB, hX⟩ := h.env hF0 hC0 hB0 hX0
      have etm : (tmV (fun i => f (ad 7 i) 2) (fun i => f (ad 7 i) 3) (nI w) (nI wk) nx).1 = tmW' M ad wk nx w := by
        unfold tmW'
        rw [tmV_congr (fun i hi => ?_)]
        have q := (jX.2.2 i hi).1
        exact ⟨(h.2.1 7 i 2 (by omega)).trans q.1, (h.2.1 7 i 3 (by omega)).trans q.2.1⟩
      have next : ∀ r f u2 u3 u4, DR M ad wk nx nl bj (gsL (lnP M ad wk nx bj) (7 * w + nc)) r f → Go d 177 0 0 106 [.ref (ad 0 0), .int (nI w), u2, u3, u4] [] (mm (mr M r) f (mJ M)) R := fun r f u2 u3 u4 hh => by
        refine go_blk 2 [] (pc' := 9) (vs' := [.ref (ad 0 0), .int (nI w + 1), u2, u3, u4]) (st' := []) (M' := mm (mr M r) f (mJ M)) (ps := []) rfl trivial ?_
        rw [show nI w + 1 = nI (w + 1) from nI_add w 1]
        exact ih r f u2 u3 u4 (by rw [← week w (by omega)]; exact hh)
      have hti := tmV_is (mI M (ad 9 78)) (mI M (ad 9 79)) (nI w) (nI wk) nx
      show Go d 177 0 0 9 [.ref (ad 0 0), .int (nI w), u2, u3, u4] [] (mm (mr M r) f (mJ M)) R
      refine go_blk 3 [some (.int (nI wk))] (pc' := 14) (vs' := [.ref (ad 0 0), .int (nI w), u2, u3, u4]) (st' := [.int (nI wk), .int (nI w)]) (M' := mm (mr M r) f (mJ M)) (ps := [ob (mm (mr M r) f (mJ M)) (ad 0 0) 11, (Value.int (f (ad 0 0) 7)) = .int (nI wk)]) rfl ⟨(hF.o 0), congrArg Value.int ((h.2.1 0 0 7 (by omega)).trans wk1), trivial⟩ ?_
      refine go_icmp rfl (fun (z : nI wk < (nI w)) => absurd z (show ¬ (nI wk < (nI w)) from (Int32.not_lt.mpr ((nI_les (a := w) (b := wk) (by omega) (by omega)).mpr (by omega))))) (fun _ => ?_)
      refine go_blk 2 [] (pc' := 20) (vs' := [.ref (ad 0 0), .int (nI w), u2, u3, u4]) (st' := [.int 52, .int (nI w)]) (M' := mm (mr M r) f (mJ M)) (ps := []) rfl trivial ?_
      refine go_icmp rfl (fun (z : 52 ≤ (nI w)) => absurd z (show ¬ (52 ≤ (nI w)) from (Int32.not_le.mpr ((nI_lts (a := w) (b := 52) (by omega) (by decide)).mpr (by omega))))) (fun _ => ?_)
      refine go_blk 5 [some (.ref (ad 0 10)), some (.int (nI wk))] (pc' := 32) (vs' := [.ref (ad 0 0), .int (nI w), u2, u3, u4]) (st' := [.int (nI wk), .int (nI w), .ref (ad 0 10)]) (M' := mm (mr M r) f (mJ M)) (ps := [ob (mm (mr M r) f (mJ M)) (ad 0 0) 11, mR (mm (mr M r) f (mJ M)) (ad 0 0) 17 = some (ad 0 10), va_rf (some (ad 0 10)) = .ref (ad 0 10), ob (mm (mr M r) f (mJ M)) (ad 0 0) 11, (Value.int (f (ad 0 0) 7)) = .int (nI wk)]) rfl ⟨(hF.o 0), (hF.r 0 17 10), rfl, (hF.o 0), congrArg Value.int ((h.2.1 0 0 7 (by omega)).trans wk1), trivial⟩ ?_
      refine go_callV rfl rfl rfl (by omega) rfl (by decide) (by decide) (hF.o 10) ?_
      refine s_Wa_termsFor (by omega) hF hX ((h.2.1 0 10 2 (by omega)).trans jX.1.1) nx3 ⟨ne_i, ?_⟩
      show Go d 177 0 0 35 [.ref (ad 0 0), .int (nI w), u2, u3, u4] [.int ((tmV (fun i => f (ad 7 i) 2) (fun i => f (ad 7 i) 3) (nI w) (nI wk) nx).1)] (mm (mr M r) f (mJ M)) R
      refine go_blk 3 [] (pc' := 38) (vs' := [.ref (ad 0 0), .int (nI w), .int ((tmV (fun i => f (ad 7 i) 2) (fun i => f (ad 7 i) 3) (nI w) (nI wk) nx).1), .int 0, u4]) (st' := []) (M' := mm (mr M r) f (mJ M)) (ps := []) rfl trivial ?_
      rw [etm]
      rcases hti with hti | ⟨i, hix, hti, -⟩
      · have ht1 : tmW' M ad wk nx w = -1 := by unfold tmW'; rw [hti]
        rw [ht1]
        have hs : gsL (lnP M ad wk nx bj) (7 * w + nc) = gsL (lnP M ad wk nx bj) (7 * w) := gsL_none nc (fun k k1 k2 => ln_none hW (by omega) (by rw [show k / 7 = w by omega]; exact ht1))
        show Go d 177 0 0 38 [.ref (ad 0 0), .int (nI w), .int (-1), .int 0, u4] [] (mm (mr M r) f (mJ M)) R
        refine go_blk 3 [some (.int (nI nc))] (pc' := 43) (vs' := [.ref (ad 0 0), .int (nI w), .int (-1), .int 0, u4]) (st' := [.int (nI nc), .int 0]) (M' := mm (mr M r) f (mJ M)) (ps := [ob (mm (mr M r) f (mJ M)) (ad 0 0) 11, (Value.int (f (ad 0 0) 1)) = .int (nI nc)]) rfl ⟨(hF.o 0), congrArg Value.int ((h.2.1 0 0 1 (by omega)).trans nc1), trivial⟩ ?_
        refine go_icmp rfl (fun (c61 : nI nc ≤ (0 : Int32)) => ?_) (fun (c61 : ¬ (nI nc ≤ (0 : Int32))) => ?_)
        · -- nI nc ≤ (0 : Int32)
          have nc61 : nc ≤ 0 := (nI_les (a := nc) (b := 0) (by omega) (by omega)).mp c61
          exact next r f _ _ _ (by rw [hs]; exact h)
        · -- ¬ (nI nc ≤ (0 : Int32))
          have nc61 : 0 < nc := (nI_lts (a := 0) (b := nc) (by omega) (by omega)).mp (Int32.not_le.mp c61)
          refine go_blk 2 [] (pc' := 48) (vs' := [.ref (ad 0 0), .int (nI w), .int (-1), .int 0, u4]) (st' := [.int (-1), .int (-1)]) (M' := mm (mr M r) f (mJ M)) (ps := []) rfl trivial ?_
          refine go_icmp rfl (fun _ => ?_) (fun (z : ¬ (((-1) : Int32) = (-1))) => absurd (show ((-1) : Int32) = (-1) from (by decide)) z)
          exact next r f _ _ _ (by rw [hs]; exact h)
      · have ht1 : tmW' M ad wk nx w = nI i := by unfold tmW'; rw [hti]
        rw [ht1]
        exact lp_draftI hd hW hbj (by omega) (by omega) hix ht1 h0 (fun r f u4 hh => next r f _ _ _ hh) 0 (Nat.zero_le _) r f _ h
  have hF := hF0
  have hdr : DR M ad wk nx nl bj (gsL (lnP M ad wk nx bj) 0) (mR M) (up2 (mI M) (ad 0 10) 8 0) := ⟨fun _ _ _ _ => rfl, fun t i k z => up2_n _ _ (fun y => z (Or.inl ⟨(hi _ _ _ _ y.1).1, (hi _ _ _ _ y.1).2, y.2⟩)), ⟨up2_s _ _ _ _, by show nl + 0 ≤ 3000; omega⟩, fun k hk => absurd hk (by simp [gsL])⟩
  show Go d 177 0 0 0 [.ref (ad 0 0), .retAddr 0, .retAddr 0, .retAddr 0, .retAddr 0] [] (mm (mr M (mR M)) (mI M) (mJ M)) R
  show Go d 177 0 0 0 [.ref (ad 0 0), .retAddr 0, .retAddr 0, .retAddr 0, .retAddr 0] [] (mm (mr M (mR M)) (mI M) (mJ M)) R
  refine go_blk 2 [some (.ref (ad 0 10))] (pc' := 4) (vs' := [.ref (ad 0 0), .retAddr 0, .retAddr 0, .retAddr 0, .retAddr 0]) (st' := [.ref (ad 0 10)]) (M' := mm (mr M (mR M)) (mI M) (mJ M)) (ps := [ob (mm (mr M (mR M)) (mI M) (mJ M)) (ad 0 0) 11, mR (mm (mr M (mR M)) (mI M) (mJ M)) (ad 0 0) 17 = some (ad 0 10), va_rf (some (ad 0 10)) = .ref (ad 0 10)]) rfl ⟨(hF.o 0), (hF.r 0 17 10), rfl, trivial⟩ ?_
  refine go_callV rfl rfl rfl (by omega) rfl (by decide) (by decide) (hF.o 10) ?_
  show Go (d - 1) 111 0 0 0 [.ref (ad 0 10)] [] (mm (mr M (mR M)) (mI M) (mJ M)) _
  refine go_blk 3 [] (pc' := 5) (vs' := [.ref (ad 0 10)]) (st' := []) (M' := mm (mr M (mR M)) (up2 (mI M) (ad 0 10) 8 0) (mJ M)) (ps := [ob (mm (mr M (mR M)) (mI M) (mJ M)) (ad 0 10) 10]) rfl ⟨(hF.o 10), trivial⟩ ?_
  refine go_vret rfl rfl ?_
  refine ⟨ne_v, ?_⟩
  show Go d 177 0 0 7 [.ref (ad 0 0), .retAddr 0, .retAddr 0, .retAddr 0, .retAddr 0] [] (mm (mr M (mR M)) (up2 (mI M) (ad 0 10) 8 0) (mJ M)) R
  refine go_blk 2 [] (pc' := 9) (vs' := [.ref (ad 0 0), .int 0, .retAddr 0, .retAddr 0, .retAddr 0]) (st' := []) (M' := mm (mr M (mR M)) (up2 (mI M) (ad 0 10) 8 0) (mJ M)) (ps := []) rfl trivial ?_
  exact key 0 (Nat.zero_le _) _ _ _ _ _ hdr

