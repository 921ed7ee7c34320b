/-! call: pay -/
/-- coins of text i for the job of booking b -/
def pyV (f : Nat → Nat → Int32) (ad : Nat → Nat → Nat) (i b : Nat) : Int32 := match thrM (f (ad 8 i)) (f (ad 7 i) 1).toNatClampNeg (lvC f ad b) with
  | .inr o => coinO o
  | .inl _ => 0
theorem thr_ok {t : Nat → Int32} {L : Nat} {lv : Int32 → Int64} (h : okT t L) : ∃ o, thrM t L lv = .inr o := by
  cases hz : thrM t L lv with
  | inl e => have := thr_fl.1 e hz; rw [show flt t 0 L (0, 0, 0, true) = none from h] at this; cases this
  | inr o => exact ⟨o, rfl⟩
theorem coinV_m {v : Int64} : (if (0 : Int64) < (if 10000 < v then 10000 else v) then (if 10000 < v then 10000 else v) else 0).toInt32 = coinV v := by
  have e : (if (10000 : Int64) < v then 10000 else v) = (if v < 10000 then v else 10000) := by
    by_cases c : v < 10000
    · rw [if_pos c, if_neg (fun z => absurd (Int64.lt_trans c z) (Int64.lt_irrefl))]
    · by_cases c2 : (10000 : Int64) < v
      · rw [if_neg c, if_pos c2]
      · rw [if_neg c, if_neg c2]
        exact Int64.le_antisymm (Int64.not_lt.mp c2) (Int64.not_lt.mp c)
  unfold coinV
  rw [e]
theorem lv_cm {f : Nat → Nat → Int32} {ad : Nat → Nat → Nat} {nb nt nc wk b j : Nat} {op : Bool} (iB : IBk (vw ad f) nb nc wk op) (jO : IJo (vw ad f) nb nt wk op) (hb : b < nb) (hj : hJ (vw ad f) wk op b) (ha : jAt (vw ad f) b j) (x : Int32) : lvC f ad b x = lvM f ad j x := by
  obtain ⟨⟨p1, p2, p3, p4, p5, p6, p7, p8, p9, p10, p11⟩, ⟨q1, q2, q3⟩, -⟩ := jO.1 b hb hj j ha
  obtain ⟨⟨r0, r1, r2, r3, -⟩, ⟨-, -, s3, -⟩, -⟩ := iB.1 b hb
  simp only [vw] at p3 p6 p7 p8 p10 q1 q2 r2 r3 s3
  unfold lvC lvM
  rw [p6, p8, p3, p10, p7, r2, r3, q1, q2]
  rcases s3 with z | z <;> rw [z] <;> rfl
theorem TX.of {M : Mem} {ad : Nat → Nat → Nat} {nb nc wk nx i b : Nat} {op : Bool} (hi : Inj ad) (hX : Xs M ad nx) (jX : ITx (vw ad (mI M)) nx) (hB : Bs M ad nb) (jR : IJr M ad (vw ad (mI M)) nb nc wk op) (hix : i < nx) (hb : b < nb) (hj : hJ (vw ad (mI M)) wk op b) : TC M ad i (mI M (ad 7 i) 1).toNatClampNeg (mI M (ad 8 i)) (lvC (mI M) ad b) b (mI M) := by
  obtain ⟨-, n, n1, n2, n3, n4⟩ := jX.2.2 i hix
  simp only [vw] at n2 n3 n4
  have eL : (mI M (ad 7 i) 1).toNatClampNeg = n := by rw [n2, nI_clamp (by omega)]
  rw [eL]
  obtain ⟨x1, x2, x3, x4⟩ := hX.2.2 i (by omega)
  obtain ⟨y1, y2, y3⟩ := (jR.1 b hb).1 hj
  exact ⟨⟨⟨x1, x2, x3, x4⟩, hi, n1, y2, y3, (hB b hb).2⟩, n2, fun k hk => ⟨rfl, (n4 k hk).2.1⟩, fun _ _ => rfl⟩

set_option maxRecDepth 100000 in
theorem s_Wa_coinsBy {d : Nat} {M : Mem} {f : Nat → Nat → Int32} {g : Nat → Nat → Int64} {ad : Nat → Nat → Nat} {q L b : Nat} {t : Nat → Int32} {lv : Int32 → Int64} {R : Option Value → Mem → Prop} {o : Option Int64} {nx : Nat} (hd : 38 ≤ d) (hF : Fx M ad) (hX : Xs M ad nx) (hn : f (ad 0 10) 2 = nI nx) (hl : nx ≤ 20) (hq : q < nx) (hT : TC M ad q L t lv b f) (he : thrM t L lv = .inr o) (hR : ∀ x, R (some (.int (coinO o))) (mm M (up2 f (ad 7 q) 8 x) g)) : Call d 110 [.ref (ad 0 10), .int (nI q), .ref (ad 6 b)] (mm M f g) R := by
  show Go d 110 0 0 0 [.ref (ad 0 10), .int (nI q), .ref (ad 6 b)] [] (mm M f g) R
  refine go_blk 1 [] (pc' := 1) (vs' := [.ref (ad 0 10), .int (nI q), .ref (ad 6 b)]) (st' := [.int (nI q)]) (M' := mm M f g) (ps := []) rfl trivial ?_
  refine go_if rfl (fun (z : (nI q) < 0) => absurd z (show ¬ ((nI q) < 0) from (nI_nlt0 (by omega)))) (fun _ => ?_)
  refine go_blk 3 [some (.int (nI nx))] (pc' := 9) (vs' := [.ref (ad 0 10), .int (nI q), .ref (ad 6 b)]) (st' := [.int (nI nx), .int (nI q)]) (M' := mm M f g) (ps := [ob (mm M f g) (ad 0 10) 10, (Value.int (f (ad 0 10) 2)) = .int (nI nx)]) rfl ⟨(hF.o 10), congrArg Value.int hn, trivial⟩ ?_
  refine go_icmp rfl (fun (z : nI nx ≤ (nI q)) => absurd z (show ¬ (nI nx ≤ (nI q)) from (Int32.not_le.mpr ((nI_lts (a := q) (b := nx) (by omega) (by omega)).mpr hq)))) (fun _ => ?_)
  refine go_blk 5 [some (.ref (ad 0 36)), some (.ref (ad 7 q))] (pc' := 19) (vs' := [.ref (ad 0 10), .int (nI q), .ref (ad 6 b)]) (st' := [.ref (ad 6 b), .ref (ad 7 q)]) (M' := mm M f g) (ps := [ob (mm M f g) (ad 0 10) 10, mR (mm M f g) (ad 0 10) 1 = some (ad 0 36), va_rf (some (ad 0 36)) = .ref (ad 0 36), ob (mm M f g) (ad 0 36) 21, 17 ≤ 21 ∧ 21 < 22, vp_in (nI q) (mN (mm M f g) (ad 0 36)), mR (mm M f g) (ad 0 36) ((nI q).toNatClampNeg) = some (ad 7 q), va_rf (some (ad 7 q)) = .ref (ad 7 q)]) rfl ⟨(hF.o 10), (hF.r 10 1 36), rfl, (hF.o 36), (by decide), (vpi (hF.n 36) (show q < 20 by omega)), (cl_rf rfl (by omega) (hX.2.1 q hq)), rfl, trivial⟩ ?_
  refine go_callV rfl rfl rfl (by omega) rfl (by decide) (by decide) (hX.2.2 q (by omega)).1 ?_
  refine s_Tx_coinsFor (by omega) hT he (fun x => ⟨ne_i, ?_⟩)
  · -- ('i', 'coinO o')
    show Go d 110 0 0 22 [.ref (ad 0 10), .int (nI q), .ref (ad 6 b)] [.int (coinO o)] (mm M (up2 f (ad 7 q) 8 x) g) R
    refine go_blk 1 [] (pc' := 26) (vs' := [.ref (ad 0 10), .int (nI q), .ref (ad 6 b)]) (st' := [.int (coinO o)]) (M' := mm M (up2 f (ad 7 q) 8 x) g) (ps := []) rfl trivial ?_
    refine go_iret rfl rfl ?_
    exact hR x

set_option maxRecDepth 100000 in
theorem s_Wa_coinsBy0 {d : Nat} {M : Mem} {f : Nat → Nat → Int32} {g : Nat → Nat → Int64} {ad : Nat → Nat → Nat} {R : Option Value → Mem → Prop} {x : Int32} {nx b : Nat} (hF : Fx M ad) (hn : f (ad 0 10) 2 = nI nx) (hl : nx ≤ 20) (hx : ¬ ∃ j, j < nx ∧ x = nI j) (hR : R (some (.int (-1))) (mm M f g)) : Call d 110 [.ref (ad 0 10), .int x, .ref (ad 6 b)] (mm M f g) R := by
  show Go d 110 0 0 0 [.ref (ad 0 10), .int x, .ref (ad 6 b)] [] (mm M f g) R
  refine go_blk 1 [] (pc' := 1) (vs' := [.ref (ad 0 10), .int x, .ref (ad 6 b)]) (st' := [.int x]) (M' := mm M f g) (ps := []) rfl trivial ?_
  refine go_if rfl (fun (c1 : x < 0) => ?_) (fun (c1 : ¬ (x < 0)) => ?_)
  · -- x < 0
    refine go_blk 1 [] (pc' := 26) (vs' := [.ref (ad 0 10), .int x, .ref (ad 6 b)]) (st' := [.int (-1)]) (M' := mm M f g) (ps := []) rfl trivial ?_
    refine go_iret rfl rfl ?_
    exact hR
  · -- ¬ (x < 0)
    refine go_blk 3 [some (.int (nI nx))] (pc' := 9) (vs' := [.ref (ad 0 10), .int x, .ref (ad 6 b)]) (st' := [.int (nI nx), .int x]) (M' := mm M f g) (ps := [ob (mm M f g) (ad 0 10) 10, (Value.int (f (ad 0 10) 2)) = .int (nI nx)]) rfl ⟨(hF.o 10), congrArg Value.int hn, trivial⟩ ?_
    refine go_icmp rfl (fun (c2 : nI nx ≤ x) => ?_) (fun (c2 : ¬ (nI nx ≤ x)) => ?_)
    · -- nI nx ≤ x
      refine go_blk 1 [] (pc' := 26) (vs' := [.ref (ad 0 10), .int x, .ref (ad 6 b)]) (st' := [.int (-1)]) (M' := mm M f g) (ps := []) rfl trivial ?_
      refine go_iret rfl rfl ?_
      exact hR
    · -- ¬ (nI nx ≤ x)
      exact absurd ((in_lt2 (n := nx) (by omega)).mp ⟨by grind, by grind⟩) hx

set_option maxRecDepth 100000 in
theorem s_Mo_payBy {d : Nat} {M : Mem} {f : Nat → Nat → Int32} {g : Nat → Nat → Int64} {ad : Nat → Nat → Nat} {R : Option Value → Mem → Prop} {i j L : Nat} {t : Nat → Int32} {lv : Int32 → Int64} {o : Option Int64} (hd : 47 ≤ d) (hM : Mx M ad) (hi : Inj ad) (hi20 : i < 20) (hj : j < 364) (hL : f (ad 9 77) i = nI L) (hL0 : L ≤ 120) (hb : ∀ k, k < L → bts (t k) (f (ad 9 76) (120 * i + k))) (hlv : ∀ x, isLt x = true → lv x = lvM f ad j x) (he : thrM t L lv = .inr o) (hR : ∀ f2 g2, GT ad f f2 → GK ad g g2 → R (some (.int (coinO o))) (mm (sR M (ad 10 0) 82 (some (ad 9 76))) f2 g2)) : Call d 257 [.ref (ad 10 0), .int (nI i), .int (nI j)] (mm M f g) R := by
  have e120 : (120 : Int32) * nI i = nI (120 * i) := pk_mul 120 i
  show Go d 257 0 0 0 [.ref (ad 10 0), .int (nI i), .int (nI j)] [] (mm M f g) R
  refine go_blk 11 [some (.ref (ad 9 76)), some (.ref (ad 9 77)), some (.int (nI L))] (pc' := 16) (vs' := [.ref (ad 10 0), .int (nI i), .int (nI j)]) (st' := [.int (nI j), .int (nI L), .int (120 * (nI i)), .ref (ad 9 76), .ref (ad 10 0)]) (M' := mm M f g) (ps := [ob (mm M f g) (ad 10 0) 12, mR (mm M f g) (ad 10 0) 76 = some (ad 9 76), va_rf (some (ad 9 76)) = .ref (ad 9 76), ob (mm M f g) (ad 10 0) 12, mR (mm M f g) (ad 10 0) 77 = some (ad 9 77), va_rf (some (ad 9 77)) = .ref (ad 9 77), ob (mm M f g) (ad 9 77) 15, vp_in (nI i) (mN (mm M f g) (ad 9 77)), (Value.int (f (ad 9 77) ((nI i).toNatClampNeg))) = .int (nI L)]) rfl ⟨hM.1, (hM.r 76 14 2400), rfl, hM.1, (hM.r 77 15 20), rfl, (hM.o 77 15 20), (vpi (hM.n 77 15 20) (by omega)), congrArg Value.int ((congrArg (fun z => f (ad 9 77) z) (nI_clamp (by omega))).trans hL), trivial⟩ ?_
  rw [e120]
  refine go_callV rfl rfl rfl (by omega) rfl (by decide) (by decide) hM.1 ?_
  refine s_Mo_goThrough (fr := 120 * i) (j := j) (t := t) (lv := lv) (by omega) hM hi (Or.inr rfl) (hM.o 76 14 2400) (by rw [hM.n 76 14 2400]; omega) hL0 (by omega) hj (fun k hk => ⟨hb k hk, bts_lt (hb k hk)⟩) hlv (fun e f2 g2 hz => by rw [he] at hz; cases hz) (fun o2 f2 g2 hz hg hgj hf hpd => ⟨ne_v, ?_⟩)
  obtain rfl : o = o2 := by rw [he] at hz; cases hz; rfl
  show Go d 257 0 0 19 [.ref (ad 10 0), .int (nI i), .int (nI j)] [] (mm (sR M (ad 10 0) 82 (some (ad 9 76))) f2 g2) R
  refine go_blk 4 [] (pc' := 27) (vs' := [.ref (ad 10 0), .int (nI i), .int (nI j)]) (st' := [.long (g2 (ad 10 0) 90), .long 10000, .long 0]) (M' := mm (sR M (ad 10 0) 82 (some (ad 9 76))) f2 g2) (ps := [ob (mm (sR M (ad 10 0) 82 (some (ad 9 76))) f2 g2) (ad 10 0) 12]) rfl ⟨hM.1, trivial⟩ ?_
  refine go_callS rfl (by decide) rfl rfl (by omega) rfl (by decide) (by decide) ?_
  refine s_JM_min1 (by omega) ⟨ne_l, ?_⟩
  show Go d 257 0 0 30 [.ref (ad 10 0), .int (nI i), .int (nI j)] [.long (if (10000 : Int64) < (g2 (ad 10 0) 90) then 10000 else (g2 (ad 10 0) 90)), .long 0] (mm (sR M (ad 10 0) 82 (some (ad 9 76))) f2 g2) R
  refine go_callS rfl (by decide) rfl rfl (by omega) rfl (by decide) (by decide) ?_
  refine s_JM_max1 (by omega) ⟨ne_l, ?_⟩
  show Go d 257 0 0 33 [.ref (ad 10 0), .int (nI i), .int (nI j)] [.long (if (0 : Int64) < (if (10000 : Int64) < (g2 (ad 10 0) 90) then 10000 else (g2 (ad 10 0) 90)) then (if (10000 : Int64) < (g2 (ad 10 0) 90) then 10000 else (g2 (ad 10 0) 90)) else 0)] (mm (sR M (ad 10 0) 82 (some (ad 9 76))) f2 g2) R
  refine go_blk 1 [] (pc' := 34) (vs' := [.ref (ad 10 0), .int (nI i), .int (nI j)]) (st' := [.int ((if (0 : Int64) < (if (10000 : Int64) < (g2 (ad 10 0) 90) then 10000 else (g2 (ad 10 0) 90)) then (if (10000 : Int64) < (g2 (ad 10 0) 90) then 10000 else (g2 (ad 10 0) 90)) else 0).toInt32)]) (M' := mm (sR M (ad 10 0) 82 (some (ad 9 76))) f2 g2) (ps := []) rfl trivial ?_
  refine go_iret rfl rfl ?_
  cases o with
  | none =>
    rw [show g2 (ad 10 0) 90 = 0 from hpd.2]
    exact hR f2 g2 hg hgj
  | some v =>
    rw [show g2 (ad 10 0) 90 = v from hpd.2, coinV_m]
    exact hR f2 g2 hg hgj

theorem s_Wa_coinsC {d : Nat} {M : Mem} {ad : Nat → Nat → Nat} {R : Option Value → Mem → Prop} {nb nc wk nx ne nk kd b : Nat} {op : Bool} {x : Int32} (hd : 38 ≤ d) (hi : Inj ad) (hF : Fx M ad) (hX : Xs M ad nx) (hB : Bs M ad nb) (jX : ITx (vw ad (mI M)) nx) (kX : IXt (vw ad (mI M)) nb nx ne nk kd wk) (jR : IJr M ad (vw ad (mI M)) nb nc wk op) (iB : IBk (vw ad (mI M)) nb nc wk op) (hb : b < nb) (hj : hJ (vw ad (mI M)) wk op b) (h1 : ∀ i, i < nx → x = nI i → ∀ y, R (some (.int (pyV (mI M) ad i b))) (mm M (up2 (mI M) (ad 7 i) 8 y) (mJ M))) (h0 : ¬ (∃ j, j < nx ∧ x = nI j) → R (some (.int (-1))) (mm M (mI M) (mJ M))) : Call d 110 [.ref (ad 0 10), .int x, .ref (ad 6 b)] (mm M (mI M) (mJ M)) R := by
  by_cases hx : ∃ j, j < nx ∧ x = nI j
  · obtain ⟨i, hix, rfl⟩ := hx
    have hT := TX.of hi hX jX hB jR hix hb hj
    obtain ⟨-, n, n1, n2, n3⟩ := kX.2.2.1 i hix
    simp only [vw] at n2
    have eL : (mI M (ad 7 i) 1).toNatClampNeg = n := by rw [n2, nI_clamp (by omega)]
    obtain ⟨o, ho⟩ := thr_ok (lv := lvC (mI M) ad b) (show okT (mI M (ad 8 i)) n from n3)
    refine s_Wa_coinsBy hd hF hX jX.1.1 jX.1.2.2 hix (hT) (by rw [eL]; exact ho) (fun y => ?_)
    have e := h1 i hix rfl y
    unfold pyV at e
    rw [eL, ho] at e
    exact e
  · exact s_Wa_coinsBy0 hF jX.1.1 jX.1.2.2 hx (h0 hx)

theorem s_Mo_payC {d : Nat} {M : Mem} {ad : Nat → Nat → Nat} {R : Option Value → Mem → Prop} {nc nb nt wk nw nx nl ne nk kd i b j : Nat} {op : Bool} {f : Nat → Nat → Int32} {g : Nat → Nat → Int64} (hd : 47 ≤ d) (hW : WI M ad nc nb nt wk nw nx nl ne nk kd op) (hix : i < nx) (hb : b < nb) (hj : hJ (vw ad (mI M)) wk op b) (ha : jAt (vw ad (mI M)) b j) (hj3 : j < 364) (hf : ∀ k m, f (ad 9 k) m = mI M (ad 9 k) m) (hR : ∀ f2 g2, GT ad f f2 → GK ad g g2 → R (some (.int (pyV (mI M) ad i b))) (mm (sR M (ad 10 0) 82 (some (ad 9 76))) f2 g2)) : Call d 257 [.ref (ad 10 0), .int (nI i), .int (nI j)] (mm M f g) R := by
  obtain ⟨hi, ⟨hF, hM, hC, hB, hT, hX⟩, ⟨iS, iC, iB, iR, iL, iT⟩, ⟨jO, jR, jB, jX, jL⟩, kO, kC, kD, kP, kX⟩ := id hW
  obtain ⟨-, n, n1, n2, n3⟩ := kX.2.2.1 i hix
  obtain ⟨-, m, m1, m2, m3, m4⟩ := jX.2.2 i hix
  simp only [vw] at n2 m2 m3 m4
  obtain rfl : m = n := by rw [n2] at m2; exact ((nI_eqs (by omega) (by omega)).mp m2).symm
  have eL : (mI M (ad 7 i) 1).toNatClampNeg = m := by rw [n2, nI_clamp (by omega)]
  obtain ⟨o, ho⟩ := thr_ok (lv := lvC (mI M) ad b) (show okT (mI M (ad 8 i)) m from n3)
  have nx3 := jX.1.2.2
  refine s_Mo_payBy (t := mI M (ad 8 i)) (lv := lvC (mI M) ad b) hd hM hi (by omega) hj3 ((hf 77 i).trans m3) m1 (fun k hk => by rw [hf]; exact m4 k hk) (fun x _ => ?_) ho (fun f2 g2 z1 z2 => ?_)
  · rw [lv_cm iB jO hb hj ha]
    unfold lvM
    rw [hf, hf, hf, hf, hf, hf, hf]
  · have e := hR f2 g2 z1 z2
    unfold pyV at e
    rw [eL, ho] at e
    exact e

