/-! closeDay: the class's drafts -/
/-- the world's references where drafts were made -/
theorem DR.env {M : Mem} {ad : Nat → Nat → Nat} {nc nb nx wk nl : Nat} {bj : Nat → Nat} {dl : List Nat} {r : Nat → Nat → Option Nat} {f : Nat → Nat → Int32} (h : DR M ad wk nx nl bj dl r f) (hF : Fx M ad) (hC : Cs M ad nc) (hB : Bs M ad nb) (hX : Xs M ad nx) : Fx (mr M r) ad ∧ Cs (mr M r) ad nc ∧ Bs (mr M r) ad nb ∧ Xs (mr M r) ad nx :=
  ⟨fx_mr hF (fun i k z => h.1 0 i k (by omega)), fun c hc => ⟨(h.1 0 1 c (by omega)).trans (hC c hc).1, (hC c hc).2⟩, fun b hb => ⟨(h.1 0 2 b (by omega)).trans (hB b hb).1, (hB b hb).2⟩, (h.1 0 10 0 (by omega)).trans hX.1, fun i hi => (h.1 0 36 i (by omega)).trans (hX.2.1 i hi), fun i hi => ⟨(hX.2.2 i hi).1, (h.1 7 i 0 (by omega)).trans (hX.2.2 i hi).2.1, (hX.2.2 i hi).2.2⟩⟩
theorem DR.jr {M : Mem} {ad : Nat → Nat → Nat} {nc nb nx wk nl : Nat} {op : Bool} {bj : Nat → Nat} {dl : List Nat} {r : Nat → Nat → Option Nat} {f : Nat → Nat → Int32} (h : DR M ad wk nx nl bj dl r f) (jR : IJr M ad (vw ad (mI M)) nb nc wk op) : IJr (mr M r) ad (vw ad (mI M)) nb nc wk op := by
  refine ⟨fun b hb => ⟨fun q => ?_, fun q => (h.1 2 b 12 (by omega)).trans ((jR.1 b hb).2 q)⟩, fun w c hw hc => ?_, fun ho c hc => ?_⟩
  · obtain ⟨z1, z2, z3⟩ := (jR.1 b hb).1 q
    exact ⟨(h.1 2 b 12 (by omega)).trans z1, z2, (h.1 6 b 0 (by omega)).trans z3⟩
  · rcases jR.2.1 w c hw hc with ⟨b, hb, q1, q2, q3, q4⟩ | ⟨q1, q2⟩
    · exact Or.inl ⟨b, hb, q1, q2, q3, (h.1 0 4 _ (by omega)).trans q4⟩
    · exact Or.inr ⟨(h.1 0 4 _ (by omega)).trans q1, q2⟩
  · rcases jR.2.2 ho c hc with ⟨b, hb, q1, q2, q3⟩ | ⟨q1, q2⟩
    · exact Or.inl ⟨b, hb, q1, q2, (h.1 0 5 _ (by omega)).trans q3⟩
    · exact Or.inr ⟨(h.1 0 5 _ (by omega)).trans q1, q2⟩
theorem tm_keep {fr td : Nat → Int32} {x y : Int32} {i : Nat} : ∀ {n : Nat}, i ≤ n → ¬ (tmV fr td x y i).1 = -1 → n < 2 ^ 31 → ¬ (tmV fr td x y n).1 = -1
  | 0, h, hn, _ => by rw [show (0 : Nat) = i by omega]; exact hn
  | n + 1, h, hn, hl => by
    by_cases e : i = n + 1
    · rw [← e]; exact hn
    · rw [tmV]
      by_cases c : td n ≤ y ∧ fr n ≤ x ∧ (tmV fr td x y n).2 ≤ fr n
      · rw [if_pos c]; exact nI_m1 (by omega)
      · rw [if_neg c]; exact tm_keep (by omega) hn (by omega)
/-- no terms: nothing is booked, nothing is paid -/
theorem ln_none {M : Mem} {ad : Nat → Nat → Nat} {nc nb nt wk nw nx nl ne nk kd j : Nat} {bj : Nat → Nat} (hW : WI M ad nc nb nt wk nw nx nl ne nk kd true) (hj : j < 364) (h : tmW' M ad wk nx (j / 7) = -1) : ¬ lnP M ad wk nx bj j = true := by
  intro z
  have z3 := (lnP_of.mp z).2.2
  obtain ⟨hi, hsh, ⟨iS, iC, iB, iR, iL, iT⟩, ⟨jO, jR, jB, jX, jL⟩, kO, kC, kD, kP, kX⟩ := id hW
  have nx3 := jX.1.2.2
  have wk3 := iS.2.2.2.1.2.2
  unfold pyJ at z3
  rw [if_pos h] at z3
  rcases kX.2.2.2.1 j hj with q | ⟨i, fr, q1, q2, q3, q4⟩
  · exact z3 (show (0 : Int32) = mI M (ad 9 41) j from (show mI M (ad 9 41) j = 0 from q).symm)
  · obtain ⟨⟨k, k1, k2⟩, -⟩ := kX.2.2.1 i q1
    simp only [vw] at q2 k2
    have key : ∀ n, i < n → n ≤ nx → ¬ (tmV (mI M (ad 9 78)) (mI M (ad 9 79)) (nI (j / 7)) (nI wk) n).1 = -1 := by
      intro n
      induction n with
      | zero => intro z; omega
      | succ n ih =>
        intro h1 h2
        rw [tmV]
        by_cases c : mI M (ad 9 79) n ≤ nI wk ∧ mI M (ad 9 78) n ≤ nI (j / 7) ∧ (tmV (mI M (ad 9 78)) (mI M (ad 9 79)) (nI (j / 7)) (nI wk) n).2 ≤ mI M (ad 9 78) n
        · rw [if_pos c]; exact nI_m1 (by omega)
        · rw [if_neg c]
          by_cases e : i = n
          · subst e
            exfalso
            refine c ⟨by rw [k2]; exact (nI_les (by omega) (by omega)).mpr k1, by rw [q2]; exact (nI_les (by omega) (by omega)).mpr (by omega), ?_⟩
            rcases tmV_is (mI M (ad 9 78)) (mI M (ad 9 79)) (nI (j / 7)) (nI wk) i with t | ⟨k', t1, t2, t3, t4⟩
            · rw [t, q2, i32_le, nI_toInt (by omega)]; show (-1 : Int) ≤ _; omega
            · apply Classical.byContradiction
              intro w
              have : ¬ (tmV (mI M (ad 9 78)) (mI M (ad 9 79)) (nI (j / 7)) (nI wk) i).1 = -1 := by rw [t2]; exact nI_m1 (by omega)
              rw [tmW'] at h
              exact absurd h (tm_keep (show i ≤ nx by omega) this (by omega))
          · exact ih (by omega) (by omega)
    exact key nx (by omega) (Nat.le_refl _) h

set_option maxRecDepth 100000 in
theorem s_Wa_draft {d : Nat} {M : Mem} {f : Nat → Nat → Int32} {g : Nat → Nat → Int64} {ad : Nat → Nat → Nat} {R : Option Value → Mem → Prop} {r : Nat → Nat → Option Nat} {b wk : Nat} {due bk : Int32} {nl m : Nat} (hi : Inj ad) (hF : Fx (mr M r) ad) (hb : ob M (ad 6 b) 3) (hbk : f (ad 6 b) 11 = bk) (h6 : f (ad 0 10) 6 = nI nl) (h8 : f (ad 0 10) 8 = nI m) (hl : nl + m ≤ 3000) (h1 : due = bk → R (some (.int 1)) (mm (mr M r) f g)) (h0 : ¬ due = bk → nl + m = 3000 → R (some (.int 0)) (mm (mr M r) f g)) (h2 : ¬ due = bk → nl + m < 3000 → R (some (.int 1)) (mm (mr M (up2 r (ad 0 38) (nl + m) (some (ad 6 b)))) (up2 (up2 (up2 f (ad 0 37) (nl + m) (nI wk)) (ad 0 39) (nl + m) (due - bk)) (ad 0 10) 8 (nI (m + 1))) g)) : Call d 112 [.ref (ad 0 10), .int (nI wk), .ref (ad 6 b), .int due] (mm (mr M r) f g) R := by
  have e1 : nI nl + nI m = nI (nl + m) := nI_add nl m
  show Go d 112 0 0 0 [.ref (ad 0 10), .int (nI wk), .ref (ad 6 b), .int due, .retAddr 0] [] (mm (mr M r) f g) R
  refine go_blk 3 [some (.int bk)] (pc' := 5) (vs' := [.ref (ad 0 10), .int (nI wk), .ref (ad 6 b), .int due, .retAddr 0]) (st' := [.int bk, .int due]) (M' := mm (mr M r) f g) (ps := [ob (mm (mr M r) f g) (ad 6 b) 3, (Value.int (f (ad 6 b) 11)) = .int bk]) rfl ⟨hb, congrArg Value.int hbk, trivial⟩ ?_
  refine go_icmp rfl (fun (c1 : ¬ due = bk) => ?_) (fun (c1 : ¬ (¬ due = bk)) => ?_)
  · -- ¬ due = bk
    refine go_blk 5 [some (.int (nI nl)), some (.int (nI m))] (pc' := 19) (vs' := [.ref (ad 0 10), .int (nI wk), .ref (ad 6 b), .int due, .retAddr 0]) (st' := [.int ((nI nl) + (nI m))]) (M' := mm (mr M r) f g) (ps := [ob (mm (mr M r) f g) (ad 0 10) 10, (Value.int (f (ad 0 10) 6)) = .int (nI nl), ob (mm (mr M r) f g) (ad 0 10) 10, (Value.int (f (ad 0 10) 8)) = .int (nI m)]) rfl ⟨(hF.o 10), congrArg Value.int h6, (hF.o 10), congrArg Value.int h8, trivial⟩ ?_
    rw [e1]
    show Go d 112 0 0 19 [.ref (ad 0 10), .int (nI wk), .ref (ad 6 b), .int due, .retAddr 0] [.int (nI (nl + m))] (mm (mr M r) f g) R
    show Go d 112 0 0 19 [.ref (ad 0 10), .int (nI wk), .ref (ad 6 b), .int due, .retAddr 0] [.int (nI (nl + m))] (mm (mr M r) f g) R
    refine go_blk 3 [] (pc' := 26) (vs' := [.ref (ad 0 10), .int (nI wk), .ref (ad 6 b), .int due, .int (nI (nl + m))]) (st' := [.int 3000, .int (nI (nl + m))]) (M' := mm (mr M r) f g) (ps := []) rfl trivial ?_
    refine go_icmp rfl (fun (c2 : (nI (nl + m)) < 3000) => ?_) (fun (c2 : ¬ ((nI (nl + m)) < 3000)) => ?_)
    · -- (nI (nl + m)) < 3000
      have hlt : nl + m < 3000 := (nI_lts (a := nl + m) (b := 3000) (by omega) (by decide)).mp c2
      show Go d 112 0 0 31 [.ref (ad 0 10), .int (nI wk), .ref (ad 6 b), .int due, .int (nI (nl + m))] [] (mm (mr M r) f g) R
      refine go_blk 9 [some (.ref (ad 0 37)), some (.ref (ad 0 38))] (pc' := 46) (vs' := [.ref (ad 0 10), .int (nI wk), .ref (ad 6 b), .int due, .int (nI (nl + m))]) (st' := [.ref (ad 6 b), .int (nI (nl + m)), .ref (ad 0 38)]) (M' := mm (mr M r) (up2 f (ad 0 37) ((nI (nl + m)).toNatClampNeg) (nI wk)) g) (ps := [ob (mm (mr M r) f g) (ad 0 10) 10, mR (mm (mr M r) f g) (ad 0 10) 3 = some (ad 0 37), va_rf (some (ad 0 37)) = .ref (ad 0 37), ob (mm (mr M r) f g) (ad 0 37) 15, vp_in (nI (nl + m)) (mN (mm (mr M r) f g) (ad 0 37)), ob (mm (mr M r) (up2 f (ad 0 37) ((nI (nl + m)).toNatClampNeg) (nI wk)) g) (ad 0 10) 10, mR (mm (mr M r) (up2 f (ad 0 37) ((nI (nl + m)).toNatClampNeg) (nI wk)) g) (ad 0 10) 4 = some (ad 0 38), va_rf (some (ad 0 38)) = .ref (ad 0 38)]) rfl ⟨(hF.o 10), (hF.r 10 3 37), rfl, (hF.o 37), (vpi (hF.n 37) (show nl + m < 3000 by omega)), (hF.o 10), (hF.r 10 4 38), rfl, trivial⟩ ?_
      rw [cl_of (x := ((nl + m))) rfl (by omega)]
      refine go_blk 1 [] (pc' := 47) (vs' := [.ref (ad 0 10), .int (nI wk), .ref (ad 6 b), .int due, .int (nI (nl + m))]) (st' := []) (M' := mm (sR (mr M r) (ad 0 38) ((nI (nl + m)).toNatClampNeg) (some (ad 6 b))) (up2 f (ad 0 37) (((nl + m))) (nI wk)) g) (ps := [ob (mm (mr M r) (up2 f (ad 0 37) (((nl + m))) (nI wk)) g) (ad 0 38) 19, 17 ≤ 19 ∧ 19 < 22, ob (mm (mr M r) (up2 f (ad 0 37) (((nl + m))) (nI wk)) g) (ad 6 b) (zaI.getD (19 - 17) 0), vp_in (nI (nl + m)) (mN (mm (mr M r) (up2 f (ad 0 37) (((nl + m))) (nI wk)) g) (ad 0 38))]) rfl ⟨(hF.o 38), (by decide), hb, (vpi (hF.n 38) (show nl + m < 3000 by omega)), trivial⟩ ?_
      rw [nI_clamp (n := (nl + m)) (by omega)]
      show Go d 112 0 0 47 [.ref (ad 0 10), .int (nI wk), .ref (ad 6 b), .int due, .int (nI (nl + m))] [] (mm (mr M (up2 r (ad 0 38) (nl + m) (some (ad 6 b)))) (up2 f (ad 0 37) (((nl + m))) (nI wk)) g) R
      have hF : Fx (mr M (up2 r (ad 0 38) (nl + m) (some (ad 6 b)))) ad := fx_mr (M := mr M r) (r := up2 r (ad 0 38) (nl + m) (some (ad 6 b))) hF (fun i j z => up2_n _ _ (fun y => by have := (hi _ _ _ _ y.1).2; omega))
      show Go d 112 0 0 47 [.ref (ad 0 10), .int (nI wk), .ref (ad 6 b), .int due, .int (nI (nl + m))] [] (mm (mr M (up2 r (ad 0 38) (nl + m) (some (ad 6 b)))) (up2 f (ad 0 37) (((nl + m))) (nI wk)) g) R
      refine go_blk 15 [some (.ref (ad 0 39)), some (.int bk), some (.int (nI m))] (pc' := 71) (vs' := [.ref (ad 0 10), .int (nI wk), .ref (ad 6 b), .int due, .int (nI (nl + m))]) (st' := [.int 1]) (M' := mm (mr M (up2 r (ad 0 38) (nl + m) (some (ad 6 b)))) (up2 (up2 (up2 f (ad 0 37) (((nl + m))) (nI wk)) (ad 0 39) ((nI (nl + m)).toNatClampNeg) (due - bk)) (ad 0 10) 8 ((nI m) + 1)) g) (ps := [ob (mm (mr M (up2 r (ad 0 38) (nl + m) (some (ad 6 b)))) (up2 f (ad 0 37) (((nl + m))) (nI wk)) g) (ad 0 10) 10, mR (mm (mr M (up2 r (ad 0 38) (nl + m) (some (ad 6 b)))) (up2 f (ad 0 37) (((nl + m))) (nI wk)) g) (ad 0 10) 5 = some (ad 0 39), va_rf (some (ad 0 39)) = .ref (ad 0 39), ob (mm (mr M (up2 r (ad 0 38) (nl + m) (some (ad 6 b)))) (up2 f (ad 0 37) (((nl + m))) (nI wk)) g) (ad 6 b) 3, (Value.int ((up2 f (ad 0 37) (((nl + m))) (nI wk)) (ad 6 b) 11)) = .int bk, ob (mm (mr M (up2 r (ad 0 38) (nl + m) (some (ad 6 b)))) (up2 f (ad 0 37) (((nl + m))) (nI wk)) g) (ad 0 39) 15, vp_in (nI (nl + m)) (mN (mm (mr M (up2 r (ad 0 38) (nl + m) (some (ad 6 b)))) (up2 f (ad 0 37) (((nl + m))) (nI wk)) g) (ad 0 39)), (.ref (ad 0 10) : Value).category = 1, ob (mm (mr M (up2 r (ad 0 38) (nl + m) (some (ad 6 b)))) (up2 (up2 f (ad 0 37) (((nl + m))) (nI wk)) (ad 0 39) ((nI (nl + m)).toNatClampNeg) (due - bk)) g) (ad 0 10) 10, (Value.int ((up2 (up2 f (ad 0 37) (((nl + m))) (nI wk)) (ad 0 39) ((nI (nl + m)).toNatClampNeg) (due - bk)) (ad 0 10) 8)) = .int (nI m), ob (mm (mr M (up2 r (ad 0 38) (nl + m) (some (ad 6 b)))) (up2 (up2 f (ad 0 37) (((nl + m))) (nI wk)) (ad 0 39) ((nI (nl + m)).toNatClampNeg) (due - bk)) g) (ad 0 10) 10]) rfl ⟨(hF.o 10), (hF.r 10 5 39), rfl, hb, congrArg Value.int (((up2_n _ _ (fun z => absurd (hi _ _ _ _ z.1).1 (by decide))).trans (rfl)).trans hbk), (hF.o 39), (vpi (hF.n 39) (show nl + m < 3000 by omega)), rfl, (hF.o 10), congrArg Value.int (((up2_n _ _ (fun z => absurd (hi _ _ _ _ z.1).2 (by decide))).trans ((up2_n _ _ (fun z => absurd (hi _ _ _ _ z.1).2 (by decide))).trans (rfl))).trans h8), (hF.o 10), trivial⟩ ?_
      rw [cl_of (x := ((nl + m))) rfl (by omega)]
      refine go_zret rfl rfl (Or.inr rfl) ?_
      rw [show nI m + 1 = nI (m + 1) from nI_add m 1]
      exact h2 (by assumption) hlt
    · -- ¬ ((nI (nl + m)) < 3000)
      refine go_blk 1 [] (pc' := 30) (vs' := [.ref (ad 0 10), .int (nI wk), .ref (ad 6 b), .int due, .int (nI (nl + m))]) (st' := [.int 0]) (M' := mm (mr M r) f g) (ps := []) rfl trivial ?_
      refine go_zret rfl rfl (Or.inl rfl) ?_
      exact h0 (by assumption) (by have := Int32.not_lt.mp c2; have := (nI_les (a := 3000) (b := nl + m) (by decide) (by omega)).mp this; omega)
  · -- ¬ (¬ due = bk)
    refine go_blk 1 [] (pc' := 9) (vs' := [.ref (ad 0 10), .int (nI wk), .ref (ad 6 b), .int due, .retAddr 0]) (st' := [.int 1]) (M' := mm (mr M r) f g) (ps := []) rfl trivial ?_
    refine go_zret rfl rfl (Or.inr rfl) ?_
    exact h1 (by first | assumption | exact Classical.not_not.mp (by assumption))

