/-! texts: the class's atoms, products and sums -/
set_option maxRecDepth 100000 in
theorem s_Tx_number {d : Nat} {M : Mem} {f : Nat → Nat → Int32} {g : Nat → Nat → Int64} {ad : Nat → Nat → Nat} {q L b : Nat} {t : Nat → Int32} {lv : Int32 → Int64} {R : Option Value → Mem → Prop} {w : Int64} {i k : Nat} (hd : 1 ≤ d) (hT : TC M ad q L t lv b f) (hi : i ≤ L) (he : numN t L 5 0 0 i = .inr (w, k)) (hR : R (some (.long w)) (mm M (up2 f (ad 7 q) 8 (nI k)) g)) : Call d 102 [.ref (ad 7 q)] (mm M (up2 f (ad 7 q) 8 (nI i)) g) R := by
  show Go d 102 0 0 0 [.ref (ad 7 q), .retAddr 0, .retAddr 0, .retAddr 0] [] (mm M (up2 f (ad 7 q) 8 (nI i)) g) R
  refine go_blk 5 [some (.int (nI i))] (pc' := 7) (vs' := [.ref (ad 7 q), .long 0, .retAddr 1, .int (nI i)]) (st' := []) (M' := mm M (up2 f (ad 7 q) 8 (nI i)) g) (ps := [ob (mm M (up2 f (ad 7 q) 8 (nI i)) g) (ad 7 q) 9, (Value.int ((up2 f (ad 7 q) 8 (nI i)) (ad 7 q) 8)) = .int (nI i)]) rfl ⟨hT.1.1.1, congrArg Value.int (up2_s _ _ _ _), trivial⟩ ?_
  exact lp_Tx_number hd hT hR 5 0 0 i (by omega) (by omega) hi he

set_option maxRecDepth 100000 in
theorem atomCC {d : Nat} {M : Mem} {f : Nat → Nat → Int32} {g : Nat → Nat → Int64} {ad : Nat → Nat → Nat} {q L b : Nat} {t : Nat → Int32} {lv : Int32 → Int64} {dp r : Nat} (hdr : r + dp = 6) (hT : TC M ad q L t lv b f) (hd : 6 ≤ d) (hS : ∀ r1, r = r1 + 1 → EvC 99 M g ad q L b f (dp + 1) (d - 1) (sumM t L lv (parR t L lv r1))) : EvC 101 M g ad q L b f dp d (atomM t L lv (parR t L lv r)) := by
  intro R i v k hiL he hR
  have hi := hT.1.2.1
  have hL0 := hT.1.2.2.1
  obtain ⟨p, hp⟩ : ∃ p, sk t L i = p := ⟨_, rfl⟩
  have hpp : sk t L p = p := by rw [← hp]; exact sk_sk hiL
  have hpL : p ≤ L := by rw [← hp]; exact (sk_ge hiL).2
  unfold atomM at he
  rw [hp] at he
  by_cases cl : p < L ∧ isLt (t p) = true
  · rw [if_pos cl] at he
    have e12 : lv (t p) = v ∧ p + 1 = k := by cases he; exact ⟨rfl, rfl⟩
    rw [← e12.1, ← e12.2] at hR
    show Go d 101 0 0 0 [.ref (ad 7 q), .ref (ad 6 b), .int (nI dp), .retAddr 0, .retAddr 0, .retAddr 0] [] (mm M (up2 f (ad 7 q) 8 (nI i)) g) R
    refine go_blk 1 [] (pc' := 1) (vs' := [.ref (ad 7 q), .ref (ad 6 b), .int (nI dp), .retAddr 0, .retAddr 0, .retAddr 0]) (st' := [.ref (ad 7 q)]) (M' := mm M (up2 f (ad 7 q) 8 (nI i)) g) (ps := []) rfl trivial ?_
    refine go_callV rfl rfl rfl (by omega) rfl (by decide) (by decide) hT.1.1.1 ?_
    refine s_Tx_signQ (i := i) (p := p) hT hiL hp (fun hj1 => ⟨ne_i, ?_⟩) (fun hj1 => ⟨ne_i, ?_⟩)
    · -- ('i', 't p')
      have hin : p < L := hj1
      show Go d 101 0 0 4 [.ref (ad 7 q), .ref (ad 6 b), .int (nI dp), .retAddr 0, .retAddr 0, .retAddr 0] [.int (t p)] (mm M (up2 f (ad 7 q) 8 (nI p)) g) R
      refine go_blk 2 [] (pc' := 6) (vs' := [.ref (ad 7 q), .ref (ad 6 b), .int (nI dp), .int (t p), .retAddr 0, .retAddr 0]) (st' := [.int (t p)]) (M' := mm M (up2 f (ad 7 q) 8 (nI p)) g) (ps := []) rfl trivial ?_
      refine go_callS rfl (by decide) rfl rfl (by omega) rfl (by decide) (by decide) ?_
      refine s_Tx_isDigit (by omega) (fun hd2 => ⟨ne_i, ?_⟩) (fun hd2 => ⟨ne_i, ?_⟩)
      · -- ('i', '1')
        exact absurd hd2 (by rw [(isLt_ne cl.2).1]; decide)
      · -- ('i', '0')
        show Go d 101 0 0 9 [.ref (ad 7 q), .ref (ad 6 b), .int (nI dp), .int (t p), .retAddr 0, .retAddr 0] [.int 0] (mm M (up2 f (ad 7 q) 8 (nI p)) g) R
        refine go_if rfl (fun _ => ?_) (fun (z : ¬ ((0 : Int32) = 0)) => absurd (show (0 : Int32) = 0 from (by decide)) z)
        refine go_blk 8 [some (.int (nI p))] (pc' := 30) (vs' := [.ref (ad 7 q), .ref (ad 6 b), .int (nI dp), .int (t p), .retAddr 0, .retAddr 0]) (st' := [.int 40, .int (t p)]) (M' := mm M (up2 (up2 f (ad 7 q) 8 (nI p)) (ad 7 q) 8 ((nI p) + 1)) g) (ps := [(.ref (ad 7 q) : Value).category = 1, ob (mm M (up2 f (ad 7 q) 8 (nI p)) g) (ad 7 q) 9, (Value.int ((up2 f (ad 7 q) 8 (nI p)) (ad 7 q) 8)) = .int (nI p), ob (mm M (up2 f (ad 7 q) 8 (nI p)) g) (ad 7 q) 9]) rfl ⟨rfl, hT.1.1.1, congrArg Value.int (up2_s _ _ _ _), hT.1.1.1, trivial⟩ ?_
        refine go_icmp rfl (fun _ => ?_) (fun (z : ¬ (¬ (t p) = 40)) => absurd (show ¬ (t p) = 40 from (isLt_ne cl.2).2.2) z)
        refine go_blk 2 [] (pc' := 41) (vs' := [.ref (ad 7 q), .ref (ad 6 b), .int (nI dp), .int (t p), .retAddr 0, .retAddr 0]) (st' := [.int (t p), .ref (ad 6 b)]) (M' := mm M (up2 (up2 f (ad 7 q) 8 (nI p)) (ad 7 q) 8 ((nI p) + 1)) g) (ps := []) rfl trivial ?_
        rw [up2_up2, show nI p + 1 = nI (p + 1) from nI_add p 1]
        refine go_callS rfl (by decide) rfl rfl (by omega) rfl (by decide) (by decide) ?_
        refine s_Tx_letterFor (i := p + 1) (by omega) hT cl.2 ⟨ne_l, ?_⟩
        show Go d 101 0 0 44 [.ref (ad 7 q), .ref (ad 6 b), .int (nI dp), .int (t p), .retAddr 0, .retAddr 0] [.long (lv (t p))] (mm M (up2 f (ad 7 q) 8 (nI (p + 1))) g) R
        refine go_lret rfl rfl ?_
        exact hR
    · -- ('i', '0')
      exact absurd cl.1 hj1
  · rw [if_neg cl] at he
    by_cases c4 : p < L ∧ t p = 40
    · rw [if_pos c4] at he
      cases r with
      | zero => rw [parR] at he; cases he
      | succ r1 =>
        rw [parR] at he
        obtain ⟨w1, k1, hr⟩ : ∃ w1 k1, sumM t L lv (parR t L lv r1) (p + 1) = .inr (w1, k1) := by
          cases h : sumM t L lv (parR t L lv r1) (p + 1) with
          | inl e => rw [h] at he; cases he
          | inr z => exact ⟨z.1, z.2, rfl⟩
        rw [hr] at he
        obtain ⟨g1, g2, g3⟩ := sum_g (t := t) (lv := lv) (dp := dp + 1) (r := r1) (by omega) (p + 1) (by omega) w1 k1 hr
        simp only [] at he
        rw [g3] at he
        have h41 : k1 < L ∧ t k1 = 41 := by
          apply Classical.byContradiction; intro z; rw [if_neg z] at he; cases he
        rw [if_pos h41] at he
        have e12 : w1 = v ∧ k1 + 1 = k := by cases he; exact ⟨rfl, rfl⟩
        rw [← e12.1, ← e12.2] at hR
        show Go d 101 0 0 0 [.ref (ad 7 q), .ref (ad 6 b), .int (nI dp), .retAddr 0, .retAddr 0, .retAddr 0] [] (mm M (up2 f (ad 7 q) 8 (nI i)) g) R
        refine go_blk 1 [] (pc' := 1) (vs' := [.ref (ad 7 q), .ref (ad 6 b), .int (nI dp), .retAddr 0, .retAddr 0, .retAddr 0]) (st' := [.ref (ad 7 q)]) (M' := mm M (up2 f (ad 7 q) 8 (nI i)) g) (ps := []) rfl trivial ?_
        refine go_callV rfl rfl rfl (by omega) rfl (by decide) (by decide) hT.1.1.1 ?_
        refine s_Tx_signQ (i := i) (p := p) hT hiL hp (fun hj1 => ⟨ne_i, ?_⟩) (fun hj1 => ⟨ne_i, ?_⟩)
        · -- ('i', 't p')
          have hin : p < L := hj1
          show Go d 101 0 0 4 [.ref (ad 7 q), .ref (ad 6 b), .int (nI dp), .retAddr 0, .retAddr 0, .retAddr 0] [.int (t p)] (mm M (up2 f (ad 7 q) 8 (nI p)) g) R
          refine go_blk 2 [] (pc' := 6) (vs' := [.ref (ad 7 q), .ref (ad 6 b), .int (nI dp), .int (t p), .retAddr 0, .retAddr 0]) (st' := [.int (t p)]) (M' := mm M (up2 f (ad 7 q) 8 (nI p)) g) (ps := []) rfl trivial ?_
          refine go_callS rfl (by decide) rfl rfl (by omega) rfl (by decide) (by decide) ?_
          refine s_Tx_isDigit (by omega) (fun hd2 => ⟨ne_i, ?_⟩) (fun hd2 => ⟨ne_i, ?_⟩)
          · -- ('i', '1')
            exact absurd hd2 (by rw [c4.2]; decide)
          · -- ('i', '0')
            show Go d 101 0 0 9 [.ref (ad 7 q), .ref (ad 6 b), .int (nI dp), .int (t p), .retAddr 0, .retAddr 0] [.int 0] (mm M (up2 f (ad 7 q) 8 (nI p)) g) R
            refine go_if rfl (fun _ => ?_) (fun (z : ¬ ((0 : Int32) = 0)) => absurd (show (0 : Int32) = 0 from (by decide)) z)
            refine go_blk 8 [some (.int (nI p))] (pc' := 30) (vs' := [.ref (ad 7 q), .ref (ad 6 b), .int (nI dp), .int (t p), .retAddr 0, .retAddr 0]) (st' := [.int 40, .int (t p)]) (M' := mm M (up2 (up2 f (ad 7 q) 8 (nI p)) (ad 7 q) 8 ((nI p) + 1)) g) (ps := [(.ref (ad 7 q) : Value).category = 1, ob (mm M (up2 f (ad 7 q) 8 (nI p)) g) (ad 7 q) 9, (Value.int ((up2 f (ad 7 q) 8 (nI p)) (ad 7 q) 8)) = .int (nI p), ob (mm M (up2 f (ad 7 q) 8 (nI p)) g) (ad 7 q) 9]) rfl ⟨rfl, hT.1.1.1, congrArg Value.int (up2_s _ _ _ _), hT.1.1.1, trivial⟩ ?_
            refine go_icmp rfl (fun (z : ¬ (t p) = 40) => absurd z (show ¬ (¬ (t p) = 40) from (not_not_intro c4.2))) (fun _ => ?_)
            refine go_blk 2 [] (pc' := 36) (vs' := [.ref (ad 7 q), .ref (ad 6 b), .int (nI dp), .int (t p), .retAddr 0, .retAddr 0]) (st' := [.int 6, .int (nI dp)]) (M' := mm M (up2 (up2 f (ad 7 q) 8 (nI p)) (ad 7 q) 8 ((nI p) + 1)) g) (ps := []) rfl trivial ?_
            refine go_icmp rfl (fun _ => ?_) (fun (z : ¬ ((nI dp) < 6)) => absurd (show (nI dp) < 6 from ((nI_lts (a := dp) (b := 6) (by omega) (by decide)).mpr (by omega))) z)
            refine go_blk 5 [] (pc' := 50) (vs' := [.ref (ad 7 q), .ref (ad 6 b), .int (nI dp), .int (t p), .retAddr 0, .retAddr 0]) (st' := [.int ((nI dp) + 1), .ref (ad 6 b), .ref (ad 7 q)]) (M' := mm M (up2 (up2 f (ad 7 q) 8 (nI p)) (ad 7 q) 8 ((nI p) + 1)) g) (ps := []) rfl trivial ?_
            rw [up2_up2, show nI p + 1 = nI (p + 1) from nI_add p 1, show nI dp + 1 = nI (dp + 1) from nI_add dp 1]
            refine go_callV rfl rfl rfl (by omega) rfl (by decide) (by decide) hT.1.1.1 ?_
            refine (hS r1 rfl) _ (p + 1) w1 k1 (by omega) hr ⟨ne_l, ?_⟩
            show Go d 101 0 0 53 [.ref (ad 7 q), .ref (ad 6 b), .int (nI dp), .int (t p), .retAddr 0, .retAddr 0] [.long w1] (mm M (up2 f (ad 7 q) 8 (nI k1)) g) R
            refine go_blk 2 [] (pc' := 56) (vs' := [.ref (ad 7 q), .ref (ad 6 b), .int (nI dp), .int (t p), .long w1, .retAddr 1]) (st' := [.ref (ad 7 q)]) (M' := mm M (up2 f (ad 7 q) 8 (nI k1)) g) (ps := []) rfl trivial ?_
            refine go_callV rfl rfl rfl (by omega) rfl (by decide) (by decide) hT.1.1.1 ?_
            refine s_Tx_takeSign (i := k1) (p := k1) (by omega) hT (by omega) g3 h41.1 ⟨ne_i, ?_⟩
            show Go d 101 0 0 59 [.ref (ad 7 q), .ref (ad 6 b), .int (nI dp), .int (t p), .long w1, .retAddr 1] [.int (t k1)] (mm M (up2 f (ad 7 q) 8 (nI (k1 + 1))) g) R
            refine go_blk 2 [] (pc' := 62) (vs' := [.ref (ad 7 q), .ref (ad 6 b), .int (nI dp), .int (t p), .long w1, .retAddr 1]) (st' := [.long w1]) (M' := mm M (up2 f (ad 7 q) 8 (nI (k1 + 1))) g) (ps := [(.int (t k1) : Value).category = 1]) rfl ⟨rfl, trivial⟩ ?_
            refine go_lret rfl rfl ?_
            exact hR
        · -- ('i', '0')
          exact absurd c4.1 hj1
    · rw [if_neg c4] at he
      have c5 : p < L ∧ isDg (t p) = true := by
        apply Classical.byContradiction; intro z; rw [if_neg z] at he; cases he
      rw [if_pos c5] at he
      show Go d 101 0 0 0 [.ref (ad 7 q), .ref (ad 6 b), .int (nI dp), .retAddr 0, .retAddr 0, .retAddr 0] [] (mm M (up2 f (ad 7 q) 8 (nI i)) g) R
      refine go_blk 1 [] (pc' := 1) (vs' := [.ref (ad 7 q), .ref (ad 6 b), .int (nI dp), .retAddr 0, .retAddr 0, .retAddr 0]) (st' := [.ref (ad 7 q)]) (M' := mm M (up2 f (ad 7 q) 8 (nI i)) g) (ps := []) rfl trivial ?_
      refine go_callV rfl rfl rfl (by omega) rfl (by decide) (by decide) hT.1.1.1 ?_
      refine s_Tx_signQ (i := i) (p := p) hT hiL hp (fun hj1 => ⟨ne_i, ?_⟩) (fun hj1 => ⟨ne_i, ?_⟩)
      · -- ('i', 't p')
        have hin : p < L := hj1
        show Go d 101 0 0 4 [.ref (ad 7 q), .ref (ad 6 b), .int (nI dp), .retAddr 0, .retAddr 0, .retAddr 0] [.int (t p)] (mm M (up2 f (ad 7 q) 8 (nI p)) g) R
        refine go_blk 2 [] (pc' := 6) (vs' := [.ref (ad 7 q), .ref (ad 6 b), .int (nI dp), .int (t p), .retAddr 0, .retAddr 0]) (st' := [.int (t p)]) (M' := mm M (up2 f (ad 7 q) 8 (nI p)) g) (ps := []) rfl trivial ?_
        refine go_callS rfl (by decide) rfl rfl (by omega) rfl (by decide) (by decide) ?_
        refine s_Tx_isDigit (by omega) (fun hd2 => ⟨ne_i, ?_⟩) (fun hd2 => ⟨ne_i, ?_⟩)
        · -- ('i', '1')
          show Go d 101 0 0 9 [.ref (ad 7 q), .ref (ad 6 b), .int (nI dp), .int (t p), .retAddr 0, .retAddr 0] [.int 1] (mm M (up2 f (ad 7 q) 8 (nI p)) g) R
          refine go_if rfl (fun (z : (1 : Int32) = 0) => absurd z (show ¬ ((1 : Int32) = 0) from (by decide))) (fun _ => ?_)
          refine go_blk 1 [] (pc' := 13) (vs' := [.ref (ad 7 q), .ref (ad 6 b), .int (nI dp), .int (t p), .retAddr 0, .retAddr 0]) (st' := [.ref (ad 7 q)]) (M' := mm M (up2 f (ad 7 q) 8 (nI p)) g) (ps := []) rfl trivial ?_
          refine go_callV rfl rfl rfl (by omega) rfl (by decide) (by decide) hT.1.1.1 ?_
          refine s_Tx_number (by omega) hT hpL he ⟨ne_l, ?_⟩
          show Go d 101 0 0 16 [.ref (ad 7 q), .ref (ad 6 b), .int (nI dp), .int (t p), .retAddr 0, .retAddr 0] [.long v] (mm M (up2 f (ad 7 q) 8 (nI k)) g) R
          refine go_lret rfl rfl ?_
          exact hR
        · -- ('i', '0')
          exact absurd c5.2 hd2
      · -- ('i', '0')
        exact absurd c5.1 hj1

theorem s_Tx_dividedZ {d : Nat} {M : Mem} {f : Nat → Nat → Int32} {g : Nat → Nat → Int64} {R : Option Value → Mem → Prop} {x y : Int64} (hR : R (some (.long (dvV x y))) (mm M f g)) : Call d 104 [.long x, .long y] (mm M f g) R := by
  show Go d 104 0 0 0 [.long x, .retAddr 1, .long y, .retAddr 1] [] (mm M f g) R
  refine go_blk 3 [] (pc' := 3) (vs' := [.long x, .retAddr 1, .long y, .retAddr 1]) (st' := [.int (lg_cmp y 0)]) (M' := mm M f g) (ps := []) rfl trivial ?_
  refine go_if rfl (fun (c1 : ¬ (lg_cmp y 0) = 0) => ?_) (fun (c1 : ¬ (¬ (lg_cmp y 0) = 0)) => ?_)
  · -- ¬ (lg_cmp y 0) = 0
    refine go_blk 3 [] (pc' := 13) (vs' := [.long x, .retAddr 1, .long y, .retAddr 1]) (st' := [.long (x / y)]) (M' := mm M f g) (ps := [¬ y = 0]) rfl ⟨(fun z => c1 ((lg_eq _ _).mpr z)), trivial⟩ ?_
    refine go_lret rfl rfl ?_
    rw [dvV, if_neg (fun z => c1 ((lg_eq _ _).mpr z))] at hR
    exact hR
  · -- ¬ (¬ (lg_cmp y 0) = 0)
    refine go_blk 2 [] (pc' := 13) (vs' := [.long x, .retAddr 1, .long y, .retAddr 1]) (st' := [.long 0]) (M' := mm M f g) (ps := []) rfl trivial ?_
    refine go_lret rfl rfl ?_
    rw [dvV, if_pos ((lg_eq _ _).mp (Classical.not_not.mp c1))] at hR
    exact hR

set_option maxRecDepth 100000 in
theorem lp_Tx_productFor {d : Nat} {M : Mem} {f : Nat → Nat → Int32} {g : Nat → Nat → Int64} {ad : Nat → Nat → Nat} {q L b : Nat} {t : Nat → Int32} {lv : Int32 → Int64} {R : Option Value → Mem → Prop} {dp k : Nat} {w : Int64} {paren : Nat → PR} (hd : 3 ≤ d) (hT : TC M ad q L t lv b f) (hA : EvC 101 M g ad q L b f dp (d - 1) (atomM t L lv paren)) (hg : ∀ i, i ≤ L → ∀ v k, atomM t L lv paren i = .inr (v, k) → i < k ∧ k ≤ L) (hR : R (some (.long w)) (mm M (up2 f (ad 7 q) 8 (nI k)) g)) : ∀ (m : Nat) (v : Int64) (i c : Nat) (u6 u7 u8 : Value), i ≤ L → c < i → L < i + m → prodL t L lv paren m v i = .inr (w, k) → Go d 100 0 0 10 [.ref (ad 7 q), .ref (ad 6 b), .int (nI dp), .long v, .retAddr 1, .int (nI c), u6, u7, u8] [] (mm M (up2 f (ad 7 q) 8 (nI i)) g) R := by
  have hi := hT.1.2.1
  have hL0 := hT.1.2.2.1
  intro m
  induction m with
  | zero => intro v i c u6 u7 u8 h1 h2 h3; omega
  | succ m ih =>
    intro v i c u6 u7 u8 hiL hci hm he
    obtain ⟨p, hp⟩ : ∃ p, sk t L i = p := ⟨_, rfl⟩
    have hpp : sk t L p = p := by rw [← hp]; exact sk_sk hiL
    have hpL : p ≤ L := by rw [← hp]; exact (sk_ge hiL).2
    have hpi : i ≤ p := by rw [← hp]; exact (sk_ge hiL).1
    rw [prodL, hp] at he
    show Go d 100 0 0 10 [.ref (ad 7 q), .ref (ad 6 b), .int (nI dp), .long v, .retAddr 1, .int (nI c), u6, u7, u8] [] (mm M (up2 f (ad 7 q) 8 (nI i)) g) R
    refine go_blk 2 [] (pc' := 14) (vs' := [.ref (ad 7 q), .ref (ad 6 b), .int (nI dp), .long v, .retAddr 1, .int (nI c), u6, u7, u8]) (st' := [.int 120, .int (nI c)]) (M' := mm M (up2 f (ad 7 q) 8 (nI i)) g) (ps := []) rfl trivial ?_
    refine go_icmp rfl (fun (z : 120 ≤ (nI c)) => absurd z (show ¬ (120 ≤ (nI c)) from (Int32.not_le.mpr ((nI_lts (a := c) (b := 120) (by omega) (by decide)).mpr (by omega))))) (fun _ => ?_)
    refine go_blk 1 [] (pc' := 18) (vs' := [.ref (ad 7 q), .ref (ad 6 b), .int (nI dp), .long v, .retAddr 1, .int (nI c), u6, u7, u8]) (st' := [.ref (ad 7 q)]) (M' := mm M (up2 f (ad 7 q) 8 (nI i)) g) (ps := []) rfl trivial ?_
    refine go_callV rfl rfl rfl (by omega) rfl (by decide) (by decide) hT.1.1.1 ?_
    refine s_Tx_signQ (i := i) (p := p) hT hiL hp (fun hj1 => ⟨ne_i, ?_⟩) (fun hj1 => ⟨ne_i, ?_⟩)
    · -- ('i', 't p')
      have hin : p < L := hj1
      show Go d 100 0 0 21 [.ref (ad 7 q), .ref (ad 6 b), .int (nI dp), .long v, .retAddr 1, .int (nI c), u6, u7, u8] [.int (t p)] (mm M (up2 f (ad 7 q) 8 (nI p)) g) R
      refine go_callS rfl (by decide) rfl rfl (by omega) rfl (by decide) (by decide) ?_
      refine s_Tx_isTimesOrBy (by omega) (fun hs2 => ⟨ne_i, ?_⟩) (fun hs2 => ⟨ne_i, ?_⟩)
      · -- ('i', '1')
        rw [if_pos ⟨hin, hs2⟩] at he
        obtain ⟨w1, k1, hr⟩ : ∃ w1 k1, atomM t L lv paren (p + 1) = .inr (w1, k1) := by
          cases h : atomM t L lv paren (p + 1) with
          | inl e => rw [h] at he; cases he
          | inr z => exact ⟨z.1, z.2, rfl⟩
        rw [hr] at he
        simp only [] at he
        obtain ⟨hg1, hg2⟩ := hg (p + 1) (by omega) w1 k1 hr
        show Go d 100 0 0 24 [.ref (ad 7 q), .ref (ad 6 b), .int (nI dp), .long v, .retAddr 1, .int (nI c), u6, u7, u8] [.int 1] (mm M (up2 f (ad 7 q) 8 (nI p)) g) R
        refine go_if rfl (fun (z : (1 : Int32) = 0) => absurd z (show ¬ ((1 : Int32) = 0) from (by decide))) (fun _ => ?_)
        refine go_blk 1 [] (pc' := 28) (vs' := [.ref (ad 7 q), .ref (ad 6 b), .int (nI dp), .long v, .retAddr 1, .int (nI c), u6, u7, u8]) (st' := [.ref (ad 7 q)]) (M' := mm M (up2 f (ad 7 q) 8 (nI p)) g) (ps := []) rfl trivial ?_
        refine go_callV rfl rfl rfl (by omega) rfl (by decide) (by decide) hT.1.1.1 ?_
        refine s_Tx_takeSign (i := p) (p := p) (by omega) hT hpL hpp hin ⟨ne_i, ?_⟩
        show Go d 100 0 0 31 [.ref (ad 7 q), .ref (ad 6 b), .int (nI dp), .long v, .retAddr 1, .int (nI c), u6, u7, u8] [.int (t p)] (mm M (up2 f (ad 7 q) 8 (nI (p + 1))) g) R
        refine go_blk 1 [] (pc' := 33) (vs' := [.ref (ad 7 q), .ref (ad 6 b), .int (nI dp), .long v, .retAddr 1, .int (nI c), u6, u7, u8]) (st' := [.int 42, .int (t p)]) (M' := mm M (up2 f (ad 7 q) 8 (nI (p + 1))) g) (ps := []) rfl trivial ?_
        refine go_icmp rfl (fun (c3 : ¬ (t p) = 42) => ?_) (fun (c3 : ¬ (¬ (t p) = 42)) => ?_)
        · -- ¬ (t p) = 42
          refine go_blk 5 [] (pc' := 46) (vs' := [.ref (ad 7 q), .ref (ad 6 b), .int (nI dp), .long v, .retAddr 1, .int (nI c), .int 0, u7, u8]) (st' := [.int (nI dp), .ref (ad 6 b), .ref (ad 7 q)]) (M' := mm M (up2 f (ad 7 q) 8 (nI (p + 1))) g) (ps := []) rfl trivial ?_
          refine go_callV rfl rfl rfl (by omega) rfl (by decide) (by decide) hT.1.1.1 ?_
          refine hA _ (p + 1) w1 k1 (by omega) hr ⟨ne_l, ?_⟩
          show Go d 100 0 0 49 [.ref (ad 7 q), .ref (ad 6 b), .int (nI dp), .long v, .retAddr 1, .int (nI c), .int 0, u7, u8] [.long w1] (mm M (up2 f (ad 7 q) 8 (nI k1)) g) R
          refine go_blk 2 [] (pc' := 53) (vs' := [.ref (ad 7 q), .ref (ad 6 b), .int (nI dp), .long v, .retAddr 1, .int (nI c), .int 0, .long w1, .retAddr 1]) (st' := [.int 0]) (M' := mm M (up2 f (ad 7 q) 8 (nI k1)) g) (ps := []) rfl trivial ?_
          refine go_if rfl (fun _ => ?_) (fun (z : ¬ ((0 : Int32) = 0)) => absurd (show (0 : Int32) = 0 from (by decide)) z)
          refine go_blk 2 [] (pc' := 66) (vs' := [.ref (ad 7 q), .ref (ad 6 b), .int (nI dp), .long v, .retAddr 1, .int (nI c), .int 0, .long w1, .retAddr 1]) (st' := [.long w1, .long v]) (M' := mm M (up2 f (ad 7 q) 8 (nI k1)) g) (ps := []) rfl trivial ?_
          refine go_callS rfl (by decide) rfl rfl (by omega) rfl (by decide) (by decide) ?_
          refine s_Tx_dividedZ ⟨ne_l, ?_⟩
          show Go d 100 0 0 69 [.ref (ad 7 q), .ref (ad 6 b), .int (nI dp), .long v, .retAddr 1, .int (nI c), .int 0, .long w1, .retAddr 1] [.long (dvV v w1)] (mm M (up2 f (ad 7 q) 8 (nI k1)) g) R
          refine go_callS rfl (by decide) rfl rfl (by omega) rfl (by decide) (by decide) ?_
          refine s_Tx_bounded (by omega) ⟨ne_l, ?_⟩
          show Go d 100 0 0 72 [.ref (ad 7 q), .ref (ad 6 b), .int (nI dp), .long v, .retAddr 1, .int (nI c), .int 0, .long w1, .retAddr 1] [.long (bdV (dvV v w1))] (mm M (up2 f (ad 7 q) 8 (nI k1)) g) R
          refine go_blk 3 [] (pc' := 10) (vs' := [.ref (ad 7 q), .ref (ad 6 b), .int (nI dp), .long (bdV (dvV v w1)), .retAddr 1, .int ((nI c) + 1), .int 0, .long w1, .retAddr 1]) (st' := []) (M' := mm M (up2 f (ad 7 q) 8 (nI k1)) g) (ps := []) rfl trivial ?_
          rw [if_neg c3] at he
          rw [show nI c + 1 = nI (c + 1) from nI_add c 1]
          exact ih _ k1 (c + 1) _ _ _ hg2 (by omega) (by omega) he
        · -- ¬ (¬ (t p) = 42)
          refine go_blk 6 [] (pc' := 46) (vs' := [.ref (ad 7 q), .ref (ad 6 b), .int (nI dp), .long v, .retAddr 1, .int (nI c), .int 1, u7, u8]) (st' := [.int (nI dp), .ref (ad 6 b), .ref (ad 7 q)]) (M' := mm M (up2 f (ad 7 q) 8 (nI (p + 1))) g) (ps := []) rfl trivial ?_
          refine go_callV rfl rfl rfl (by omega) rfl (by decide) (by decide) hT.1.1.1 ?_
          refine hA _ (p + 1) w1 k1 (by omega) hr ⟨ne_l, ?_⟩
          show Go d 100 0 0 49 [.ref (ad 7 q), .ref (ad 6 b), .int (nI dp), .long v, .retAddr 1, .int (nI c), .int 1, u7, u8] [.long w1] (mm M (up2 f (ad 7 q) 8 (nI k1)) g) R
          refine go_blk 2 [] (pc' := 53) (vs' := [.ref (ad 7 q), .ref (ad 6 b), .int (nI dp), .long v, .retAddr 1, .int (nI c), .int 1, .long w1, .retAddr 1]) (st' := [.int 1]) (M' := mm M (up2 f (ad 7 q) 8 (nI k1)) g) (ps := []) rfl trivial ?_
          refine go_if rfl (fun (z : (1 : Int32) = 0) => absurd z (show ¬ ((1 : Int32) = 0) from (by decide))) (fun _ => ?_)
          refine go_blk 4 [] (pc' := 69) (vs' := [.ref (ad 7 q), .ref (ad 6 b), .int (nI dp), .long v, .retAddr 1, .int (nI c), .int 1, .long w1, .retAddr 1]) (st' := [.long (v * w1)]) (M' := mm M (up2 f (ad 7 q) 8 (nI k1)) g) (ps := []) rfl trivial ?_
          refine go_callS rfl (by decide) rfl rfl (by omega) rfl (by decide) (by decide) ?_
          refine s_Tx_bounded (by omega) ⟨ne_l, ?_⟩
          show Go d 100 0 0 72 [.ref (ad 7 q), .ref (ad 6 b), .int (nI dp), .long v, .retAddr 1, .int (nI c), .int 1, .long w1, .retAddr 1] [.long (bdV (v * w1))] (mm M (up2 f (ad 7 q) 8 (nI k1)) g) R
          refine go_blk 3 [] (pc' := 10) (vs' := [.ref (ad 7 q), .ref (ad 6 b), .int (nI dp), .long (bdV (v * w1)), .retAddr 1, .int ((nI c) + 1), .int 1, .long w1, .retAddr 1]) (st' := []) (M' := mm M (up2 f (ad 7 q) 8 (nI k1)) g) (ps := []) rfl trivial ?_
          rw [if_pos (Classical.not_not.mp c3)] at he
          rw [show nI c + 1 = nI (c + 1) from nI_add c 1]
          exact ih _ k1 (c + 1) _ _ _ hg2 (by omega) (by omega) he
      · -- ('i', '0')
        rw [if_neg (fun z => hs2 z.2)] at he
        have e12 : v = w ∧ p = k := by cases he; exact ⟨rfl, rfl⟩
        rw [← e12.1, ← e12.2] at hR
        show Go d 100 0 0 24 [.ref (ad 7 q), .ref (ad 6 b), .int (nI dp), .long v, .retAddr 1, .int (nI c), u6, u7, u8] [.int 0] (mm M (up2 f (ad 7 q) 8 (nI p)) g) R
        refine go_if rfl (fun _ => ?_) (fun (z : ¬ ((0 : Int32) = 0)) => absurd (show (0 : Int32) = 0 from (by decide)) z)
        refine go_blk 1 [] (pc' := 80) (vs' := [.ref (ad 7 q), .ref (ad 6 b), .int (nI dp), .long v, .retAddr 1, .int (nI c), u6, u7, u8]) (st' := [.long v]) (M' := mm M (up2 f (ad 7 q) 8 (nI p)) g) (ps := []) rfl trivial ?_
        refine go_lret rfl rfl ?_
        exact hR
    · -- ('i', '0')
      have hin : ¬ p < L := hj1
      show Go d 100 0 0 21 [.ref (ad 7 q), .ref (ad 6 b), .int (nI dp), .long v, .retAddr 1, .int (nI c), u6, u7, u8] [.int 0] (mm M (up2 f (ad 7 q) 8 (nI p)) g) R
      refine go_callS rfl (by decide) rfl rfl (by omega) rfl (by decide) (by decide) ?_
      refine s_Tx_isTimesOrBy (by omega) (fun hs4 => ⟨ne_i, ?_⟩) (fun hs4 => ⟨ne_i, ?_⟩)
      · -- ('i', '1')
        exact absurd hs4 (by decide)
      · -- ('i', '0')
        rw [if_neg (fun z => hin z.1)] at he
        have e12 : v = w ∧ p = k := by cases he; exact ⟨rfl, rfl⟩
        rw [← e12.1, ← e12.2] at hR
        show Go d 100 0 0 24 [.ref (ad 7 q), .ref (ad 6 b), .int (nI dp), .long v, .retAddr 1, .int (nI c), u6, u7, u8] [.int 0] (mm M (up2 f (ad 7 q) 8 (nI p)) g) R
        refine go_if rfl (fun _ => ?_) (fun (z : ¬ ((0 : Int32) = 0)) => absurd (show (0 : Int32) = 0 from (by decide)) z)
        refine go_blk 1 [] (pc' := 80) (vs' := [.ref (ad 7 q), .ref (ad 6 b), .int (nI dp), .long v, .retAddr 1, .int (nI c), u6, u7, u8]) (st' := [.long v]) (M' := mm M (up2 f (ad 7 q) 8 (nI p)) g) (ps := []) rfl trivial ?_
        refine go_lret rfl rfl ?_
        exact hR

set_option maxRecDepth 100000 in
theorem prodCC {d : Nat} {M : Mem} {f : Nat → Nat → Int32} {g : Nat → Nat → Int64} {ad : Nat → Nat → Nat} {q L b : Nat} {t : Nat → Int32} {lv : Int32 → Int64} {dp : Nat} {paren : Nat → PR} (hd : 3 ≤ d) (hT : TC M ad q L t lv b f) (hA : EvC 101 M g ad q L b f dp (d - 1) (atomM t L lv paren)) (hg : ∀ i, i ≤ L → ∀ v k, atomM t L lv paren i = .inr (v, k) → i < k ∧ k ≤ L) : EvC 100 M g ad q L b f dp d (prodM t L lv paren) := by
  intro R i v k hiL he hR
  have hi := hT.1.2.1
  have hL0 := hT.1.2.2.1
  unfold prodM at he
  obtain ⟨w1, k1, hr⟩ : ∃ w1 k1, atomM t L lv paren i = .inr (w1, k1) := by
    cases h : atomM t L lv paren i with
    | inl e => rw [h] at he; cases he
    | inr z => exact ⟨z.1, z.2, rfl⟩
  rw [hr] at he
  simp only [] at he
  obtain ⟨hg1, hg2⟩ := hg i hiL w1 k1 hr
  show Go d 100 0 0 0 [.ref (ad 7 q), .ref (ad 6 b), .int (nI dp), .retAddr 0, .retAddr 0, .retAddr 0, .retAddr 0, .retAddr 0, .retAddr 0] [] (mm M (up2 f (ad 7 q) 8 (nI i)) g) R
  refine go_blk 3 [] (pc' := 3) (vs' := [.ref (ad 7 q), .ref (ad 6 b), .int (nI dp), .retAddr 0, .retAddr 0, .retAddr 0, .retAddr 0, .retAddr 0, .retAddr 0]) (st' := [.int (nI dp), .ref (ad 6 b), .ref (ad 7 q)]) (M' := mm M (up2 f (ad 7 q) 8 (nI i)) g) (ps := []) rfl trivial ?_
  refine go_callV rfl rfl rfl (by omega) rfl (by decide) (by decide) hT.1.1.1 ?_
  refine hA _ (i) w1 k1 hiL hr ⟨ne_l, ?_⟩
  show Go d 100 0 0 6 [.ref (ad 7 q), .ref (ad 6 b), .int (nI dp), .retAddr 0, .retAddr 0, .retAddr 0, .retAddr 0, .retAddr 0, .retAddr 0] [.long w1] (mm M (up2 f (ad 7 q) 8 (nI k1)) g) R
  refine go_blk 3 [] (pc' := 10) (vs' := [.ref (ad 7 q), .ref (ad 6 b), .int (nI dp), .long w1, .retAddr 1, .int 0, .retAddr 0, .retAddr 0, .retAddr 0]) (st' := []) (M' := mm M (up2 f (ad 7 q) 8 (nI k1)) g) (ps := []) rfl trivial ?_
  exact lp_Tx_productFor hd hT hA hg hR (L + 1) _ k1 0 _ _ _ hg2 (by omega) (by omega) he

set_option maxRecDepth 100000 in
theorem lp_Tx_sumFor {d : Nat} {M : Mem} {f : Nat → Nat → Int32} {g : Nat → Nat → Int64} {ad : Nat → Nat → Nat} {q L b : Nat} {t : Nat → Int32} {lv : Int32 → Int64} {R : Option Value → Mem → Prop} {dp k : Nat} {w : Int64} {paren : Nat → PR} (hd : 3 ≤ d) (hT : TC M ad q L t lv b f) (hA : EvC 100 M g ad q L b f dp (d - 1) (prodM t L lv paren)) (hg : ∀ i, i ≤ L → ∀ v k, prodM t L lv paren i = .inr (v, k) → i < k ∧ k ≤ L) (hR : R (some (.long w)) (mm M (up2 f (ad 7 q) 8 (nI k)) g)) : ∀ (m : Nat) (v : Int64) (i c : Nat) (u6 u7 u8 : Value), i ≤ L → c < i → L < i + m → sumL t L lv paren m v i = .inr (w, k) → Go d 99 0 0 10 [.ref (ad 7 q), .ref (ad 6 b), .int (nI dp), .long v, .retAddr 1, .int (nI c), u6, u7, u8] [] (mm M (up2 f (ad 7 q) 8 (nI i)) g) R := by
  have hi := hT.1.2.1
  have hL0 := hT.1.2.2.1
  intro m
  induction m with
  | zero => intro v i c u6 u7 u8 h1 h2 h3; omega
  | succ m ih =>
    intro v i c u6 u7 u8 hiL hci hm he
    obtain ⟨p, hp⟩ : ∃ p, sk t L i = p := ⟨_, rfl⟩
    have hpp : sk t L p = p := by rw [← hp]; exact sk_sk hiL
    have hpL : p ≤ L := by rw [← hp]; exact (sk_ge hiL).2
    have hpi : i ≤ p := by rw [← hp]; exact (sk_ge hiL).1
    rw [sumL, hp] at he
    show Go d 99 0 0 10 [.ref (ad 7 q), .ref (ad 6 b), .int (nI dp), .long v, .retAddr 1, .int (nI c), u6, u7, u8] [] (mm M (up2 f (ad 7 q) 8 (nI i)) g) R
    refine go_blk 2 [] (pc' := 14) (vs' := [.ref (ad 7 q), .ref (ad 6 b), .int (nI dp), .long v, .retAddr 1, .int (nI c), u6, u7, u8]) (st' := [.int 120, .int (nI c)]) (M' := mm M (up2 f (ad 7 q) 8 (nI i)) g) (ps := []) rfl trivial ?_
    refine go_icmp rfl (fun (z : 120 ≤ (nI c)) => absurd z (show ¬ (120 ≤ (nI c)) from (Int32.not_le.mpr ((nI_lts (a := c) (b := 120) (by omega) (by decide)).mpr (by omega))))) (fun _ => ?_)
    refine go_blk 1 [] (pc' := 18) (vs' := [.ref (ad 7 q), .ref (ad 6 b), .int (nI dp), .long v, .retAddr 1, .int (nI c), u6, u7, u8]) (st' := [.ref (ad 7 q)]) (M' := mm M (up2 f (ad 7 q) 8 (nI i)) g) (ps := []) rfl trivial ?_
    refine go_callV rfl rfl rfl (by omega) rfl (by decide) (by decide) hT.1.1.1 ?_
    refine s_Tx_signQ (i := i) (p := p) hT hiL hp (fun hj1 => ⟨ne_i, ?_⟩) (fun hj1 => ⟨ne_i, ?_⟩)
    · -- ('i', 't p')
      have hin : p < L := hj1
      show Go d 99 0 0 21 [.ref (ad 7 q), .ref (ad 6 b), .int (nI dp), .long v, .retAddr 1, .int (nI c), u6, u7, u8] [.int (t p)] (mm M (up2 f (ad 7 q) 8 (nI p)) g) R
      refine go_callS rfl (by decide) rfl rfl (by omega) rfl (by decide) (by decide) ?_
      refine s_Tx_isPlusOrMinus (by omega) (fun hs2 => ⟨ne_i, ?_⟩) (fun hs2 => ⟨ne_i, ?_⟩)
      · -- ('i', '1')
        rw [if_pos ⟨hin, hs2⟩] at he
        obtain ⟨w1, k1, hr⟩ : ∃ w1 k1, prodM t L lv paren (p + 1) = .inr (w1, k1) := by
          cases h : prodM t L lv paren (p + 1) with
          | inl e => rw [h] at he; cases he
          | inr z => exact ⟨z.1, z.2, rfl⟩
        rw [hr] at he
        simp only [] at he
        obtain ⟨hg1, hg2⟩ := hg (p + 1) (by omega) w1 k1 hr
        show Go d 99 0 0 24 [.ref (ad 7 q), .ref (ad 6 b), .int (nI dp), .long v, .retAddr 1, .int (nI c), u6, u7, u8] [.int 1] (mm M (up2 f (ad 7 q) 8 (nI p)) g) R
        refine go_if rfl (fun (z : (1 : Int32) = 0) => absurd z (show ¬ ((1 : Int32) = 0) from (by decide))) (fun _ => ?_)
        refine go_blk 1 [] (pc' := 28) (vs' := [.ref (ad 7 q), .ref (ad 6 b), .int (nI dp), .long v, .retAddr 1, .int (nI c), u6, u7, u8]) (st' := [.ref (ad 7 q)]) (M' := mm M (up2 f (ad 7 q) 8 (nI p)) g) (ps := []) rfl trivial ?_
        refine go_callV rfl rfl rfl (by omega) rfl (by decide) (by decide) hT.1.1.1 ?_
        refine s_Tx_takeSign (i := p) (p := p) (by omega) hT hpL hpp hin ⟨ne_i, ?_⟩
        show Go d 99 0 0 31 [.ref (ad 7 q), .ref (ad 6 b), .int (nI dp), .long v, .retAddr 1, .int (nI c), u6, u7, u8] [.int (t p)] (mm M (up2 f (ad 7 q) 8 (nI (p + 1))) g) R
        refine go_blk 1 [] (pc' := 33) (vs' := [.ref (ad 7 q), .ref (ad 6 b), .int (nI dp), .long v, .retAddr 1, .int (nI c), u6, u7, u8]) (st' := [.int 43, .int (t p)]) (M' := mm M (up2 f (ad 7 q) 8 (nI (p + 1))) g) (ps := []) rfl trivial ?_
        refine go_icmp rfl (fun (c3 : ¬ (t p) = 43) => ?_) (fun (c3 : ¬ (¬ (t p) = 43)) => ?_)
        · -- ¬ (t p) = 43
          refine go_blk 5 [] (pc' := 46) (vs' := [.ref (ad 7 q), .ref (ad 6 b), .int (nI dp), .long v, .retAddr 1, .int (nI c), .int 0, u7, u8]) (st' := [.int (nI dp), .ref (ad 6 b), .ref (ad 7 q)]) (M' := mm M (up2 f (ad 7 q) 8 (nI (p + 1))) g) (ps := []) rfl trivial ?_
          refine go_callV rfl rfl rfl (by omega) rfl (by decide) (by decide) hT.1.1.1 ?_
          refine hA _ (p + 1) w1 k1 (by omega) hr ⟨ne_l, ?_⟩
          show Go d 99 0 0 49 [.ref (ad 7 q), .ref (ad 6 b), .int (nI dp), .long v, .retAddr 1, .int (nI c), .int 0, u7, u8] [.long w1] (mm M (up2 f (ad 7 q) 8 (nI k1)) g) R
          refine go_blk 2 [] (pc' := 53) (vs' := [.ref (ad 7 q), .ref (ad 6 b), .int (nI dp), .long v, .retAddr 1, .int (nI c), .int 0, .long w1, .retAddr 1]) (st' := [.int 0]) (M' := mm M (up2 f (ad 7 q) 8 (nI k1)) g) (ps := []) rfl trivial ?_
          refine go_if rfl (fun _ => ?_) (fun (z : ¬ ((0 : Int32) = 0)) => absurd (show (0 : Int32) = 0 from (by decide)) z)
          refine go_blk 3 [] (pc' := 67) (vs' := [.ref (ad 7 q), .ref (ad 6 b), .int (nI dp), .long v, .retAddr 1, .int (nI c), .int 0, .long w1, .retAddr 1]) (st' := [.long (v - w1)]) (M' := mm M (up2 f (ad 7 q) 8 (nI k1)) g) (ps := []) rfl trivial ?_
          refine go_callS rfl (by decide) rfl rfl (by omega) rfl (by decide) (by decide) ?_
          refine s_Tx_bounded (by omega) ⟨ne_l, ?_⟩
          show Go d 99 0 0 70 [.ref (ad 7 q), .ref (ad 6 b), .int (nI dp), .long v, .retAddr 1, .int (nI c), .int 0, .long w1, .retAddr 1] [.long (bdV (v - w1))] (mm M (up2 f (ad 7 q) 8 (nI k1)) g) R
          refine go_blk 3 [] (pc' := 10) (vs' := [.ref (ad 7 q), .ref (ad 6 b), .int (nI dp), .long (bdV (v - w1)), .retAddr 1, .int ((nI c) + 1), .int 0, .long w1, .retAddr 1]) (st' := []) (M' := mm M (up2 f (ad 7 q) 8 (nI k1)) g) (ps := []) rfl trivial ?_
          rw [if_neg c3] at he
          rw [show nI c + 1 = nI (c + 1) from nI_add c 1]
          exact ih _ k1 (c + 1) _ _ _ hg2 (by omega) (by omega) he
        · -- ¬ (¬ (t p) = 43)
          refine go_blk 6 [] (pc' := 46) (vs' := [.ref (ad 7 q), .ref (ad 6 b), .int (nI dp), .long v, .retAddr 1, .int (nI c), .int 1, u7, u8]) (st' := [.int (nI dp), .ref (ad 6 b), .ref (ad 7 q)]) (M' := mm M (up2 f (ad 7 q) 8 (nI (p + 1))) g) (ps := []) rfl trivial ?_
          refine go_callV rfl rfl rfl (by omega) rfl (by decide) (by decide) hT.1.1.1 ?_
          refine hA _ (p + 1) w1 k1 (by omega) hr ⟨ne_l, ?_⟩
          show Go d 99 0 0 49 [.ref (ad 7 q), .ref (ad 6 b), .int (nI dp), .long v, .retAddr 1, .int (nI c), .int 1, u7, u8] [.long w1] (mm M (up2 f (ad 7 q) 8 (nI k1)) g) R
          refine go_blk 2 [] (pc' := 53) (vs' := [.ref (ad 7 q), .ref (ad 6 b), .int (nI dp), .long v, .retAddr 1, .int (nI c), .int 1, .long w1, .retAddr 1]) (st' := [.int 1]) (M' := mm M (up2 f (ad 7 q) 8 (nI k1)) g) (ps := []) rfl trivial ?_
          refine go_if rfl (fun (z : (1 : Int32) = 0) => absurd z (show ¬ ((1 : Int32) = 0) from (by decide))) (fun _ => ?_)
          refine go_blk 4 [] (pc' := 67) (vs' := [.ref (ad 7 q), .ref (ad 6 b), .int (nI dp), .long v, .retAddr 1, .int (nI c), .int 1, .long w1, .retAddr 1]) (st' := [.long (v + w1)]) (M' := mm M (up2 f (ad 7 q) 8 (nI k1)) g) (ps := []) rfl trivial ?_
          refine go_callS rfl (by decide) rfl rfl (by omega) rfl (by decide) (by decide) ?_
          refine s_Tx_bounded (by omega) ⟨ne_l, ?_⟩
          show Go d 99 0 0 70 [.ref (ad 7 q), .ref (ad 6 b), .int (nI dp), .long v, .retAddr 1, .int (nI c), .int 1, .long w1, .retAddr 1] [.long (bdV (v + w1))] (mm M (up2 f (ad 7 q) 8 (nI k1)) g) R
          refine go_blk 3 [] (pc' := 10) (vs' := [.ref (ad 7 q), .ref (ad 6 b), .int (nI dp), .long (bdV (v + w1)), .retAddr 1, .int ((nI c) + 1), .int 1, .long w1, .retAddr 1]) (st' := []) (M' := mm M (up2 f (ad 7 q) 8 (nI k1)) g) (ps := []) rfl trivial ?_
          rw [if_pos (Classical.not_not.mp c3)] at he
          rw [show nI c + 1 = nI (c + 1) from nI_add c 1]
          exact ih _ k1 (c + 1) _ _ _ hg2 (by omega) (by omega) he
      · -- ('i', '0')
        rw [if_neg (fun z => hs2 z.2)] at he
        have e12 : v = w ∧ p = k := by cases he; exact ⟨rfl, rfl⟩
        rw [← e12.1, ← e12.2] at hR
        show Go d 99 0 0 24 [.ref (ad 7 q), .ref (ad 6 b), .int (nI dp), .long v, .retAddr 1, .int (nI c), u6, u7, u8] [.int 0] (mm M (up2 f (ad 7 q) 8 (nI p)) g) R
        refine go_if rfl (fun _ => ?_) (fun (z : ¬ ((0 : Int32) = 0)) => absurd (show (0 : Int32) = 0 from (by decide)) z)
        refine go_blk 1 [] (pc' := 78) (vs' := [.ref (ad 7 q), .ref (ad 6 b), .int (nI dp), .long v, .retAddr 1, .int (nI c), u6, u7, u8]) (st' := [.long v]) (M' := mm M (up2 f (ad 7 q) 8 (nI p)) g) (ps := []) rfl trivial ?_
        refine go_lret rfl rfl ?_
        exact hR
    · -- ('i', '0')
      have hin : ¬ p < L := hj1
      show Go d 99 0 0 21 [.ref (ad 7 q), .ref (ad 6 b), .int (nI dp), .long v, .retAddr 1, .int (nI c), u6, u7, u8] [.int 0] (mm M (up2 f (ad 7 q) 8 (nI p)) g) R
      refine go_callS rfl (by decide) rfl rfl (by omega) rfl (by decide) (by decide) ?_
      refine s_Tx_isPlusOrMinus (by omega) (fun hs4 => ⟨ne_i, ?_⟩) (fun hs4 => ⟨ne_i, ?_⟩)
      · -- ('i', '1')
        exact absurd hs4 (by decide)
      · -- ('i', '0')
        rw [if_neg (fun z => hin z.1)] at he
        have e12 : v = w ∧ p = k := by cases he; exact ⟨rfl, rfl⟩
        rw [← e12.1, ← e12.2] at hR
        show Go d 99 0 0 24 [.ref (ad 7 q), .ref (ad 6 b), .int (nI dp), .long v, .retAddr 1, .int (nI c), u6, u7, u8] [.int 0] (mm M (up2 f (ad 7 q) 8 (nI p)) g) R
        refine go_if rfl (fun _ => ?_) (fun (z : ¬ ((0 : Int32) = 0)) => absurd (show (0 : Int32) = 0 from (by decide)) z)
        refine go_blk 1 [] (pc' := 78) (vs' := [.ref (ad 7 q), .ref (ad 6 b), .int (nI dp), .long v, .retAddr 1, .int (nI c), u6, u7, u8]) (st' := [.long v]) (M' := mm M (up2 f (ad 7 q) 8 (nI p)) g) (ps := []) rfl trivial ?_
        refine go_lret rfl rfl ?_
        exact hR

set_option maxRecDepth 100000 in
theorem sumCC {d : Nat} {M : Mem} {f : Nat → Nat → Int32} {g : Nat → Nat → Int64} {ad : Nat → Nat → Nat} {q L b : Nat} {t : Nat → Int32} {lv : Int32 → Int64} {dp : Nat} {paren : Nat → PR} (hd : 3 ≤ d) (hT : TC M ad q L t lv b f) (hA : EvC 100 M g ad q L b f dp (d - 1) (prodM t L lv paren)) (hg : ∀ i, i ≤ L → ∀ v k, prodM t L lv paren i = .inr (v, k) → i < k ∧ k ≤ L) : EvC 99 M g ad q L b f dp d (sumM t L lv paren) := by
  intro R i v k hiL he hR
  have hi := hT.1.2.1
  have hL0 := hT.1.2.2.1
  unfold sumM at he
  obtain ⟨w1, k1, hr⟩ : ∃ w1 k1, prodM t L lv paren i = .inr (w1, k1) := by
    cases h : prodM t L lv paren i with
    | inl e => rw [h] at he; cases he
    | inr z => exact ⟨z.1, z.2, rfl⟩
  rw [hr] at he
  simp only [] at he
  obtain ⟨hg1, hg2⟩ := hg i hiL w1 k1 hr
  show Go d 99 0 0 0 [.ref (ad 7 q), .ref (ad 6 b), .int (nI dp), .retAddr 0, .retAddr 0, .retAddr 0, .retAddr 0, .retAddr 0, .retAddr 0] [] (mm M (up2 f (ad 7 q) 8 (nI i)) g) R
  refine go_blk 3 [] (pc' := 3) (vs' := [.ref (ad 7 q), .ref (ad 6 b), .int (nI dp), .retAddr 0, .retAddr 0, .retAddr 0, .retAddr 0, .retAddr 0, .retAddr 0]) (st' := [.int (nI dp), .ref (ad 6 b), .ref (ad 7 q)]) (M' := mm M (up2 f (ad 7 q) 8 (nI i)) g) (ps := []) rfl trivial ?_
  refine go_callV rfl rfl rfl (by omega) rfl (by decide) (by decide) hT.1.1.1 ?_
  refine hA _ (i) w1 k1 hiL hr ⟨ne_l, ?_⟩
  show Go d 99 0 0 6 [.ref (ad 7 q), .ref (ad 6 b), .int (nI dp), .retAddr 0, .retAddr 0, .retAddr 0, .retAddr 0, .retAddr 0, .retAddr 0] [.long w1] (mm M (up2 f (ad 7 q) 8 (nI k1)) g) R
  refine go_blk 3 [] (pc' := 10) (vs' := [.ref (ad 7 q), .ref (ad 6 b), .int (nI dp), .long w1, .retAddr 1, .int 0, .retAddr 0, .retAddr 0, .retAddr 0]) (st' := []) (M' := mm M (up2 f (ad 7 q) 8 (nI k1)) g) (ps := []) rfl trivial ?_
  exact lp_Tx_sumFor hd hT hA hg hR (L + 1) _ k1 0 _ _ _ hg2 (by omega) (by omega) he

theorem sumsCC {M : Mem} {f : Nat → Nat → Int32} {g : Nat → Nat → Int64} {ad : Nat → Nat → Nat} {q L b : Nat} {t : Nat → Int32} {lv : Int32 → Int64} (hT : TC M ad q L t lv b f) : ∀ (r dp d : Nat), r + dp = 6 → 4 * r + 9 ≤ d → EvC 99 M g ad q L b f dp d (sumM t L lv (parR t L lv r)) := by
  intro r
  induction r with
  | zero =>
    intro dp d h hd
    exact sumCC (by omega) hT (prodCC (by omega) hT (atomCC h hT (by omega) (fun r1 z => by cases z)) (atom_g h)) (prod_g h)
  | succ r ih =>
    intro dp d h hd
    exact sumCC (by omega) hT (prodCC (by omega) hT (atomCC h hT (by omega) (fun r1 z => by cases z; exact ih (dp + 1) (d - 1 - 1 - 1) (by omega) (by omega))) (atom_g h)) (prod_g h)

