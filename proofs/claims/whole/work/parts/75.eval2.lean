/-! texts: the class's coins -/
def bI (x : Bool) : Int32 := if x = true then 1 else 0

set_option maxRecDepth 100000 in
theorem s_Tx_signE {d : Nat} {M : Mem} {f : Nat → Nat → Int32} {g : Nat → Nat → Int64} {ad : Nat → Nat → Nat} {q L b : Nat} {t : Nat → Int32} {lv : Int32 → Int64} {R : Option Value → Mem → Prop} {x : Int32} (hT : TC M ad q L t lv b f) (hx : nI L ≤ x) (hR : R (some (.int 0)) (mm M (up2 f (ad 7 q) 8 (nI L)) g)) : Call d 97 [.ref (ad 7 q)] (mm M (up2 f (ad 7 q) 8 x) g) R := by
  have hi := hT.1.2.1
  have hL0 := hT.1.2.2.1
  show Go d 97 0 0 0 [.ref (ad 7 q), .retAddr 0] [] (mm M (up2 f (ad 7 q) 8 x) g) R
  refine go_blk 6 [some (.int x), some (.int (nI L))] (pc' := 10) (vs' := [.ref (ad 7 q), .int x]) (st' := [.int (nI L), .int x]) (M' := mm M (up2 f (ad 7 q) 8 x) g) (ps := [ob (mm M (up2 f (ad 7 q) 8 x) g) (ad 7 q) 9, (Value.int ((up2 f (ad 7 q) 8 x) (ad 7 q) 8)) = .int x, ob (mm M (up2 f (ad 7 q) 8 x) g) (ad 7 q) 9, (Value.int ((up2 f (ad 7 q) 8 x) (ad 7 q) 1)) = .int (nI L)]) rfl ⟨hT.1.1.1, congrArg Value.int (up2_s _ _ _ _), hT.1.1.1, congrArg Value.int (((up2_n _ _ (fun z => absurd z.2 (by decide))).trans (rfl)).trans hT.2.1), trivial⟩ ?_
  refine go_icmp rfl (fun _ => ?_) (fun (z : ¬ (nI L ≤ x)) => absurd (show nI L ≤ x from hx) z)
  refine go_blk 5 [some (.int (nI L))] (pc' := 51) (vs' := [.ref (ad 7 q), .int x]) (st' := [.int 0]) (M' := mm M (up2 (up2 f (ad 7 q) 8 x) (ad 7 q) 8 (nI L)) g) (ps := [ob (mm M (up2 f (ad 7 q) 8 x) g) (ad 7 q) 9, (Value.int ((up2 f (ad 7 q) 8 x) (ad 7 q) 1)) = .int (nI L), ob (mm M (up2 f (ad 7 q) 8 x) g) (ad 7 q) 9]) rfl ⟨hT.1.1.1, congrArg Value.int (((up2_n _ _ (fun z => absurd z.2 (by decide))).trans (rfl)).trans hT.2.1), hT.1.1.1, trivial⟩ ?_
  refine go_iret rfl rfl ?_
  rw [up2_up2]; exact hR

set_option maxRecDepth 100000 in
theorem s_Tx_takeSignE {d : Nat} {M : Mem} {f : Nat → Nat → Int32} {g : Nat → Nat → Int64} {ad : Nat → Nat → Nat} {q L b : Nat} {t : Nat → Int32} {lv : Int32 → Int64} {R : Option Value → Mem → Prop} (hd : 1 ≤ d) (hT : TC M ad q L t lv b f) (hR : R (some (.int 0)) (mm M (up2 f (ad 7 q) 8 (nI (L + 1))) g)) : Call d 98 [.ref (ad 7 q)] (mm M (up2 f (ad 7 q) 8 (nI L)) g) R := by
  have hi := hT.1.2.1
  have hL0 := hT.1.2.2.1
  show Go d 98 0 0 0 [.ref (ad 7 q), .retAddr 0] [] (mm M (up2 f (ad 7 q) 8 (nI L)) g) R
  refine go_blk 1 [] (pc' := 1) (vs' := [.ref (ad 7 q), .retAddr 0]) (st' := [.ref (ad 7 q)]) (M' := mm M (up2 f (ad 7 q) 8 (nI L)) g) (ps := []) rfl trivial ?_
  refine go_callV rfl rfl rfl (by omega) rfl (by decide) (by decide) hT.1.1.1 ?_
  refine s_Tx_signE hT (Int32.le_refl _) ⟨ne_i, ?_⟩
  show Go d 98 0 0 4 [.ref (ad 7 q), .retAddr 0] [.int 0] (mm M (up2 f (ad 7 q) 8 (nI L)) g) R
  refine go_blk 8 [some (.int (nI L))] (pc' := 16) (vs' := [.ref (ad 7 q), .int 0]) (st' := [.int 0]) (M' := mm M (up2 (up2 f (ad 7 q) 8 (nI L)) (ad 7 q) 8 ((nI L) + 1)) g) (ps := [(.ref (ad 7 q) : Value).category = 1, ob (mm M (up2 f (ad 7 q) 8 (nI L)) g) (ad 7 q) 9, (Value.int ((up2 f (ad 7 q) 8 (nI L)) (ad 7 q) 8)) = .int (nI L), ob (mm M (up2 f (ad 7 q) 8 (nI L)) g) (ad 7 q) 9]) rfl ⟨rfl, hT.1.1.1, congrArg Value.int (up2_s _ _ _ _), hT.1.1.1, trivial⟩ ?_
  refine go_iret rfl rfl ?_
  rw [up2_up2, show nI L + 1 = nI (L + 1) from nI_add L 1]; exact hR

set_option maxRecDepth 100000 in
theorem s_Tx_compares {d : Nat} {M : Mem} {f : Nat → Nat → Int32} {g : Nat → Nat → Int64} {R : Option Value → Mem → Prop} {x : Int32} {a c : Int64} (hR : R (some (.int (bI (cmpV x a c)))) (mm M f g)) : Call d 96 [.long a, .int x, .long c] (mm M f g) R := by
  show Go d 96 0 0 0 [.long a, .retAddr 1, .int x, .long c, .retAddr 1] [] (mm M f g) R
  refine go_blk 2 [] (pc' := 3) (vs' := [.long a, .retAddr 1, .int x, .long c, .retAddr 1]) (st' := [.int 61, .int x]) (M' := mm M f g) (ps := []) rfl trivial ?_
  refine go_icmp rfl (fun (c1 : ¬ x = 61) => ?_) (fun (c1 : ¬ (¬ x = 61)) => ?_)
  · -- ¬ x = 61
    refine go_blk 2 [] (pc' := 21) (vs' := [.long a, .retAddr 1, .int x, .long c, .retAddr 1]) (st' := [.int 60, .int x]) (M' := mm M f g) (ps := []) rfl trivial ?_
    refine go_icmp rfl (fun (c2 : ¬ x = 60) => ?_) (fun (c2 : ¬ (¬ x = 60)) => ?_)
    · -- ¬ x = 60
      refine go_blk 3 [] (pc' := 41) (vs' := [.long a, .retAddr 1, .int x, .long c, .retAddr 1]) (st' := [.int (lg_cmp a c)]) (M' := mm M f g) (ps := []) rfl trivial ?_
      refine go_if rfl (fun (c3 : (lg_cmp a c) ≤ 0) => ?_) (fun (c3 : ¬ ((lg_cmp a c) ≤ 0)) => ?_)
      · -- (lg_cmp a c) ≤ 0
        refine go_blk 1 [] (pc' := 49) (vs' := [.long a, .retAddr 1, .int x, .long c, .retAddr 1]) (st' := [.int 0]) (M' := mm M f g) (ps := []) rfl trivial ?_
        refine go_zret rfl rfl (Or.inl rfl) ?_
        have e : bI (cmpV x a c) = 0 := by
          have h1 := lg_eq a c
          have h2 := lg_lt a c
          have h3 := lg_gt a c
          have h4 := @Int32.not_le 0 (lg_cmp a c)
          have h5 := @Int32.not_le (lg_cmp a c) 0
          clear hR
          unfold bI cmpV
          grind
        rw [e] at hR; exact hR
      · -- ¬ ((lg_cmp a c) ≤ 0)
        refine go_blk 2 [] (pc' := 49) (vs' := [.long a, .retAddr 1, .int x, .long c, .retAddr 1]) (st' := [.int 1]) (M' := mm M f g) (ps := []) rfl trivial ?_
        refine go_zret rfl rfl (Or.inr rfl) ?_
        have e : bI (cmpV x a c) = 1 := by
          have h1 := lg_eq a c
          have h2 := lg_lt a c
          have h3 := lg_gt a c
          have h4 := @Int32.not_le 0 (lg_cmp a c)
          have h5 := @Int32.not_le (lg_cmp a c) 0
          clear hR
          unfold bI cmpV
          grind
        rw [e] at hR; exact hR
    · -- ¬ (¬ x = 60)
      refine go_blk 3 [] (pc' := 27) (vs' := [.long a, .retAddr 1, .int x, .long c, .retAddr 1]) (st' := [.int (lg_cmp a c)]) (M' := mm M f g) (ps := []) rfl trivial ?_
      refine go_if rfl (fun (c4 : 0 ≤ (lg_cmp a c)) => ?_) (fun (c4 : ¬ (0 ≤ (lg_cmp a c))) => ?_)
      · -- 0 ≤ (lg_cmp a c)
        refine go_blk 2 [] (pc' := 49) (vs' := [.long a, .retAddr 1, .int x, .long c, .retAddr 1]) (st' := [.int 0]) (M' := mm M f g) (ps := []) rfl trivial ?_
        refine go_zret rfl rfl (Or.inl rfl) ?_
        have e : bI (cmpV x a c) = 0 := by
          have h1 := lg_eq a c
          have h2 := lg_lt a c
          have h3 := lg_gt a c
          have h4 := @Int32.not_le 0 (lg_cmp a c)
          have h5 := @Int32.not_le (lg_cmp a c) 0
          clear hR
          unfold bI cmpV
          grind
        rw [e] at hR; exact hR
      · -- ¬ (0 ≤ (lg_cmp a c))
        refine go_blk 2 [] (pc' := 49) (vs' := [.long a, .retAddr 1, .int x, .long c, .retAddr 1]) (st' := [.int 1]) (M' := mm M f g) (ps := []) rfl trivial ?_
        refine go_zret rfl rfl (Or.inr rfl) ?_
        have e : bI (cmpV x a c) = 1 := by
          have h1 := lg_eq a c
          have h2 := lg_lt a c
          have h3 := lg_gt a c
          have h4 := @Int32.not_le 0 (lg_cmp a c)
          have h5 := @Int32.not_le (lg_cmp a c) 0
          clear hR
          unfold bI cmpV
          grind
        rw [e] at hR; exact hR
  · -- ¬ (¬ x = 61)
    refine go_blk 3 [] (pc' := 9) (vs' := [.long a, .retAddr 1, .int x, .long c, .retAddr 1]) (st' := [.int (lg_cmp a c)]) (M' := mm M f g) (ps := []) rfl trivial ?_
    refine go_if rfl (fun (c5 : ¬ (lg_cmp a c) = 0) => ?_) (fun (c5 : ¬ (¬ (lg_cmp a c) = 0)) => ?_)
    · -- ¬ (lg_cmp a c) = 0
      refine go_blk 1 [] (pc' := 17) (vs' := [.long a, .retAddr 1, .int x, .long c, .retAddr 1]) (st' := [.int 0]) (M' := mm M f g) (ps := []) rfl trivial ?_
      refine go_zret rfl rfl (Or.inl rfl) ?_
      have e : bI (cmpV x a c) = 0 := by
        have h1 := lg_eq a c
        have h2 := lg_lt a c
        have h3 := lg_gt a c
        have h4 := @Int32.not_le 0 (lg_cmp a c)
        have h5 := @Int32.not_le (lg_cmp a c) 0
        clear hR
        unfold bI cmpV
        grind
      rw [e] at hR; exact hR
    · -- ¬ (¬ (lg_cmp a c) = 0)
      refine go_blk 2 [] (pc' := 17) (vs' := [.long a, .retAddr 1, .int x, .long c, .retAddr 1]) (st' := [.int 1]) (M' := mm M f g) (ps := []) rfl trivial ?_
      refine go_zret rfl rfl (Or.inr rfl) ?_
      have e : bI (cmpV x a c) = 1 := by
        have h1 := lg_eq a c
        have h2 := lg_lt a c
        have h3 := lg_gt a c
        have h4 := @Int32.not_le 0 (lg_cmp a c)
        have h5 := @Int32.not_le (lg_cmp a c) 0
        clear hR
        unfold bI cmpV
        grind
      rw [e] at hR; exact hR

set_option maxRecDepth 100000 in
theorem lpX_coins {d : Nat} {M : Mem} {f : Nat → Nat → Int32} {g : Nat → Nat → Int64} {ad : Nat → Nat → Nat} {q L b : Nat} {t : Nat → Int32} {lv : Int32 → Int64} {R : Option Value → Mem → Prop} {un u7 u8 u9 : Value} {fl : Int32} {v : Int64} {k c : Nat} (hd : 3 ≤ d) (hT : TC M ad q L t lv b f) (hk : k ≤ L) (hkk : sk t L k = k) (hc : c < 120) (hn : ¬ (k < L ∧ isSg (t k) = true)) (hR : Go d 95 0 0 105 [.ref (ad 7 q), .ref (ad 6 b), un, .int fl, .long v, .retAddr 1, .int (nI c), u7, u8, u9] [] (mm M (up2 f (ad 7 q) 8 (nI k)) g) R) : Go d 95 0 0 33 [.ref (ad 7 q), .ref (ad 6 b), un, .int fl, .long v, .retAddr 1, .int (nI c), u7, u8, u9] [] (mm M (up2 f (ad 7 q) 8 (nI k)) g) R := by
  have hi := hT.1.2.1
  have hL0 := hT.1.2.2.1
  show Go d 95 0 0 33 [.ref (ad 7 q), .ref (ad 6 b), un, .int fl, .long v, .retAddr 1, .int (nI c), u7, u8, u9] [] (mm M (up2 f (ad 7 q) 8 (nI k)) g) R
  refine go_blk 2 [] (pc' := 37) (vs' := [.ref (ad 7 q), .ref (ad 6 b), un, .int fl, .long v, .retAddr 1, .int (nI c), u7, u8, u9]) (st' := [.int 120, .int (nI c)]) (M' := mm M (up2 f (ad 7 q) 8 (nI k)) g) (ps := []) rfl trivial ?_
  refine go_icmp rfl (fun (z : 120 ≤ (nI c)) => absurd z (show ¬ (120 ≤ (nI c)) from (Int32.not_le.mpr ((nI_lts (a := c) (b := 120) (by omega) (by decide)).mpr (by omega))))) (fun _ => ?_)
  refine go_blk 1 [] (pc' := 41) (vs' := [.ref (ad 7 q), .ref (ad 6 b), un, .int fl, .long v, .retAddr 1, .int (nI c), u7, u8, u9]) (st' := [.ref (ad 7 q)]) (M' := mm M (up2 f (ad 7 q) 8 (nI k)) g) (ps := []) rfl trivial ?_
  refine go_callV rfl rfl rfl (by omega) rfl (by decide) (by decide) hT.1.1.1 ?_
  refine s_Tx_signQ (i := k) (p := k) hT hk hkk (fun hj1 => ⟨ne_i, ?_⟩) (fun hj1 => ⟨ne_i, ?_⟩)
  · -- ('i', 't k')
    have hin : k < L := hj1
    show Go d 95 0 0 44 [.ref (ad 7 q), .ref (ad 6 b), un, .int fl, .long v, .retAddr 1, .int (nI c), u7, u8, u9] [.int (t k)] (mm M (up2 f (ad 7 q) 8 (nI k)) g) R
    refine go_callS rfl (by decide) rfl rfl (by omega) rfl (by decide) (by decide) ?_
    refine s_Tx_isComparison (by omega) (fun hs2 => ⟨ne_i, ?_⟩) (fun hs2 => ⟨ne_i, ?_⟩)
    · -- ('i', '1')
      exact absurd ⟨hin, hs2⟩ hn
    · -- ('i', '0')
      show Go d 95 0 0 47 [.ref (ad 7 q), .ref (ad 6 b), un, .int fl, .long v, .retAddr 1, .int (nI c), u7, u8, u9] [.int 0] (mm M (up2 f (ad 7 q) 8 (nI k)) g) R
      refine go_if rfl (fun _ => ?_) (fun (z : ¬ ((0 : Int32) = 0)) => absurd (show (0 : Int32) = 0 from (by decide)) z)
      exact hR
  · -- ('i', '0')
    have hin : ¬ k < L := hj1
    show Go d 95 0 0 44 [.ref (ad 7 q), .ref (ad 6 b), un, .int fl, .long v, .retAddr 1, .int (nI c), u7, u8, u9] [.int 0] (mm M (up2 f (ad 7 q) 8 (nI k)) g) R
    refine go_callS rfl (by decide) rfl rfl (by omega) rfl (by decide) (by decide) ?_
    refine s_Tx_isComparison (by omega) (fun hs3 => ⟨ne_i, ?_⟩) (fun hs3 => ⟨ne_i, ?_⟩)
    · -- ('i', '1')
      exact absurd hs3 (by decide)
    · -- ('i', '0')
      show Go d 95 0 0 47 [.ref (ad 7 q), .ref (ad 6 b), un, .int fl, .long v, .retAddr 1, .int (nI c), u7, u8, u9] [.int 0] (mm M (up2 f (ad 7 q) 8 (nI k)) g) R
      refine go_if rfl (fun _ => ?_) (fun (z : ¬ ((0 : Int32) = 0)) => absurd (show (0 : Int32) = 0 from (by decide)) z)
      exact hR

theorem s_Tx_comparesC {d : Nat} {M : Mem} {f : Nat → Nat → Int32} {g : Nat → Nat → Int64} {R : Option Value → Mem → Prop} {x : Int32} {a c : Int64} (h1 : cmpV x a c = true → R (some (.int 1)) (mm M f g)) (h0 : ¬ cmpV x a c = true → R (some (.int 0)) (mm M f g)) : Call d 96 [.long a, .int x, .long c] (mm M f g) R := by
  apply s_Tx_compares
  unfold bI
  by_cases h : cmpV x a c = true
  · rw [if_pos h]; exact h1 h
  · rw [if_neg h]; exact h0 h

set_option maxRecDepth 100000 in
theorem lpI_coins {d : Nat} {M : Mem} {f : Nat → Nat → Int32} {g : Nat → Nat → Int64} {ad : Nat → Nat → Nat} {q L b : Nat} {t : Nat → Int32} {lv : Int32 → Int64} {R : Option Value → Mem → Prop} {un : Value} {A : Bool} {j k3 : Nat} {v3 : Int64} (hd : 36 ≤ d) (hT : TC M ad q L t lv b f) (hj : j < L ∧ t j = 63) (h3 : sumM t L lv (parR t L lv 6) (j + 1) = .inr (v3, k3)) (hn3 : ¬ (k3 < L ∧ isSg (t k3) = true)) (hR : ∀ (c : Int32) (u7 u8 u9 : Value), Go d 95 0 0 105 [.ref (ad 7 q), .ref (ad 6 b), un, .int (bI A), .long v3, .retAddr 1, .int c, u7, u8, u9] [] (mm M (up2 f (ad 7 q) 8 (nI k3)) g) R) : ∀ (m : Nat) (all : Bool) (v : Int64) (k c : Nat) (w2 : Int64) (k2 : Nat) (u7 u8 u9 : Value), k < L → c ≤ k → sk t L k = k → isSg (t k) = true → sumM t L lv (parR t L lv 6) (k + 1) = .inr (w2, k2) → tstL t L lv m (all && cmpV (t k) v w2) k2 = .inr (A, j) → L < k2 + m → Go d 95 0 0 33 [.ref (ad 7 q), .ref (ad 6 b), un, .int (bI all), .long v, .retAddr 1, .int (nI c), u7, u8, u9] [] (mm M (up2 f (ad 7 q) 8 (nI k)) g) R := by
  have hi := hT.1.2.1
  have hL0 := hT.1.2.2.1
  have hS := sumsCC (g := g) hT 6 0 (d - 1) (by omega) (by omega)
  intro m
  induction m with
  | zero =>
    intro all v k c w2 k2 u7 u8 u9 hk hck hkk hs hr he hm
    have := sum_g (t := t) (lv := lv) (dp := 0) (r := 6) (by omega) (k + 1) (by omega) w2 k2 hr
    omega
  | succ m ih =>
    intro all v k c w2 k2 u7 u8 u9 hk hck hkk hs hr he hm
    obtain ⟨g1, g2, g3⟩ := sum_g (t := t) (lv := lv) (dp := 0) (r := 6) (by omega) (k + 1) (by omega) w2 k2 hr
    rw [tstL, g3] at he
    by_cases c38 : k2 < L ∧ t k2 = 38
    · rw [if_pos c38] at he
      obtain ⟨v4, k4, h4⟩ : ∃ v4 k4, sumM t L lv (parR t L lv 6) (k2 + 1) = .inr (v4, k4) := by
        cases h : sumM t L lv (parR t L lv 6) (k2 + 1) with
        | inl e => rw [h] at he; cases he
        | inr z => exact ⟨z.1, z.2, rfl⟩
      rw [h4] at he
      simp only [] at he
      obtain ⟨g4, g5, g6⟩ := sum_g (t := t) (lv := lv) (dp := 0) (r := 6) (by omega) (k2 + 1) (by omega) v4 k4 h4
      rw [g6] at he
      have c5 : k4 < L ∧ isSg (t k4) = true := by
        apply Classical.byContradiction; intro z; rw [if_neg z] at he; cases he
      rw [if_pos c5] at he
      obtain ⟨w6, k6, h6⟩ : ∃ w6 k6, sumM t L lv (parR t L lv 6) (k4 + 1) = .inr (w6, k6) := by
        cases h : sumM t L lv (parR t L lv 6) (k4 + 1) with
        | inl e => rw [h] at he; cases he
        | inr z => exact ⟨z.1, z.2, rfl⟩
      rw [h6] at he
      simp only [] at he
      obtain ⟨g7, g8, g9⟩ := sum_g (t := t) (lv := lv) (dp := 0) (r := 6) (by omega) (k4 + 1) (by omega) w6 k6 h6
      have hk2 : k2 < L := c38.1
      show Go d 95 0 0 33 [.ref (ad 7 q), .ref (ad 6 b), un, .int (bI all), .long v, .retAddr 1, .int (nI c), u7, u8, u9] [] (mm M (up2 f (ad 7 q) 8 (nI k)) g) R
      refine go_blk 2 [] (pc' := 37) (vs' := [.ref (ad 7 q), .ref (ad 6 b), un, .int (bI all), .long v, .retAddr 1, .int (nI c), u7, u8, u9]) (st' := [.int 120, .int (nI c)]) (M' := mm M (up2 f (ad 7 q) 8 (nI k)) g) (ps := []) rfl trivial ?_
      refine go_icmp rfl (fun (z : 120 ≤ (nI c)) => absurd z (show ¬ (120 ≤ (nI c)) from (Int32.not_le.mpr ((nI_lts (a := c) (b := 120) (by omega) (by decide)).mpr (by omega))))) (fun _ => ?_)
      refine go_blk 1 [] (pc' := 41) (vs' := [.ref (ad 7 q), .ref (ad 6 b), un, .int (bI all), .long v, .retAddr 1, .int (nI c), u7, u8, u9]) (st' := [.ref (ad 7 q)]) (M' := mm M (up2 f (ad 7 q) 8 (nI k)) g) (ps := []) rfl trivial ?_
      refine go_callV rfl rfl rfl (by omega) rfl (by decide) (by decide) hT.1.1.1 ?_
      refine s_Tx_signQ (i := k) (p := k) hT (by omega) hkk (fun hj1 => ⟨ne_i, ?_⟩) (fun hj1 => ⟨ne_i, ?_⟩)
      · -- ('i', 't k')
        have hin : k < L := hj1
        show Go d 95 0 0 44 [.ref (ad 7 q), .ref (ad 6 b), un, .int (bI all), .long v, .retAddr 1, .int (nI c), u7, u8, u9] [.int (t k)] (mm M (up2 f (ad 7 q) 8 (nI k)) g) R
        refine go_callS rfl (by decide) rfl rfl (by omega) rfl (by decide) (by decide) ?_
        refine s_Tx_isComparison (by omega) (fun hs2 => ⟨ne_i, ?_⟩) (fun hs2 => ⟨ne_i, ?_⟩)
        · -- ('i', '1')
          show Go d 95 0 0 47 [.ref (ad 7 q), .ref (ad 6 b), un, .int (bI all), .long v, .retAddr 1, .int (nI c), u7, u8, u9] [.int 1] (mm M (up2 f (ad 7 q) 8 (nI k)) g) R
          refine go_if rfl (fun (z : (1 : Int32) = 0) => absurd z (show ¬ ((1 : Int32) = 0) from (by decide))) (fun _ => ?_)
          refine go_blk 1 [] (pc' := 51) (vs' := [.ref (ad 7 q), .ref (ad 6 b), un, .int (bI all), .long v, .retAddr 1, .int (nI c), u7, u8, u9]) (st' := [.ref (ad 7 q)]) (M' := mm M (up2 f (ad 7 q) 8 (nI k)) g) (ps := []) rfl trivial ?_
          refine go_callV rfl rfl rfl (by omega) rfl (by decide) (by decide) hT.1.1.1 ?_
          refine s_Tx_takeSign (i := k) (p := k) (by omega) hT (by omega) hkk hk ⟨ne_i, ?_⟩
          show Go d 95 0 0 54 [.ref (ad 7 q), .ref (ad 6 b), un, .int (bI all), .long v, .retAddr 1, .int (nI c), u7, u8, u9] [.int (t k)] (mm M (up2 f (ad 7 q) 8 (nI (k + 1))) g) R
          refine go_blk 4 [] (pc' := 59) (vs' := [.ref (ad 7 q), .ref (ad 6 b), un, .int (bI all), .long v, .retAddr 1, .int (nI c), .int (t k), u8, u9]) (st' := [.int 0, .ref (ad 6 b), .ref (ad 7 q)]) (M' := mm M (up2 f (ad 7 q) 8 (nI (k + 1))) g) (ps := []) rfl trivial ?_
          refine go_callV rfl rfl rfl (by omega) rfl (by decide) (by decide) hT.1.1.1 ?_
          refine hS _ (k + 1) w2 k2 (by omega) hr ⟨ne_l, ?_⟩
          show Go d 95 0 0 62 [.ref (ad 7 q), .ref (ad 6 b), un, .int (bI all), .long v, .retAddr 1, .int (nI c), .int (t k), u8, u9] [.long w2] (mm M (up2 f (ad 7 q) 8 (nI k2)) g) R
          refine go_blk 2 [] (pc' := 65) (vs' := [.ref (ad 7 q), .ref (ad 6 b), un, .int (bI all), .long v, .retAddr 1, .int (nI c), .int (t k), .long w2, .retAddr 1]) (st' := [.int (bI all)]) (M' := mm M (up2 f (ad 7 q) 8 (nI k2)) g) (ps := []) rfl trivial ?_
          refine go_if rfl (fun (c3 : (bI all) = 0) => ?_) (fun (c3 : ¬ ((bI all) = 0)) => ?_)
          · -- (bI all) = 0
            refine go_blk 3 [] (pc' := 87) (vs' := [.ref (ad 7 q), .ref (ad 6 b), un, .int 0, .long v, .retAddr 1, .int (nI c), .int (t k), .long w2, .retAddr 1]) (st' := [.ref (ad 7 q)]) (M' := mm M (up2 f (ad 7 q) 8 (nI k2)) g) (ps := []) rfl trivial ?_
            refine go_callV rfl rfl rfl (by omega) rfl (by decide) (by decide) hT.1.1.1 ?_
            refine s_Tx_takeSign (i := k2) (p := k2) (by omega) hT (by omega) g3 hk2 ⟨ne_i, ?_⟩
            show Go d 95 0 0 90 [.ref (ad 7 q), .ref (ad 6 b), un, .int 0, .long v, .retAddr 1, .int (nI c), .int (t k), .long w2, .retAddr 1] [.int (t k2)] (mm M (up2 f (ad 7 q) 8 (nI (k2 + 1))) g) R
            refine go_blk 4 [] (pc' := 94) (vs' := [.ref (ad 7 q), .ref (ad 6 b), un, .int 0, .long v, .retAddr 1, .int (nI c), .int (t k), .long w2, .retAddr 1]) (st' := [.int 0, .ref (ad 6 b), .ref (ad 7 q)]) (M' := mm M (up2 f (ad 7 q) 8 (nI (k2 + 1))) g) (ps := [(.int (t k2) : Value).category = 1]) rfl ⟨rfl, trivial⟩ ?_
            refine go_callV rfl rfl rfl (by omega) rfl (by decide) (by decide) hT.1.1.1 ?_
            refine hS _ (k2 + 1) v4 k4 (by omega) h4 ⟨ne_l, ?_⟩
            show Go d 95 0 0 97 [.ref (ad 7 q), .ref (ad 6 b), un, .int 0, .long v, .retAddr 1, .int (nI c), .int (t k), .long w2, .retAddr 1] [.long v4] (mm M (up2 f (ad 7 q) 8 (nI k4)) g) R
            refine go_blk 3 [] (pc' := 33) (vs' := [.ref (ad 7 q), .ref (ad 6 b), un, .int 0, .long v4, .retAddr 1, .int ((nI c) + 1), .int (t k), .long w2, .retAddr 1]) (st' := []) (M' := mm M (up2 f (ad 7 q) 8 (nI k4)) g) (ps := []) rfl trivial ?_
            have ef : (0 : Int32) = bI (all && cmpV (t k) v w2) := by
              cases all <;> simp_all [bI]
            rw [show nI c + 1 = nI (c + 1) from nI_add c 1, ef]
            exact ih _ v4 k4 (c + 1) w6 k6 _ _ _ c5.1 (by omega) g6 c5.2 h6 he (by omega)
          · -- ¬ ((bI all) = 0)
            refine go_blk 3 [] (pc' := 74) (vs' := [.ref (ad 7 q), .ref (ad 6 b), un, .int (bI all), .long v, .retAddr 1, .int (nI c), .int (t k), .long w2, .retAddr 1]) (st' := [.long w2, .int (t k), .long v]) (M' := mm M (up2 f (ad 7 q) 8 (nI k2)) g) (ps := []) rfl trivial ?_
            refine go_callS rfl (by decide) rfl rfl (by omega) rfl (by decide) (by decide) ?_
            refine s_Tx_comparesC (fun hc4 => ⟨ne_i, ?_⟩) (fun hc4 => ⟨ne_i, ?_⟩)
            · -- ('i', '1')
              show Go d 95 0 0 77 [.ref (ad 7 q), .ref (ad 6 b), un, .int (bI all), .long v, .retAddr 1, .int (nI c), .int (t k), .long w2, .retAddr 1] [.int 1] (mm M (up2 f (ad 7 q) 8 (nI k2)) g) R
              refine go_if rfl (fun (z : (1 : Int32) = 0) => absurd z (show ¬ ((1 : Int32) = 0) from (by decide))) (fun _ => ?_)
              refine go_blk 4 [] (pc' := 87) (vs' := [.ref (ad 7 q), .ref (ad 6 b), un, .int 1, .long v, .retAddr 1, .int (nI c), .int (t k), .long w2, .retAddr 1]) (st' := [.ref (ad 7 q)]) (M' := mm M (up2 f (ad 7 q) 8 (nI k2)) g) (ps := []) rfl trivial ?_
              refine go_callV rfl rfl rfl (by omega) rfl (by decide) (by decide) hT.1.1.1 ?_
              refine s_Tx_takeSign (i := k2) (p := k2) (by omega) hT (by omega) g3 hk2 ⟨ne_i, ?_⟩
              show Go d 95 0 0 90 [.ref (ad 7 q), .ref (ad 6 b), un, .int 1, .long v, .retAddr 1, .int (nI c), .int (t k), .long w2, .retAddr 1] [.int (t k2)] (mm M (up2 f (ad 7 q) 8 (nI (k2 + 1))) g) R
              refine go_blk 4 [] (pc' := 94) (vs' := [.ref (ad 7 q), .ref (ad 6 b), un, .int 1, .long v, .retAddr 1, .int (nI c), .int (t k), .long w2, .retAddr 1]) (st' := [.int 0, .ref (ad 6 b), .ref (ad 7 q)]) (M' := mm M (up2 f (ad 7 q) 8 (nI (k2 + 1))) g) (ps := [(.int (t k2) : Value).category = 1]) rfl ⟨rfl, trivial⟩ ?_
              refine go_callV rfl rfl rfl (by omega) rfl (by decide) (by decide) hT.1.1.1 ?_
              refine hS _ (k2 + 1) v4 k4 (by omega) h4 ⟨ne_l, ?_⟩
              show Go d 95 0 0 97 [.ref (ad 7 q), .ref (ad 6 b), un, .int 1, .long v, .retAddr 1, .int (nI c), .int (t k), .long w2, .retAddr 1] [.long v4] (mm M (up2 f (ad 7 q) 8 (nI k4)) g) R
              refine go_blk 3 [] (pc' := 33) (vs' := [.ref (ad 7 q), .ref (ad 6 b), un, .int 1, .long v4, .retAddr 1, .int ((nI c) + 1), .int (t k), .long w2, .retAddr 1]) (st' := []) (M' := mm M (up2 f (ad 7 q) 8 (nI k4)) g) (ps := []) rfl trivial ?_
              have ef : (1 : Int32) = bI (all && cmpV (t k) v w2) := by
                cases all <;> simp_all [bI]
              rw [show nI c + 1 = nI (c + 1) from nI_add c 1, ef]
              exact ih _ v4 k4 (c + 1) w6 k6 _ _ _ c5.1 (by omega) g6 c5.2 h6 he (by omega)
            · -- ('i', '0')
              show Go d 95 0 0 77 [.ref (ad 7 q), .ref (ad 6 b), un, .int (bI all), .long v, .retAddr 1, .int (nI c), .int (t k), .long w2, .retAddr 1] [.int 0] (mm M (up2 f (ad 7 q) 8 (nI k2)) g) R
              refine go_if rfl (fun _ => ?_) (fun (z : ¬ ((0 : Int32) = 0)) => absurd (show (0 : Int32) = 0 from (by decide)) z)
              refine go_blk 3 [] (pc' := 87) (vs' := [.ref (ad 7 q), .ref (ad 6 b), un, .int 0, .long v, .retAddr 1, .int (nI c), .int (t k), .long w2, .retAddr 1]) (st' := [.ref (ad 7 q)]) (M' := mm M (up2 f (ad 7 q) 8 (nI k2)) g) (ps := []) rfl trivial ?_
              refine go_callV rfl rfl rfl (by omega) rfl (by decide) (by decide) hT.1.1.1 ?_
              refine s_Tx_takeSign (i := k2) (p := k2) (by omega) hT (by omega) g3 hk2 ⟨ne_i, ?_⟩
              show Go d 95 0 0 90 [.ref (ad 7 q), .ref (ad 6 b), un, .int 0, .long v, .retAddr 1, .int (nI c), .int (t k), .long w2, .retAddr 1] [.int (t k2)] (mm M (up2 f (ad 7 q) 8 (nI (k2 + 1))) g) R
              refine go_blk 4 [] (pc' := 94) (vs' := [.ref (ad 7 q), .ref (ad 6 b), un, .int 0, .long v, .retAddr 1, .int (nI c), .int (t k), .long w2, .retAddr 1]) (st' := [.int 0, .ref (ad 6 b), .ref (ad 7 q)]) (M' := mm M (up2 f (ad 7 q) 8 (nI (k2 + 1))) g) (ps := [(.int (t k2) : Value).category = 1]) rfl ⟨rfl, trivial⟩ ?_
              refine go_callV rfl rfl rfl (by omega) rfl (by decide) (by decide) hT.1.1.1 ?_
              refine hS _ (k2 + 1) v4 k4 (by omega) h4 ⟨ne_l, ?_⟩
              show Go d 95 0 0 97 [.ref (ad 7 q), .ref (ad 6 b), un, .int 0, .long v, .retAddr 1, .int (nI c), .int (t k), .long w2, .retAddr 1] [.long v4] (mm M (up2 f (ad 7 q) 8 (nI k4)) g) R
              refine go_blk 3 [] (pc' := 33) (vs' := [.ref (ad 7 q), .ref (ad 6 b), un, .int 0, .long v4, .retAddr 1, .int ((nI c) + 1), .int (t k), .long w2, .retAddr 1]) (st' := []) (M' := mm M (up2 f (ad 7 q) 8 (nI k4)) g) (ps := []) rfl trivial ?_
              have ef : (0 : Int32) = bI (all && cmpV (t k) v w2) := by
                cases all <;> simp_all [bI]
              rw [show nI c + 1 = nI (c + 1) from nI_add c 1, ef]
              exact ih _ v4 k4 (c + 1) w6 k6 _ _ _ c5.1 (by omega) g6 c5.2 h6 he (by omega)
        · -- ('i', '0')
          exact absurd hs hs2
      · -- ('i', '0')
        exact absurd hk hj1
    · rw [if_neg c38] at he
      have e12 : (all && cmpV (t k) v w2) = A ∧ k2 = j := by cases he; exact ⟨rfl, rfl⟩
      have hk2 : k2 < L := by rw [e12.2]; exact hj.1
      rw [← e12.2] at h3
      obtain ⟨g4, g5, g6⟩ := sum_g (t := t) (lv := lv) (dp := 0) (r := 6) (by omega) (k2 + 1) (by omega) v3 k3 h3
      show Go d 95 0 0 33 [.ref (ad 7 q), .ref (ad 6 b), un, .int (bI all), .long v, .retAddr 1, .int (nI c), u7, u8, u9] [] (mm M (up2 f (ad 7 q) 8 (nI k)) g) R
      refine go_blk 2 [] (pc' := 37) (vs' := [.ref (ad 7 q), .ref (ad 6 b), un, .int (bI all), .long v, .retAddr 1, .int (nI c), u7, u8, u9]) (st' := [.int 120, .int (nI c)]) (M' := mm M (up2 f (ad 7 q) 8 (nI k)) g) (ps := []) rfl trivial ?_
      refine go_icmp rfl (fun (z : 120 ≤ (nI c)) => absurd z (show ¬ (120 ≤ (nI c)) from (Int32.not_le.mpr ((nI_lts (a := c) (b := 120) (by omega) (by decide)).mpr (by omega))))) (fun _ => ?_)
      refine go_blk 1 [] (pc' := 41) (vs' := [.ref (ad 7 q), .ref (ad 6 b), un, .int (bI all), .long v, .retAddr 1, .int (nI c), u7, u8, u9]) (st' := [.ref (ad 7 q)]) (M' := mm M (up2 f (ad 7 q) 8 (nI k)) g) (ps := []) rfl trivial ?_
      refine go_callV rfl rfl rfl (by omega) rfl (by decide) (by decide) hT.1.1.1 ?_
      refine s_Tx_signQ (i := k) (p := k) hT (by omega) hkk (fun hj1 => ⟨ne_i, ?_⟩) (fun hj1 => ⟨ne_i, ?_⟩)
      · -- ('i', 't k')
        have hin : k < L := hj1
        show Go d 95 0 0 44 [.ref (ad 7 q), .ref (ad 6 b), un, .int (bI all), .long v, .retAddr 1, .int (nI c), u7, u8, u9] [.int (t k)] (mm M (up2 f (ad 7 q) 8 (nI k)) g) R
        refine go_callS rfl (by decide) rfl rfl (by omega) rfl (by decide) (by decide) ?_
        refine s_Tx_isComparison (by omega) (fun hs2 => ⟨ne_i, ?_⟩) (fun hs2 => ⟨ne_i, ?_⟩)
        · -- ('i', '1')
          show Go d 95 0 0 47 [.ref (ad 7 q), .ref (ad 6 b), un, .int (bI all), .long v, .retAddr 1, .int (nI c), u7, u8, u9] [.int 1] (mm M (up2 f (ad 7 q) 8 (nI k)) g) R
          refine go_if rfl (fun (z : (1 : Int32) = 0) => absurd z (show ¬ ((1 : Int32) = 0) from (by decide))) (fun _ => ?_)
          refine go_blk 1 [] (pc' := 51) (vs' := [.ref (ad 7 q), .ref (ad 6 b), un, .int (bI all), .long v, .retAddr 1, .int (nI c), u7, u8, u9]) (st' := [.ref (ad 7 q)]) (M' := mm M (up2 f (ad 7 q) 8 (nI k)) g) (ps := []) rfl trivial ?_
          refine go_callV rfl rfl rfl (by omega) rfl (by decide) (by decide) hT.1.1.1 ?_
          refine s_Tx_takeSign (i := k) (p := k) (by omega) hT (by omega) hkk hk ⟨ne_i, ?_⟩
          show Go d 95 0 0 54 [.ref (ad 7 q), .ref (ad 6 b), un, .int (bI all), .long v, .retAddr 1, .int (nI c), u7, u8, u9] [.int (t k)] (mm M (up2 f (ad 7 q) 8 (nI (k + 1))) g) R
          refine go_blk 4 [] (pc' := 59) (vs' := [.ref (ad 7 q), .ref (ad 6 b), un, .int (bI all), .long v, .retAddr 1, .int (nI c), .int (t k), u8, u9]) (st' := [.int 0, .ref (ad 6 b), .ref (ad 7 q)]) (M' := mm M (up2 f (ad 7 q) 8 (nI (k + 1))) g) (ps := []) rfl trivial ?_
          refine go_callV rfl rfl rfl (by omega) rfl (by decide) (by decide) hT.1.1.1 ?_
          refine hS _ (k + 1) w2 k2 (by omega) hr ⟨ne_l, ?_⟩
          show Go d 95 0 0 62 [.ref (ad 7 q), .ref (ad 6 b), un, .int (bI all), .long v, .retAddr 1, .int (nI c), .int (t k), u8, u9] [.long w2] (mm M (up2 f (ad 7 q) 8 (nI k2)) g) R
          refine go_blk 2 [] (pc' := 65) (vs' := [.ref (ad 7 q), .ref (ad 6 b), un, .int (bI all), .long v, .retAddr 1, .int (nI c), .int (t k), .long w2, .retAddr 1]) (st' := [.int (bI all)]) (M' := mm M (up2 f (ad 7 q) 8 (nI k2)) g) (ps := []) rfl trivial ?_
          refine go_if rfl (fun (c3 : (bI all) = 0) => ?_) (fun (c3 : ¬ ((bI all) = 0)) => ?_)
          · -- (bI all) = 0
            refine go_blk 3 [] (pc' := 87) (vs' := [.ref (ad 7 q), .ref (ad 6 b), un, .int 0, .long v, .retAddr 1, .int (nI c), .int (t k), .long w2, .retAddr 1]) (st' := [.ref (ad 7 q)]) (M' := mm M (up2 f (ad 7 q) 8 (nI k2)) g) (ps := []) rfl trivial ?_
            refine go_callV rfl rfl rfl (by omega) rfl (by decide) (by decide) hT.1.1.1 ?_
            refine s_Tx_takeSign (i := k2) (p := k2) (by omega) hT (by omega) g3 hk2 ⟨ne_i, ?_⟩
            show Go d 95 0 0 90 [.ref (ad 7 q), .ref (ad 6 b), un, .int 0, .long v, .retAddr 1, .int (nI c), .int (t k), .long w2, .retAddr 1] [.int (t k2)] (mm M (up2 f (ad 7 q) 8 (nI (k2 + 1))) g) R
            refine go_blk 4 [] (pc' := 94) (vs' := [.ref (ad 7 q), .ref (ad 6 b), un, .int 0, .long v, .retAddr 1, .int (nI c), .int (t k), .long w2, .retAddr 1]) (st' := [.int 0, .ref (ad 6 b), .ref (ad 7 q)]) (M' := mm M (up2 f (ad 7 q) 8 (nI (k2 + 1))) g) (ps := [(.int (t k2) : Value).category = 1]) rfl ⟨rfl, trivial⟩ ?_
            refine go_callV rfl rfl rfl (by omega) rfl (by decide) (by decide) hT.1.1.1 ?_
            refine hS _ (k2 + 1) v3 k3 (by omega) h3 ⟨ne_l, ?_⟩
            show Go d 95 0 0 97 [.ref (ad 7 q), .ref (ad 6 b), un, .int 0, .long v, .retAddr 1, .int (nI c), .int (t k), .long w2, .retAddr 1] [.long v3] (mm M (up2 f (ad 7 q) 8 (nI k3)) g) R
            refine go_blk 3 [] (pc' := 33) (vs' := [.ref (ad 7 q), .ref (ad 6 b), un, .int 0, .long v3, .retAddr 1, .int ((nI c) + 1), .int (t k), .long w2, .retAddr 1]) (st' := []) (M' := mm M (up2 f (ad 7 q) 8 (nI k3)) g) (ps := []) rfl trivial ?_
            have ef : (0 : Int32) = bI (all && cmpV (t k) v w2) := by
              cases all <;> simp_all [bI]
            rw [show nI c + 1 = nI (c + 1) from nI_add c 1, ef]
            rw [e12.1]
            exact lpX_coins (by omega) hT g5 g6 (by omega) hn3 (hR _ _ _ _)
          · -- ¬ ((bI all) = 0)
            refine go_blk 3 [] (pc' := 74) (vs' := [.ref (ad 7 q), .ref (ad 6 b), un, .int (bI all), .long v, .retAddr 1, .int (nI c), .int (t k), .long w2, .retAddr 1]) (st' := [.long w2, .int (t k), .long v]) (M' := mm M (up2 f (ad 7 q) 8 (nI k2)) g) (ps := []) rfl trivial ?_
            refine go_callS rfl (by decide) rfl rfl (by omega) rfl (by decide) (by decide) ?_
            refine s_Tx_comparesC (fun hc4 => ⟨ne_i, ?_⟩) (fun hc4 => ⟨ne_i, ?_⟩)
            · -- ('i', '1')
              show Go d 95 0 0 77 [.ref (ad 7 q), .ref (ad 6 b), un, .int (bI all), .long v, .retAddr 1, .int (nI c), .int (t k), .long w2, .retAddr 1] [.int 1] (mm M (up2 f (ad 7 q) 8 (nI k2)) g) R
              refine go_if rfl (fun (z : (1 : Int32) = 0) => absurd z (show ¬ ((1 : Int32) = 0) from (by decide))) (fun _ => ?_)
              refine go_blk 4 [] (pc' := 87) (vs' := [.ref (ad 7 q), .ref (ad 6 b), un, .int 1, .long v, .retAddr 1, .int (nI c), .int (t k), .long w2, .retAddr 1]) (st' := [.ref (ad 7 q)]) (M' := mm M (up2 f (ad 7 q) 8 (nI k2)) g) (ps := []) rfl trivial ?_
              refine go_callV rfl rfl rfl (by omega) rfl (by decide) (by decide) hT.1.1.1 ?_
              refine s_Tx_takeSign (i := k2) (p := k2) (by omega) hT (by omega) g3 hk2 ⟨ne_i, ?_⟩
              show Go d 95 0 0 90 [.ref (ad 7 q), .ref (ad 6 b), un, .int 1, .long v, .retAddr 1, .int (nI c), .int (t k), .long w2, .retAddr 1] [.int (t k2)] (mm M (up2 f (ad 7 q) 8 (nI (k2 + 1))) g) R
              refine go_blk 4 [] (pc' := 94) (vs' := [.ref (ad 7 q), .ref (ad 6 b), un, .int 1, .long v, .retAddr 1, .int (nI c), .int (t k), .long w2, .retAddr 1]) (st' := [.int 0, .ref (ad 6 b), .ref (ad 7 q)]) (M' := mm M (up2 f (ad 7 q) 8 (nI (k2 + 1))) g) (ps := [(.int (t k2) : Value).category = 1]) rfl ⟨rfl, trivial⟩ ?_
              refine go_callV rfl rfl rfl (by omega) rfl (by decide) (by decide) hT.1.1.1 ?_
              refine hS _ (k2 + 1) v3 k3 (by omega) h3 ⟨ne_l, ?_⟩
              show Go d 95 0 0 97 [.ref (ad 7 q), .ref (ad 6 b), un, .int 1, .long v, .retAddr 1, .int (nI c), .int (t k), .long w2, .retAddr 1] [.long v3] (mm M (up2 f (ad 7 q) 8 (nI k3)) g) R
              refine go_blk 3 [] (pc' := 33) (vs' := [.ref (ad 7 q), .ref (ad 6 b), un, .int 1, .long v3, .retAddr 1, .int ((nI c) + 1), .int (t k), .long w2, .retAddr 1]) (st' := []) (M' := mm M (up2 f (ad 7 q) 8 (nI k3)) g) (ps := []) rfl trivial ?_
              have ef : (1 : Int32) = bI (all && cmpV (t k) v w2) := by
                cases all <;> simp_all [bI]
              rw [show nI c + 1 = nI (c + 1) from nI_add c 1, ef]
              rw [e12.1]
              exact lpX_coins (by omega) hT g5 g6 (by omega) hn3 (hR _ _ _ _)
            · -- ('i', '0')
              show Go d 95 0 0 77 [.ref (ad 7 q), .ref (ad 6 b), un, .int (bI all), .long v, .retAddr 1, .int (nI c), .int (t k), .long w2, .retAddr 1] [.int 0] (mm M (up2 f (ad 7 q) 8 (nI k2)) g) R
              refine go_if rfl (fun _ => ?_) (fun (z : ¬ ((0 : Int32) = 0)) => absurd (show (0 : Int32) = 0 from (by decide)) z)
              refine go_blk 3 [] (pc' := 87) (vs' := [.ref (ad 7 q), .ref (ad 6 b), un, .int 0, .long v, .retAddr 1, .int (nI c), .int (t k), .long w2, .retAddr 1]) (st' := [.ref (ad 7 q)]) (M' := mm M (up2 f (ad 7 q) 8 (nI k2)) g) (ps := []) rfl trivial ?_
              refine go_callV rfl rfl rfl (by omega) rfl (by decide) (by decide) hT.1.1.1 ?_
              refine s_Tx_takeSign (i := k2) (p := k2) (by omega) hT (by omega) g3 hk2 ⟨ne_i, ?_⟩
              show Go d 95 0 0 90 [.ref (ad 7 q), .ref (ad 6 b), un, .int 0, .long v, .retAddr 1, .int (nI c), .int (t k), .long w2, .retAddr 1] [.int (t k2)] (mm M (up2 f (ad 7 q) 8 (nI (k2 + 1))) g) R
              refine go_blk 4 [] (pc' := 94) (vs' := [.ref (ad 7 q), .ref (ad 6 b), un, .int 0, .long v, .retAddr 1, .int (nI c), .int (t k), .long w2, .retAddr 1]) (st' := [.int 0, .ref (ad 6 b), .ref (ad 7 q)]) (M' := mm M (up2 f (ad 7 q) 8 (nI (k2 + 1))) g) (ps := [(.int (t k2) : Value).category = 1]) rfl ⟨rfl, trivial⟩ ?_
              refine go_callV rfl rfl rfl (by omega) rfl (by decide) (by decide) hT.1.1.1 ?_
              refine hS _ (k2 + 1) v3 k3 (by omega) h3 ⟨ne_l, ?_⟩
              show Go d 95 0 0 97 [.ref (ad 7 q), .ref (ad 6 b), un, .int 0, .long v, .retAddr 1, .int (nI c), .int (t k), .long w2, .retAddr 1] [.long v3] (mm M (up2 f (ad 7 q) 8 (nI k3)) g) R
              refine go_blk 3 [] (pc' := 33) (vs' := [.ref (ad 7 q), .ref (ad 6 b), un, .int 0, .long v3, .retAddr 1, .int ((nI c) + 1), .int (t k), .long w2, .retAddr 1]) (st' := []) (M' := mm M (up2 f (ad 7 q) 8 (nI k3)) g) (ps := []) rfl trivial ?_
              have ef : (0 : Int32) = bI (all && cmpV (t k) v w2) := by
                cases all <;> simp_all [bI]
              rw [show nI c + 1 = nI (c + 1) from nI_add c 1, ef]
              rw [e12.1]
              exact lpX_coins (by omega) hT g5 g6 (by omega) hn3 (hR _ _ _ _)
        · -- ('i', '0')
          exact absurd hs hs2
      · -- ('i', '0')
        exact absurd hk hj1

theorem sum_in {t : Nat → Int32} {L : Nat} {lv : Int32 → Int64} {P : Nat → PR} {i k : Nat} {v : Int64} (h : sumM t L lv P i = .inr (v, k)) : sk t L i < L := by
  apply Classical.byContradiction
  intro z
  unfold sumM prodM atomM at h
  rw [if_neg (fun y => z y.1), if_neg (fun y => z y.1), if_neg (fun y => z y.1)] at h
  cases h
theorem sum_sk {t : Nat → Int32} {L : Nat} {lv : Int32 → Int64} {P : Nat → PR} {i : Nat} (hi : i ≤ L) : sumM t L lv P (sk t L i) = sumM t L lv P i := by
  unfold sumM prodM atomM
  rw [sk_sk hi]
theorem thrL_some {t : Nat → Int32} {L : Nat} {lv : Int32 → Int64} {a : Int64} : ∀ (m i : Nat) (o : Option Int64), thrL t L lv m (some a) i = .inr o → o = some a := by
  intro m
  induction m with
  | zero => intro i o h; rw [thrL] at h; cases h; rfl
  | succ m ih =>
    intro i o h
    rw [thrL] at h
    by_cases c : sk t L i < L
    · rw [if_pos c] at h
      by_cases c5 : t (sk t L i) = 59
      · rw [if_pos c5] at h
        cases hc : clsM t L lv (sk t L i + 1) with
        | inl e => rw [hc] at h; cases h
        | inr z => rw [hc] at h; exact ih _ _ h
      · rw [if_neg c5] at h; cases h
    · rw [if_neg c] at h; cases h; rfl
def coinV (v : Int64) : Int32 := (if (0 : Int64) < (if v < 10000 then v else 10000) then (if v < 10000 then v else 10000) else 0).toInt32
def coinO (o : Option Int64) : Int32 := match o with | none => 0 | some v => coinV v

