/-! texts: the class's coins, clause by clause -/
theorem thrL_59 {t : Nat → Int32} {L : Nat} {lv : Int32 → Int64} {m k : Nat} {p o : Option Int64} (hs : sk t L k = k) (h : thrL t L lv (m + 1) p k = .inr o) : k < L → t k = 59 := by
  intro c
  rw [thrL, hs, if_pos c] at h
  apply Classical.byContradiction
  intro z
  rw [if_neg z] at h
  cases h
theorem thrL_next {t : Nat → Int32} {L : Nat} {lv : Int32 → Int64} {m k : Nat} {o : Option Int64} (hs : sk t L k = k) (c : k < L) (h : thrL t L lv (m + 1) none k = .inr o) : ∃ bb v k2, clsM t L lv (k + 1) = .inr (bb, v, k2) ∧ thrL t L lv m (if bb = true then some v else none) k2 = .inr o := by
  have c5 := thrL_59 hs h c
  rw [thrL, hs, if_pos c, if_pos c5] at h
  cases hc : clsM t L lv (k + 1) with
  | inl e => rw [hc] at h; cases h
  | inr z => rw [hc] at h; exact ⟨z.1, z.2.1, z.2.2, rfl, h⟩
theorem thrL_end {t : Nat → Int32} {L : Nat} {lv : Int32 → Int64} {m k : Nat} {p o : Option Int64} (hs : sk t L k = k) (c : ¬ k < L) (h : thrL t L lv (m + 1) p k = .inr o) : o = p := by
  rw [thrL, hs, if_neg c] at h
  cases h; rfl

set_option maxRecDepth 100000 in
theorem lpT_coins {d : Nat} {M : Mem} {f : Nat → Nat → Int32} {g : Nat → Nat → Int64} {ad : Nat → Nat → Nat} {q L b : Nat} {t : Nat → Int32} {lv : Int32 → Int64} {R : Option Value → Mem → Prop} {o : Option Int64} {A : Bool} {v3 : Int64} {k3 c m : Nat} {u6 u7 u8 u9 : Value} (hd : 3 ≤ d) (hT : TC M ad q L t lv b f) (hk3 : k3 ≤ L) (hs3 : sk t L k3 = k3) (hc : c < 120) (he : thrL t L lv (m + 1) (if A = true then some v3 else none) k3 = .inr o) (hR : ∀ x, R (some (.int (coinO o))) (mm M (up2 f (ad 7 q) 8 x) g)) (hN : ∀ (bb : Bool) (v : Int64) (k : Nat) (u3 u4 u5 : Value), k3 < L → clsM t L lv (k3 + 1) = .inr (bb, v, k) → thrL t L lv m (if bb = true then some v else none) k = .inr o → Go d 95 0 0 7 [.ref (ad 7 q), .ref (ad 6 b), .int (nI (c + 1)), u3, u4, u5, u6, u7, u8, u9] [] (mm M (up2 f (ad 7 q) 8 (nI (k3 + 1))) g) R) : Go d 95 0 0 105 [.ref (ad 7 q), .ref (ad 6 b), .int (nI c), .int (bI A), .long v3, .retAddr 1, u6, u7, u8, u9] [] (mm M (up2 f (ad 7 q) 8 (nI k3)) g) R := by
  have hi := hT.1.2.1
  have hL0 := hT.1.2.2.1
  cases A with
  | true =>
    have eo : o = some v3 := thrL_some (m + 1) k3 o he
    subst eo
    show Go d 95 0 0 105 [.ref (ad 7 q), .ref (ad 6 b), .int (nI c), .int 1, .long v3, .retAddr 1, u6, u7, u8, u9] [] (mm M (up2 f (ad 7 q) 8 (nI k3)) g) R
    refine go_blk 1 [] (pc' := 106) (vs' := [.ref (ad 7 q), .ref (ad 6 b), .int (nI c), .int 1, .long v3, .retAddr 1, u6, u7, u8, u9]) (st' := [.int 1]) (M' := mm M (up2 f (ad 7 q) 8 (nI k3)) g) (ps := []) rfl trivial ?_
    refine go_if rfl (fun (z : (1 : Int32) = 0) => absurd z (show ¬ ((1 : Int32) = 0) from (by decide))) (fun _ => ?_)
    refine go_blk 3 [] (pc' := 115) (vs' := [.ref (ad 7 q), .ref (ad 6 b), .int (nI c), .int 1, .long v3, .retAddr 1, u6, u7, u8, u9]) (st' := [.long 10000, .long v3, .long 0]) (M' := mm M (up2 f (ad 7 q) 8 (nI k3)) g) (ps := []) rfl trivial ?_
    refine go_callS rfl (by decide) rfl rfl (by omega) rfl (by decide) (by decide) ?_
    refine s_JM_min1 (by omega) ⟨ne_l, ?_⟩
    show Go d 95 0 0 118 [.ref (ad 7 q), .ref (ad 6 b), .int (nI c), .int 1, .long v3, .retAddr 1, u6, u7, u8, u9] [.long (if v3 < 10000 then v3 else 10000), .long 0] (mm M (up2 f (ad 7 q) 8 (nI k3)) g) R
    refine go_callS rfl (by decide) rfl rfl (by omega) rfl (by decide) (by decide) ?_
    refine s_JM_max1 (by omega) ⟨ne_l, ?_⟩
    show Go d 95 0 0 121 [.ref (ad 7 q), .ref (ad 6 b), .int (nI c), .int 1, .long v3, .retAddr 1, u6, u7, u8, u9] [.long (if (0 : Int64) < (if v3 < 10000 then v3 else 10000) then (if v3 < 10000 then v3 else 10000) else 0)] (mm M (up2 f (ad 7 q) 8 (nI k3)) g) R
    refine go_blk 1 [] (pc' := 122) (vs' := [.ref (ad 7 q), .ref (ad 6 b), .int (nI c), .int 1, .long v3, .retAddr 1, u6, u7, u8, u9]) (st' := [.int ((if (0 : Int64) < (if v3 < 10000 then v3 else 10000) then (if v3 < 10000 then v3 else 10000) else 0).toInt32)]) (M' := mm M (up2 f (ad 7 q) 8 (nI k3)) g) (ps := []) rfl trivial ?_
    refine go_iret rfl rfl ?_
    exact hR _
  | false =>
    replace he : thrL t L lv (m + 1) none k3 = .inr o := he
    by_cases c3 : k3 < L
    · obtain ⟨bb, v, k2, hc1, hc2⟩ := thrL_next hs3 c3 he
      show Go d 95 0 0 105 [.ref (ad 7 q), .ref (ad 6 b), .int (nI c), .int 0, .long v3, .retAddr 1, u6, u7, u8, u9] [] (mm M (up2 f (ad 7 q) 8 (nI k3)) g) R
      refine go_blk 1 [] (pc' := 106) (vs' := [.ref (ad 7 q), .ref (ad 6 b), .int (nI c), .int 0, .long v3, .retAddr 1, u6, u7, u8, u9]) (st' := [.int 0]) (M' := mm M (up2 f (ad 7 q) 8 (nI k3)) g) (ps := []) rfl trivial ?_
      refine go_if rfl (fun _ => ?_) (fun (z : ¬ ((0 : Int32) = 0)) => absurd (show (0 : Int32) = 0 from (by decide)) z)
      refine go_blk 1 [] (pc' := 124) (vs' := [.ref (ad 7 q), .ref (ad 6 b), .int (nI c), .int 0, .long v3, .retAddr 1, u6, u7, u8, u9]) (st' := [.ref (ad 7 q)]) (M' := mm M (up2 f (ad 7 q) 8 (nI k3)) g) (ps := []) rfl trivial ?_
      refine go_callV rfl rfl rfl (by omega) rfl (by decide) (by decide) hT.1.1.1 ?_
      refine s_Tx_takeSign (i := k3) (p := k3) (by omega) hT hk3 hs3 c3 ⟨ne_i, ?_⟩
      show Go d 95 0 0 127 [.ref (ad 7 q), .ref (ad 6 b), .int (nI c), .int 0, .long v3, .retAddr 1, u6, u7, u8, u9] [.int (t k3)] (mm M (up2 f (ad 7 q) 8 (nI (k3 + 1))) g) R
      refine go_blk 3 [] (pc' := 7) (vs' := [.ref (ad 7 q), .ref (ad 6 b), .int ((nI c) + 1), .int 0, .long v3, .retAddr 1, u6, u7, u8, u9]) (st' := []) (M' := mm M (up2 f (ad 7 q) 8 (nI (k3 + 1))) g) (ps := [(.int (t k3) : Value).category = 1]) rfl ⟨rfl, trivial⟩ ?_
      rw [show nI c + 1 = nI (c + 1) from nI_add c 1]
      exact hN bb v k2 _ _ _ c3 hc1 hc2
    · have eo : o = none := thrL_end hs3 c3 he
      subst eo
      obtain rfl : k3 = L := by omega
      show Go d 95 0 0 105 [.ref (ad 7 q), .ref (ad 6 b), .int (nI c), .int 0, .long v3, .retAddr 1, u6, u7, u8, u9] [] (mm M (up2 f (ad 7 q) 8 (nI k3)) g) R
      refine go_blk 1 [] (pc' := 106) (vs' := [.ref (ad 7 q), .ref (ad 6 b), .int (nI c), .int 0, .long v3, .retAddr 1, u6, u7, u8, u9]) (st' := [.int 0]) (M' := mm M (up2 f (ad 7 q) 8 (nI k3)) g) (ps := []) rfl trivial ?_
      refine go_if rfl (fun _ => ?_) (fun (z : ¬ ((0 : Int32) = 0)) => absurd (show (0 : Int32) = 0 from (by decide)) z)
      refine go_blk 1 [] (pc' := 124) (vs' := [.ref (ad 7 q), .ref (ad 6 b), .int (nI c), .int 0, .long v3, .retAddr 1, u6, u7, u8, u9]) (st' := [.ref (ad 7 q)]) (M' := mm M (up2 f (ad 7 q) 8 (nI k3)) g) (ps := []) rfl trivial ?_
      refine go_callV rfl rfl rfl (by omega) rfl (by decide) (by decide) hT.1.1.1 ?_
      refine s_Tx_takeSignE (by omega) hT ⟨ne_i, ?_⟩
      show Go d 95 0 0 127 [.ref (ad 7 q), .ref (ad 6 b), .int (nI c), .int 0, .long v3, .retAddr 1, u6, u7, u8, u9] [.int 0] (mm M (up2 f (ad 7 q) 8 (nI (k3 + 1))) g) R
      refine go_blk 5 [] (pc' := 10) (vs' := [.ref (ad 7 q), .ref (ad 6 b), .int ((nI c) + 1), .int 0, .long v3, .retAddr 1, u6, u7, u8, u9]) (st' := [.int 120, .int ((nI c) + 1)]) (M' := mm M (up2 f (ad 7 q) 8 (nI (k3 + 1))) g) (ps := [(.int 0 : Value).category = 1]) rfl ⟨rfl, trivial⟩ ?_
      refine go_icmp rfl (fun (c1 : 120 ≤ ((nI c) + 1)) => ?_) (fun (c1 : ¬ (120 ≤ ((nI c) + 1))) => ?_)
      · -- 120 ≤ ((nI c) + 1)
        refine go_blk 1 [] (pc' := 135) (vs' := [.ref (ad 7 q), .ref (ad 6 b), .int ((nI c) + 1), .int 0, .long v3, .retAddr 1, u6, u7, u8, u9]) (st' := [.int 0]) (M' := mm M (up2 f (ad 7 q) 8 (nI (k3 + 1))) g) (ps := []) rfl trivial ?_
        refine go_iret rfl rfl ?_
        exact hR _
      · -- ¬ (120 ≤ ((nI c) + 1))
        refine go_blk 1 [] (pc' := 14) (vs' := [.ref (ad 7 q), .ref (ad 6 b), .int ((nI c) + 1), .int 0, .long v3, .retAddr 1, u6, u7, u8, u9]) (st' := [.ref (ad 7 q)]) (M' := mm M (up2 f (ad 7 q) 8 (nI (k3 + 1))) g) (ps := []) rfl trivial ?_
        refine go_callV rfl rfl rfl (by omega) rfl (by decide) (by decide) hT.1.1.1 ?_
        refine s_Tx_signE hT ((nI_les (a := k3) (b := k3 + 1) (by omega) (by omega)).mpr (by omega)) ⟨ne_i, ?_⟩
        show Go d 95 0 0 17 [.ref (ad 7 q), .ref (ad 6 b), .int ((nI c) + 1), .int 0, .long v3, .retAddr 1, u6, u7, u8, u9] [.int 0] (mm M (up2 f (ad 7 q) 8 (nI k3)) g) R
        refine go_if rfl (fun _ => ?_) (fun (z : ¬ ((0 : Int32) = 0)) => absurd (show (0 : Int32) = 0 from (by decide)) z)
        refine go_blk 1 [] (pc' := 135) (vs' := [.ref (ad 7 q), .ref (ad 6 b), .int ((nI c) + 1), .int 0, .long v3, .retAddr 1, u6, u7, u8, u9]) (st' := [.int 0]) (M' := mm M (up2 f (ad 7 q) 8 (nI k3)) g) (ps := []) rfl trivial ?_
        refine go_iret rfl rfl ?_
        exact hR _

set_option maxRecDepth 100000 in
theorem lpO_coins {d : Nat} {M : Mem} {f : Nat → Nat → Int32} {g : Nat → Nat → Int64} {ad : Nat → Nat → Nat} {q L b : Nat} {t : Nat → Int32} {lv : Int32 → Int64} {R : Option Value → Mem → Prop} {o : Option Int64} (hd : 37 ≤ d) (hT : TC M ad q L t lv b f) (hR : ∀ x, R (some (.int (coinO o))) (mm M (up2 f (ad 7 q) 8 x) g)) : ∀ (m i c : Nat) (bb : Bool) (v : Int64) (k : Nat) (u3 u4 u5 u6 u7 u8 u9 : Value), i ≤ L → c ≤ i → clsM t L lv i = .inr (bb, v, k) → thrL t L lv m (if bb = true then some v else none) k = .inr o → L < k + m → Go d 95 0 0 7 [.ref (ad 7 q), .ref (ad 6 b), .int (nI c), u3, u4, u5, u6, u7, u8, u9] [] (mm M (up2 f (ad 7 q) 8 (nI i)) g) R := by
  have hi := hT.1.2.1
  have hL0 := hT.1.2.2.1
  have hS := sumsCC (g := g) hT 6 0 (d - 1) (by omega) (by omega)
  intro m
  induction m with
  | zero =>
    intro i c bb v k u3 u4 u5 u6 u7 u8 u9 hi1 hci hcl hth hm
    have := ((cls_fl hi1).2 bb v k hcl).2.1
    omega
  | succ m ih =>
    intro i c bb v k u3 u4 u5 u6 u7 u8 u9 hi1 hci hcl hth hm
    obtain ⟨gk1, gk2, gk3, -⟩ := (cls_fl hi1).2 bb v k hcl
    have t59 := thrL_59 gk3 hth
    have hn3 : ¬ (k < L ∧ isSg (t k) = true) := fun z => by
      have := t59 z.1
      rw [this] at z
      exact absurd z.2 (by decide)
    unfold clsM at hcl
    obtain ⟨v1, k1, h1⟩ : ∃ v1 k1, sumM t L lv (parR t L lv 6) i = .inr (v1, k1) := by
      cases h : sumM t L lv (parR t L lv 6) i with
      | inl e => rw [h] at hcl; cases hcl
      | inr z => exact ⟨z.1, z.2, rfl⟩
    rw [h1] at hcl
    simp only [] at hcl
    obtain ⟨g1, g2, g3⟩ := sum_g (t := t) (lv := lv) (dp := 0) (r := 6) (by omega) i hi1 v1 k1 h1
    rw [g3] at hcl
    have hp0 := sum_in h1
    have hp1 := (sk_ge (t := t) hi1).1
    have h1p : sumM t L lv (parR t L lv 6) (sk t L i) = .inr (v1, k1) := (sum_sk hi1).trans h1
    obtain ⟨p, hp⟩ : ∃ p, sk t L i = p := ⟨_, rfl⟩
    rw [hp] at hp0 hp1 h1p
    have tp0 : ¬ t p = 0 := (hT.2.2.1 p hp0).2
    have tail : ∀ (A : Bool) (v3 : Int64) (u6 u7 u8 u9 : Value), thrL t L lv (m + 1) (if A = true then some v3 else none) k = .inr o → Go d 95 0 0 105 [.ref (ad 7 q), .ref (ad 6 b), .int (nI c), .int (bI A), .long v3, .retAddr 1, u6, u7, u8, u9] [] (mm M (up2 f (ad 7 q) 8 (nI k)) g) R := fun A v3 u6 u7 u8 u9 hth => lpT_coins (by omega) hT gk2 gk3 (by omega) hth hR (fun bb v k2 u3 u4 u5 z1 z2 z3 => ih (k + 1) (c + 1) bb v k2 _ _ _ _ _ _ _ (by omega) (by omega) z2 z3 (by have := ((cls_fl (show k + 1 ≤ L by omega)).2 bb v k2 z2).1; omega))
    show Go d 95 0 0 7 [.ref (ad 7 q), .ref (ad 6 b), .int (nI c), u3, u4, u5, u6, u7, u8, u9] [] (mm M (up2 f (ad 7 q) 8 (nI i)) g) R
    refine go_blk 2 [] (pc' := 10) (vs' := [.ref (ad 7 q), .ref (ad 6 b), .int (nI c), u3, u4, u5, u6, u7, u8, u9]) (st' := [.int 120, .int (nI c)]) (M' := mm M (up2 f (ad 7 q) 8 (nI i)) g) (ps := []) rfl trivial ?_
    refine go_icmp rfl (fun (z : 120 ≤ (nI c)) => absurd z (show ¬ (120 ≤ (nI c)) from (Int32.not_le.mpr ((nI_lts (a := c) (b := 120) (by omega) (by decide)).mpr (by omega))))) (fun _ => ?_)
    refine go_blk 1 [] (pc' := 14) (vs' := [.ref (ad 7 q), .ref (ad 6 b), .int (nI c), u3, u4, u5, u6, u7, u8, u9]) (st' := [.ref (ad 7 q)]) (M' := mm M (up2 f (ad 7 q) 8 (nI i)) g) (ps := []) rfl trivial ?_
    refine go_callV rfl rfl rfl (by omega) rfl (by decide) (by decide) hT.1.1.1 ?_
    refine s_Tx_signQ (i := i) (p := p) hT hi1 hp (fun hj1 => ⟨ne_i, ?_⟩) (fun hj1 => ⟨ne_i, ?_⟩)
    · -- ('i', 't p')
      have hin : p < L := hj1
      show Go d 95 0 0 17 [.ref (ad 7 q), .ref (ad 6 b), .int (nI c), u3, u4, u5, u6, u7, u8, u9] [.int (t p)] (mm M (up2 f (ad 7 q) 8 (nI p)) g) R
      refine go_if rfl (fun (z : (t p) = 0) => absurd z (show ¬ ((t p) = 0) from tp0)) (fun _ => ?_)
      refine go_blk 5 [] (pc' := 25) (vs' := [.ref (ad 7 q), .ref (ad 6 b), .int (nI c), .int 1, u4, u5, u6, u7, u8, u9]) (st' := [.int 0, .ref (ad 6 b), .ref (ad 7 q)]) (M' := mm M (up2 f (ad 7 q) 8 (nI p)) g) (ps := []) rfl trivial ?_
      refine go_callV rfl rfl rfl (by omega) rfl (by decide) (by decide) hT.1.1.1 ?_
      refine hS _ (p) v1 k1 (by omega) h1p ⟨ne_l, ?_⟩
      show Go d 95 0 0 28 [.ref (ad 7 q), .ref (ad 6 b), .int (nI c), .int 1, u4, u5, u6, u7, u8, u9] [.long v1] (mm M (up2 f (ad 7 q) 8 (nI k1)) g) R
      refine go_blk 3 [] (pc' := 33) (vs' := [.ref (ad 7 q), .ref (ad 6 b), .int (nI c), .int 1, .long v1, .retAddr 1, .int 0, u7, u8, u9]) (st' := []) (M' := mm M (up2 f (ad 7 q) 8 (nI k1)) g) (ps := []) rfl trivial ?_
      by_cases cs : k1 < L ∧ isSg (t k1) = true
      · rw [if_pos cs] at hcl
        obtain ⟨w2, k2, h2⟩ : ∃ w2 k2, sumM t L lv (parR t L lv 6) (k1 + 1) = .inr (w2, k2) := by
          cases h : sumM t L lv (parR t L lv 6) (k1 + 1) with
          | inl e => rw [h] at hcl; cases hcl
          | inr z => exact ⟨z.1, z.2, rfl⟩
        rw [h2] at hcl
        simp only [] at hcl
        obtain ⟨g4, g5, g6⟩ := sum_g (t := t) (lv := lv) (dp := 0) (r := 6) (by omega) (k1 + 1) (by omega) w2 k2 h2
        obtain ⟨A, j, h4⟩ : ∃ A j, tstL t L lv (L + 1) (cmpV (t k1) v1 w2) k2 = .inr (A, j) := by
          cases h : tstL t L lv (L + 1) (cmpV (t k1) v1 w2) k2 with
          | inl e => rw [h] at hcl; cases hcl
          | inr z => exact ⟨z.1, z.2, rfl⟩
        rw [h4] at hcl
        simp only [] at hcl
        have hsj := ((tst_fl (L + 1) (cmpV (t k1) v1 w2) k2 g5 (by omega) g6 (fun z => ((sum6_fl (p := 0) (show k1 + 1 ≤ L by omega)).2 w2 k2 h2).2 z)).2 A j h4).2.2.1
        rw [hsj] at hcl
        have cj : j < L ∧ t j = 63 := by
          apply Classical.byContradiction; intro z; rw [if_neg z] at hcl; cases hcl
        rw [if_pos cj] at hcl
        obtain ⟨v3, k3, h3⟩ : ∃ v3 k3, sumM t L lv (parR t L lv 6) (j + 1) = .inr (v3, k3) := by
          cases h : sumM t L lv (parR t L lv 6) (j + 1) with
          | inl e => rw [h] at hcl; cases hcl
          | inr z => exact ⟨z.1, z.2, rfl⟩
        rw [h3] at hcl
        simp only [] at hcl
        have e3 : A = bb ∧ v3 = v ∧ k3 = k := by cases hcl; exact ⟨rfl, rfl, rfl⟩
        rw [e3.2.1, e3.2.2] at h3
        rw [e3.1] at h4
        exact lpI_coins (by omega) hT cj h3 hn3 (fun c6 u7 u8 u9 => tail bb v _ _ _ _ hth) (L + 1) true v1 k1 0 w2 k2 _ _ _ cs.1 (by omega) g3 cs.2 h2 h4 (by omega)
      · rw [if_neg cs] at hcl
        have e3 : true = bb ∧ v1 = v ∧ k1 = k := by cases hcl; exact ⟨rfl, rfl, rfl⟩
        have et := tail true v1 (.int (nI 0)) u7 u8 u9 (by have hh := hth; rw [← e3.1] at hh; rw [e3.2.1]; exact hh)
        rw [← e3.2.2] at et
        exact lpX_coins (c := 0) (by omega) hT g2 g3 (by omega) cs et
    · -- ('i', '0')
      exact absurd hp0 hj1

set_option maxRecDepth 100000 in
theorem s_Tx_coinsFor {d : Nat} {M : Mem} {f : Nat → Nat → Int32} {g : Nat → Nat → Int64} {ad : Nat → Nat → Nat} {q L b : Nat} {t : Nat → Int32} {lv : Int32 → Int64} {R : Option Value → Mem → Prop} {o : Option Int64} (hd : 37 ≤ d) (hT : TC M ad q L t lv b f) (he : thrM t L lv = .inr o) (hR : ∀ x, R (some (.int (coinO o))) (mm M (up2 f (ad 7 q) 8 x) g)) : Call d 95 [.ref (ad 7 q), .ref (ad 6 b)] (mm M f g) R := by
  have hi := hT.1.2.1
  have hL0 := hT.1.2.2.1
  unfold thrM at he
  obtain ⟨bb, v, k, hc⟩ : ∃ bb v k, clsM t L lv 0 = .inr (bb, v, k) := by
    cases h : clsM t L lv 0 with
    | inl e => rw [h] at he; cases he
    | inr z => exact ⟨z.1, z.2.1, z.2.2, rfl⟩
  rw [hc] at he
  have := ((cls_fl (Nat.zero_le _)).2 bb v k hc).1
  show Go d 95 0 0 0 [.ref (ad 7 q), .ref (ad 6 b), .retAddr 0, .retAddr 0, .retAddr 0, .retAddr 0, .retAddr 0, .retAddr 0, .retAddr 0, .retAddr 0] [] (mm M f g) R
  refine go_blk 5 [] (pc' := 7) (vs' := [.ref (ad 7 q), .ref (ad 6 b), .int 0, .retAddr 0, .retAddr 0, .retAddr 0, .retAddr 0, .retAddr 0, .retAddr 0, .retAddr 0]) (st' := []) (M' := mm M (up2 f (ad 7 q) 8 0) g) (ps := [ob (mm M f g) (ad 7 q) 9]) rfl ⟨hT.1.1.1, trivial⟩ ?_
  exact lpO_coins (by omega) hT hR (L + 1) 0 0 bb v k _ _ _ _ _ _ _ (by omega) (by omega) hc he (by omega)

