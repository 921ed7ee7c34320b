/-! texts: the model's products and sums -/
set_option maxRecDepth 100000 in
theorem lpF_Mo_product {d : Nat} {M : Mem} {f : Nat → Nat → Int32} {g : Nat → Nat → Int64} {ad : Nat → Nat → Nat} {R : Option Value → Mem → Prop} {v : Int64} {e : Nat} {u3 u4 u5 : Value} (hM : Mx M ad) (hf : f (ad 10 0) 86 = nI e) (he : e ≤ 120) (hR : R (some (.long v)) (mm M f g)) : Go d 247 0 0 5 [.ref (ad 10 0), .long v, .retAddr 1, u3, u4, u5] [] (mm M f g) R := by
  show Go d 247 0 0 5 [.ref (ad 10 0), .long v, .retAddr 1, u3, u4, u5] [] (mm M f g) R
  refine go_blk 3 [some (.int (nI e))] (pc' := 10) (vs' := [.ref (ad 10 0), .long v, .retAddr 1, u3, u4, u5]) (st' := [.int (-1), .int (nI e)]) (M' := mm M f g) (ps := [ob (mm M f g) (ad 10 0) 12, (Value.int (f (ad 10 0) 86)) = .int (nI e)]) rfl ⟨hM.1, congrArg Value.int hf, trivial⟩ ?_
  refine go_icmp rfl (fun _ => ?_) (fun (z : ¬ (¬ (nI e) = (-1))) => absurd (show ¬ (nI e) = (-1) from (nI_m1 (n := e) (by omega))) z)
  refine go_blk 1 [] (pc' := 96) (vs' := [.ref (ad 10 0), .long v, .retAddr 1, u3, u4, u5]) (st' := [.long v]) (M' := mm M f g) (ps := []) rfl trivial ?_
  refine go_lret rfl rfl ?_
  exact hR

set_option maxRecDepth 100000 in
theorem lp_Mo_product {d : Nat} {M : Mem} {g : Nat → Nat → Int64} {ad : Nat → Nat → Nat} {A fr L j : Nat} {t : Nat → Int32} {lv : Int32 → Int64} {dp : Nat} {paren : Nat → PR} (hd : 2 ≤ d) (hA : CallC 246 M g ad A fr L t lv j dp (d - 1) (atomM t L lv paren)) (hg : ∀ i, i ≤ L → ∀ v k, atomM t L lv paren i = .inr (v, k) → i < k ∧ k ≤ L) : ∀ (m : Nat) (v : Int64) (i : Nat) (f : Nat → Nat → Int32) (R : Option Value → Mem → Prop) (u3 u4 u5 : Value), i ≤ L → L < i + m → MX M ad A fr L t lv j f → PS ad f i dp → CE M g ad f (prodL t L lv paren m v i) R → CV M g ad f dp (prodL t L lv paren m v i) R → Go d 247 0 0 5 [.ref (ad 10 0), .long v, .retAddr 1, u3, u4, u5] [] (mm M f g) R := by
  intro m
  induction m with
  | zero => intro v i f R u3 u4 u5 h1 h2; omega
  | succ m ih =>
    intro v i f R u3 u4 u5 hi hm hX hP hE hV
    obtain ⟨ha, hf, hdp⟩ := hP
    have hL0 := hX.1.2.2.2.2.2.2.1
    obtain ⟨q, hq⟩ : ∃ q, sk t L i = q := ⟨_, rfl⟩
    have hqq : sk t L q = q := by rw [← hq]; exact sk_sk hi
    have hqL : q ≤ L := by rw [← hq]; exact (sk_ge hi).2
    have hqi : i ≤ q := by rw [← hq]; exact (sk_ge hi).1
    rw [prodL, hq] at hE hV
    show Go d 247 0 0 5 [.ref (ad 10 0), .long v, .retAddr 1, u3, u4, u5] [] (mm M f g) R
    refine go_blk 3 [some (.int (-1))] (pc' := 10) (vs' := [.ref (ad 10 0), .long v, .retAddr 1, u3, u4, u5]) (st' := [.int (-1), .int (-1)]) (M' := mm M f g) (ps := [ob (mm M f g) (ad 10 0) 12, (Value.int (f (ad 10 0) 86)) = .int (-1)]) rfl ⟨hX.m.1, congrArg Value.int hf, trivial⟩ ?_
    refine go_icmp rfl (fun (z : ¬ ((-1) : Int32) = (-1)) => absurd z (show ¬ (¬ ((-1) : Int32) = (-1)) from (by decide))) (fun _ => ?_)
    refine go_blk 1 [] (pc' := 14) (vs' := [.ref (ad 10 0), .long v, .retAddr 1, u3, u4, u5]) (st' := [.ref (ad 10 0)]) (M' := mm M f g) (ps := []) rfl trivial ?_
    refine go_callV rfl rfl rfl (by omega) rfl (by decide) (by decide) hX.m.1 ?_
    refine s_Mo_lookQ (i := i) (q := q) hX hi ha hq (fun hj1 => ⟨ne_i, ?_⟩) (fun hj1 => ⟨ne_i, ?_⟩)
    · -- ('i', 't q')
      have hin : q < L := hj1
      show Go d 247 0 0 17 [.ref (ad 10 0), .long v, .retAddr 1, u3, u4, u5] [.int (t q)] (mm M (up2 f (ad 10 0) 85 (nI q)) g) R
      refine go_blk 1 [] (pc' := 19) (vs' := [.ref (ad 10 0), .long v, .retAddr 1, u3, u4, u5]) (st' := [.int 42, .int (t q)]) (M' := mm M (up2 f (ad 10 0) 85 (nI q)) g) (ps := []) rfl trivial ?_
      refine go_icmp rfl (fun (c2 : (t q) = 42) => ?_) (fun (c2 : ¬ ((t q) = 42)) => ?_)
      · -- (t q) = 42
        refine go_blk 1 [] (pc' := 32) (vs' := [.ref (ad 10 0), .long v, .retAddr 1, u3, u4, u5]) (st' := [.ref (ad 10 0)]) (M' := mm M (up2 f (ad 10 0) 85 (nI q)) g) (ps := []) rfl trivial ?_
        refine go_callV rfl rfl rfl (by omega) rfl (by decide) (by decide) hX.m.1 ?_
        refine s_Mo_lookS (i := q) (hX.keep (MK.refl.up (by omega))) (by omega) hqq (up2_s _ _ _ _) (fun hj3 => ⟨ne_i, ?_⟩) (fun hj3 => ⟨ne_i, ?_⟩)
        · -- ('i', 't q')
          show Go d 247 0 0 35 [.ref (ad 10 0), .long v, .retAddr 1, u3, u4, u5] [.int (t q)] (mm M (up2 f (ad 10 0) 85 (nI q)) g) R
          refine go_blk 1 [] (pc' := 37) (vs' := [.ref (ad 10 0), .long v, .retAddr 1, u3, u4, u5]) (st' := [.int 42, .int (t q)]) (M' := mm M (up2 f (ad 10 0) 85 (nI q)) g) (ps := []) rfl trivial ?_
          refine go_icmp rfl (fun (z : ¬ (t q) = 42) => absurd z (show ¬ (¬ (t q) = 42) from (not_not_intro c2))) (fun _ => ?_)
          refine go_blk 10 [some (.int (nI q))] (pc' := 57) (vs' := [.ref (ad 10 0), .long v, .retAddr 1, .int 1, u4, u5]) (st' := [.ref (ad 10 0)]) (M' := mm M (up2 (up2 f (ad 10 0) 85 (nI q)) (ad 10 0) 85 ((nI q) + 1)) g) (ps := [(.ref (ad 10 0) : Value).category = 1, ob (mm M (up2 f (ad 10 0) 85 (nI q)) g) (ad 10 0) 12, (Value.int ((up2 f (ad 10 0) 85 (nI q)) (ad 10 0) 85)) = .int (nI q), ob (mm M (up2 f (ad 10 0) 85 (nI q)) g) (ad 10 0) 12]) rfl ⟨rfl, hX.m.1, congrArg Value.int (up2_s _ _ _ _), hX.m.1, trivial⟩ ?_
          refine go_callV rfl rfl rfl (by omega) rfl (by decide) (by decide) hX.m.1 ?_
          refine hA _ _ (q + 1) (by omega) (hX.keep ((MK.refl.up (by omega)).up (by omega))) ⟨((up2_s _ _ _ _).trans (nI_add q 1)), (((up2_n _ _ (fun z => absurd z.2 (by decide))).trans ((up2_n _ _ (fun z => absurd z.2 (by decide))).trans (rfl))).trans hf), (((up2_n _ _ (fun z => absurd z.2 (by decide))).trans ((up2_n _ _ (fun z => absurd z.2 (by decide))).trans (rfl))).trans hdp)⟩ (fun e4 w4 f4 hr4 hl4 hk4 hf4 => ⟨ne_l, ?_⟩) (fun w4 k4 f4 hr4 hk4 hp4 => ⟨ne_l, ?_⟩)
          · -- ('j', 'w#')
            show Go d 247 0 0 60 [.ref (ad 10 0), .long v, .retAddr 1, .int 1, u4, u5] [.long w4] (mm M f4 g) R
            refine go_blk 2 [] (pc' := 63) (vs' := [.ref (ad 10 0), .long v, .retAddr 1, .int 1, .long w4, .retAddr 1]) (st' := [.int 1]) (M' := mm M f4 g) (ps := []) rfl trivial ?_
            refine go_if rfl (fun (z : (1 : Int32) = 0) => absurd z (show ¬ ((1 : Int32) = 0) from (by decide))) (fun _ => ?_)
            refine go_blk 4 [] (pc' := 88) (vs' := [.ref (ad 10 0), .long v, .retAddr 1, .int 1, .long w4, .retAddr 1]) (st' := [.long (v * w4)]) (M' := mm M f4 g) (ps := []) rfl trivial ?_
            refine go_callS rfl (by decide) rfl rfl (by omega) rfl (by decide) (by decide) ?_
            refine s_Mo_bound (by omega) ⟨ne_l, ?_⟩
            show Go d 247 0 0 91 [.ref (ad 10 0), .long v, .retAddr 1, .int 1, .long w4, .retAddr 1] [.long (bdV (v * w4))] (mm M f4 g) R
            refine go_blk 2 [] (pc' := 5) (vs' := [.ref (ad 10 0), .long (bdV (v * w4)), .retAddr 1, .int 1, .long w4, .retAddr 1]) (st' := []) (M' := mm M f4 g) (ps := []) rfl trivial ?_
            exact lpF_Mo_product hX.m hf4 hl4 (hE e4 _ _ (by rw [if_pos ⟨hin, Or.inl c2⟩, hr4]) hl4 (((MK.refl.up (by omega)).up (by omega)).trans hk4) hf4)
          · -- ('j', 'w#')
            obtain ⟨ha4, hf4, hdp4⟩ := hp4
            obtain ⟨hg14, hg24⟩ := hg (q + 1) (by omega) w4 k4 hr4
            show Go d 247 0 0 60 [.ref (ad 10 0), .long v, .retAddr 1, .int 1, u4, u5] [.long w4] (mm M f4 g) R
            refine go_blk 2 [] (pc' := 63) (vs' := [.ref (ad 10 0), .long v, .retAddr 1, .int 1, .long w4, .retAddr 1]) (st' := [.int 1]) (M' := mm M f4 g) (ps := []) rfl trivial ?_
            refine go_if rfl (fun (z : (1 : Int32) = 0) => absurd z (show ¬ ((1 : Int32) = 0) from (by decide))) (fun _ => ?_)
            refine go_blk 4 [] (pc' := 88) (vs' := [.ref (ad 10 0), .long v, .retAddr 1, .int 1, .long w4, .retAddr 1]) (st' := [.long (v * w4)]) (M' := mm M f4 g) (ps := []) rfl trivial ?_
            refine go_callS rfl (by decide) rfl rfl (by omega) rfl (by decide) (by decide) ?_
            refine s_Mo_bound (by omega) ⟨ne_l, ?_⟩
            show Go d 247 0 0 91 [.ref (ad 10 0), .long v, .retAddr 1, .int 1, .long w4, .retAddr 1] [.long (bdV (v * w4))] (mm M f4 g) R
            refine go_blk 2 [] (pc' := 5) (vs' := [.ref (ad 10 0), .long (bdV (v * w4)), .retAddr 1, .int 1, .long w4, .retAddr 1]) (st' := []) (M' := mm M f4 g) (ps := []) rfl trivial ?_
            exact ih _ k4 f4 R _ _ _ hg24 (by omega) (hX.keep (((MK.refl.up (by omega)).up (by omega)).trans hk4)) ⟨ha4, hf4, hdp4⟩ (hE.mono (((MK.refl.up (by omega)).up (by omega)).trans hk4) (fun _ z => by rw [if_pos ⟨hin, Or.inl c2⟩, hr4]; simp only []; rw [if_pos c2]; exact z)) (hV.mono (((MK.refl.up (by omega)).up (by omega)).trans hk4) (fun _ z => by rw [if_pos ⟨hin, Or.inl c2⟩, hr4]; simp only []; rw [if_pos c2]; exact z))
        · -- ('i', '(-1)')
          exact absurd hin hj3
      · -- ¬ ((t q) = 42)
        refine go_blk 1 [] (pc' := 23) (vs' := [.ref (ad 10 0), .long v, .retAddr 1, u3, u4, u5]) (st' := [.ref (ad 10 0)]) (M' := mm M (up2 f (ad 10 0) 85 (nI q)) g) (ps := []) rfl trivial ?_
        refine go_callV rfl rfl rfl (by omega) rfl (by decide) (by decide) hX.m.1 ?_
        refine s_Mo_lookS (i := q) (hX.keep (MK.refl.up (by omega))) (by omega) hqq (up2_s _ _ _ _) (fun hj5 => ⟨ne_i, ?_⟩) (fun hj5 => ⟨ne_i, ?_⟩)
        · -- ('i', 't q')
          show Go d 247 0 0 26 [.ref (ad 10 0), .long v, .retAddr 1, u3, u4, u5] [.int (t q)] (mm M (up2 f (ad 10 0) 85 (nI q)) g) R
          refine go_blk 1 [] (pc' := 28) (vs' := [.ref (ad 10 0), .long v, .retAddr 1, u3, u4, u5]) (st' := [.int 47, .int (t q)]) (M' := mm M (up2 f (ad 10 0) 85 (nI q)) g) (ps := []) rfl trivial ?_
          refine go_icmp rfl (fun (c6 : ¬ (t q) = 47) => ?_) (fun (c6 : ¬ (¬ (t q) = 47)) => ?_)
          · -- ¬ (t q) = 47
            refine go_blk 1 [] (pc' := 96) (vs' := [.ref (ad 10 0), .long v, .retAddr 1, u3, u4, u5]) (st' := [.long v]) (M' := mm M (up2 f (ad 10 0) 85 (nI q)) g) (ps := []) rfl trivial ?_
            refine go_lret rfl rfl ?_
            exact hV v q _ (if_neg (fun z => by rcases z.2 with y | y; exact c2 y; exact c6 y)) (MK.refl.up (by omega)) ⟨(up2_s _ _ _ _), (((up2_n _ _ (fun z => absurd z.2 (by decide))).trans (rfl)).trans hf), (((up2_n _ _ (fun z => absurd z.2 (by decide))).trans (rfl)).trans hdp)⟩
          · -- ¬ (¬ (t q) = 47)
            refine go_blk 1 [] (pc' := 32) (vs' := [.ref (ad 10 0), .long v, .retAddr 1, u3, u4, u5]) (st' := [.ref (ad 10 0)]) (M' := mm M (up2 f (ad 10 0) 85 (nI q)) g) (ps := []) rfl trivial ?_
            refine go_callV rfl rfl rfl (by omega) rfl (by decide) (by decide) hX.m.1 ?_
            refine s_Mo_lookS (i := q) (hX.keep (MK.refl.up (by omega))) (by omega) hqq (up2_s _ _ _ _) (fun hj7 => ⟨ne_i, ?_⟩) (fun hj7 => ⟨ne_i, ?_⟩)
            · -- ('i', 't q')
              show Go d 247 0 0 35 [.ref (ad 10 0), .long v, .retAddr 1, u3, u4, u5] [.int (t q)] (mm M (up2 f (ad 10 0) 85 (nI q)) g) R
              refine go_blk 1 [] (pc' := 37) (vs' := [.ref (ad 10 0), .long v, .retAddr 1, u3, u4, u5]) (st' := [.int 42, .int (t q)]) (M' := mm M (up2 f (ad 10 0) 85 (nI q)) g) (ps := []) rfl trivial ?_
              refine go_icmp rfl (fun _ => ?_) (fun (z : ¬ (¬ (t q) = 42)) => absurd (show ¬ (t q) = 42 from c2) z)
              refine go_blk 9 [some (.int (nI q))] (pc' := 57) (vs' := [.ref (ad 10 0), .long v, .retAddr 1, .int 0, u4, u5]) (st' := [.ref (ad 10 0)]) (M' := mm M (up2 (up2 f (ad 10 0) 85 (nI q)) (ad 10 0) 85 ((nI q) + 1)) g) (ps := [(.ref (ad 10 0) : Value).category = 1, ob (mm M (up2 f (ad 10 0) 85 (nI q)) g) (ad 10 0) 12, (Value.int ((up2 f (ad 10 0) 85 (nI q)) (ad 10 0) 85)) = .int (nI q), ob (mm M (up2 f (ad 10 0) 85 (nI q)) g) (ad 10 0) 12]) rfl ⟨rfl, hX.m.1, congrArg Value.int (up2_s _ _ _ _), hX.m.1, trivial⟩ ?_
              refine go_callV rfl rfl rfl (by omega) rfl (by decide) (by decide) hX.m.1 ?_
              refine hA _ _ (q + 1) (by omega) (hX.keep ((MK.refl.up (by omega)).up (by omega))) ⟨((up2_s _ _ _ _).trans (nI_add q 1)), (((up2_n _ _ (fun z => absurd z.2 (by decide))).trans ((up2_n _ _ (fun z => absurd z.2 (by decide))).trans (rfl))).trans hf), (((up2_n _ _ (fun z => absurd z.2 (by decide))).trans ((up2_n _ _ (fun z => absurd z.2 (by decide))).trans (rfl))).trans hdp)⟩ (fun e8 w8 f8 hr8 hl8 hk8 hf8 => ⟨ne_l, ?_⟩) (fun w8 k8 f8 hr8 hk8 hp8 => ⟨ne_l, ?_⟩)
              · -- ('j', 'w#')
                show Go d 247 0 0 60 [.ref (ad 10 0), .long v, .retAddr 1, .int 0, u4, u5] [.long w8] (mm M f8 g) R
                refine go_blk 2 [] (pc' := 63) (vs' := [.ref (ad 10 0), .long v, .retAddr 1, .int 0, .long w8, .retAddr 1]) (st' := [.int 0]) (M' := mm M f8 g) (ps := []) rfl trivial ?_
                refine go_if rfl (fun _ => ?_) (fun (z : ¬ ((0 : Int32) = 0)) => absurd (show (0 : Int32) = 0 from (by decide)) z)
                refine go_blk 3 [] (pc' := 77) (vs' := [.ref (ad 10 0), .long v, .retAddr 1, .int 0, .long w8, .retAddr 1]) (st' := [.int (lg_cmp w8 0)]) (M' := mm M f8 g) (ps := []) rfl trivial ?_
                refine go_if rfl (fun (c9 : ¬ (lg_cmp w8 0) = 0) => ?_) (fun (c9 : ¬ (¬ (lg_cmp w8 0) = 0)) => ?_)
                · -- ¬ (lg_cmp w8 0) = 0
                  refine go_blk 3 [] (pc' := 88) (vs' := [.ref (ad 10 0), .long v, .retAddr 1, .int 0, .long w8, .retAddr 1]) (st' := [.long (v / w8)]) (M' := mm M f8 g) (ps := [¬ w8 = 0]) rfl ⟨(fun y => c9 ((lg_eq _ _).mpr y)), trivial⟩ ?_
                  refine go_callS rfl (by decide) rfl rfl (by omega) rfl (by decide) (by decide) ?_
                  refine s_Mo_bound (by omega) ⟨ne_l, ?_⟩
                  show Go d 247 0 0 91 [.ref (ad 10 0), .long v, .retAddr 1, .int 0, .long w8, .retAddr 1] [.long (bdV (v / w8))] (mm M f8 g) R
                  refine go_blk 2 [] (pc' := 5) (vs' := [.ref (ad 10 0), .long (bdV (v / w8)), .retAddr 1, .int 0, .long w8, .retAddr 1]) (st' := []) (M' := mm M f8 g) (ps := []) rfl trivial ?_
                  exact lpF_Mo_product hX.m hf8 hl8 (hE e8 _ _ (by rw [if_pos ⟨hin, Or.inr (Classical.not_not.mp c6)⟩, hr8]) hl8 (((MK.refl.up (by omega)).up (by omega)).trans hk8) hf8)
                · -- ¬ (¬ (lg_cmp w8 0) = 0)
                  refine go_blk 2 [] (pc' := 88) (vs' := [.ref (ad 10 0), .long v, .retAddr 1, .int 0, .long w8, .retAddr 1]) (st' := [.long 0]) (M' := mm M f8 g) (ps := []) rfl trivial ?_
                  refine go_callS rfl (by decide) rfl rfl (by omega) rfl (by decide) (by decide) ?_
                  refine s_Mo_bound (by omega) ⟨ne_l, ?_⟩
                  show Go d 247 0 0 91 [.ref (ad 10 0), .long v, .retAddr 1, .int 0, .long w8, .retAddr 1] [.long (bdV 0)] (mm M f8 g) R
                  refine go_blk 2 [] (pc' := 5) (vs' := [.ref (ad 10 0), .long (bdV 0), .retAddr 1, .int 0, .long w8, .retAddr 1]) (st' := []) (M' := mm M f8 g) (ps := []) rfl trivial ?_
                  exact lpF_Mo_product hX.m hf8 hl8 (hE e8 _ _ (by rw [if_pos ⟨hin, Or.inr (Classical.not_not.mp c6)⟩, hr8]) hl8 (((MK.refl.up (by omega)).up (by omega)).trans hk8) hf8)
              · -- ('j', 'w#')
                obtain ⟨ha8, hf8, hdp8⟩ := hp8
                obtain ⟨hg18, hg28⟩ := hg (q + 1) (by omega) w8 k8 hr8
                show Go d 247 0 0 60 [.ref (ad 10 0), .long v, .retAddr 1, .int 0, u4, u5] [.long w8] (mm M f8 g) R
                refine go_blk 2 [] (pc' := 63) (vs' := [.ref (ad 10 0), .long v, .retAddr 1, .int 0, .long w8, .retAddr 1]) (st' := [.int 0]) (M' := mm M f8 g) (ps := []) rfl trivial ?_
                refine go_if rfl (fun _ => ?_) (fun (z : ¬ ((0 : Int32) = 0)) => absurd (show (0 : Int32) = 0 from (by decide)) z)
                refine go_blk 3 [] (pc' := 77) (vs' := [.ref (ad 10 0), .long v, .retAddr 1, .int 0, .long w8, .retAddr 1]) (st' := [.int (lg_cmp w8 0)]) (M' := mm M f8 g) (ps := []) rfl trivial ?_
                refine go_if rfl (fun (c10 : ¬ (lg_cmp w8 0) = 0) => ?_) (fun (c10 : ¬ (¬ (lg_cmp w8 0) = 0)) => ?_)
                · -- ¬ (lg_cmp w8 0) = 0
                  refine go_blk 3 [] (pc' := 88) (vs' := [.ref (ad 10 0), .long v, .retAddr 1, .int 0, .long w8, .retAddr 1]) (st' := [.long (v / w8)]) (M' := mm M f8 g) (ps := [¬ w8 = 0]) rfl ⟨(fun y => c10 ((lg_eq _ _).mpr y)), trivial⟩ ?_
                  refine go_callS rfl (by decide) rfl rfl (by omega) rfl (by decide) (by decide) ?_
                  refine s_Mo_bound (by omega) ⟨ne_l, ?_⟩
                  show Go d 247 0 0 91 [.ref (ad 10 0), .long v, .retAddr 1, .int 0, .long w8, .retAddr 1] [.long (bdV (v / w8))] (mm M f8 g) R
                  refine go_blk 2 [] (pc' := 5) (vs' := [.ref (ad 10 0), .long (bdV (v / w8)), .retAddr 1, .int 0, .long w8, .retAddr 1]) (st' := []) (M' := mm M f8 g) (ps := []) rfl trivial ?_
                  exact ih _ k8 f8 R _ _ _ hg28 (by omega) (hX.keep (((MK.refl.up (by omega)).up (by omega)).trans hk8)) ⟨ha8, hf8, hdp8⟩ (hE.mono (((MK.refl.up (by omega)).up (by omega)).trans hk8) (fun _ z => by rw [if_pos ⟨hin, Or.inr (Classical.not_not.mp c6)⟩, hr8]; simp only []; rw [if_neg (show ¬ t q = 42 by rw [(Classical.not_not.mp c6)]; decide), dvV, if_neg (fun y => c10 ((lg_eq _ _).mpr y))]; exact z)) (hV.mono (((MK.refl.up (by omega)).up (by omega)).trans hk8) (fun _ z => by rw [if_pos ⟨hin, Or.inr (Classical.not_not.mp c6)⟩, hr8]; simp only []; rw [if_neg (show ¬ t q = 42 by rw [(Classical.not_not.mp c6)]; decide), dvV, if_neg (fun y => c10 ((lg_eq _ _).mpr y))]; exact z))
                · -- ¬ (¬ (lg_cmp w8 0) = 0)
                  refine go_blk 2 [] (pc' := 88) (vs' := [.ref (ad 10 0), .long v, .retAddr 1, .int 0, .long w8, .retAddr 1]) (st' := [.long 0]) (M' := mm M f8 g) (ps := []) rfl trivial ?_
                  refine go_callS rfl (by decide) rfl rfl (by omega) rfl (by decide) (by decide) ?_
                  refine s_Mo_bound (by omega) ⟨ne_l, ?_⟩
                  show Go d 247 0 0 91 [.ref (ad 10 0), .long v, .retAddr 1, .int 0, .long w8, .retAddr 1] [.long (bdV 0)] (mm M f8 g) R
                  refine go_blk 2 [] (pc' := 5) (vs' := [.ref (ad 10 0), .long (bdV 0), .retAddr 1, .int 0, .long w8, .retAddr 1]) (st' := []) (M' := mm M f8 g) (ps := []) rfl trivial ?_
                  exact ih _ k8 f8 R _ _ _ hg28 (by omega) (hX.keep (((MK.refl.up (by omega)).up (by omega)).trans hk8)) ⟨ha8, hf8, hdp8⟩ (hE.mono (((MK.refl.up (by omega)).up (by omega)).trans hk8) (fun _ z => by rw [if_pos ⟨hin, Or.inr (Classical.not_not.mp c6)⟩, hr8]; simp only []; rw [if_neg (show ¬ t q = 42 by rw [(Classical.not_not.mp c6)]; decide), dvV, if_pos ((lg_eq _ _).mp (Classical.not_not.mp c10))]; exact z)) (hV.mono (((MK.refl.up (by omega)).up (by omega)).trans hk8) (fun _ z => by rw [if_pos ⟨hin, Or.inr (Classical.not_not.mp c6)⟩, hr8]; simp only []; rw [if_neg (show ¬ t q = 42 by rw [(Classical.not_not.mp c6)]; decide), dvV, if_pos ((lg_eq _ _).mp (Classical.not_not.mp c10))]; exact z))
            · -- ('i', '(-1)')
              exact absurd hin hj7
        · -- ('i', '(-1)')
          exact absurd hin hj5
    · -- ('i', '(-1)')
      have hin : ¬ q < L := hj1
      show Go d 247 0 0 17 [.ref (ad 10 0), .long v, .retAddr 1, u3, u4, u5] [.int (-1)] (mm M (up2 f (ad 10 0) 85 (nI q)) g) R
      refine go_blk 1 [] (pc' := 19) (vs' := [.ref (ad 10 0), .long v, .retAddr 1, u3, u4, u5]) (st' := [.int 42, .int (-1)]) (M' := mm M (up2 f (ad 10 0) 85 (nI q)) g) (ps := []) rfl trivial ?_
      refine go_icmp rfl (fun (z : ((-1) : Int32) = 42) => absurd z (show ¬ (((-1) : Int32) = 42) from (by decide))) (fun _ => ?_)
      refine go_blk 1 [] (pc' := 23) (vs' := [.ref (ad 10 0), .long v, .retAddr 1, u3, u4, u5]) (st' := [.ref (ad 10 0)]) (M' := mm M (up2 f (ad 10 0) 85 (nI q)) g) (ps := []) rfl trivial ?_
      refine go_callV rfl rfl rfl (by omega) rfl (by decide) (by decide) hX.m.1 ?_
      refine s_Mo_lookS (i := q) (hX.keep (MK.refl.up (by omega))) (by omega) hqq (up2_s _ _ _ _) (fun hj11 => ⟨ne_i, ?_⟩) (fun hj11 => ⟨ne_i, ?_⟩)
      · -- ('i', 't q')
        exact absurd hj11 hin
      · -- ('i', '(-1)')
        show Go d 247 0 0 26 [.ref (ad 10 0), .long v, .retAddr 1, u3, u4, u5] [.int (-1)] (mm M (up2 f (ad 10 0) 85 (nI q)) g) R
        refine go_blk 1 [] (pc' := 28) (vs' := [.ref (ad 10 0), .long v, .retAddr 1, u3, u4, u5]) (st' := [.int 47, .int (-1)]) (M' := mm M (up2 f (ad 10 0) 85 (nI q)) g) (ps := []) rfl trivial ?_
        refine go_icmp rfl (fun _ => ?_) (fun (z : ¬ (¬ ((-1) : Int32) = 47)) => absurd (show ¬ ((-1) : Int32) = 47 from (by decide)) z)
        refine go_blk 1 [] (pc' := 96) (vs' := [.ref (ad 10 0), .long v, .retAddr 1, u3, u4, u5]) (st' := [.long v]) (M' := mm M (up2 f (ad 10 0) 85 (nI q)) g) (ps := []) rfl trivial ?_
        refine go_lret rfl rfl ?_
        exact hV v q _ (if_neg (fun z => hin z.1)) (MK.refl.up (by omega)) ⟨(up2_s _ _ _ _), (((up2_n _ _ (fun z => absurd z.2 (by decide))).trans (rfl)).trans hf), (((up2_n _ _ (fun z => absurd z.2 (by decide))).trans (rfl)).trans hdp)⟩

set_option maxRecDepth 100000 in
theorem prodC {d : Nat} {M : Mem} {g : Nat → Nat → Int64} {ad : Nat → Nat → Nat} {A fr L j : Nat} {t : Nat → Int32} {lv : Int32 → Int64} {dp : Nat} {paren : Nat → PR} (hd : 2 ≤ d) (hA : CallC 246 M g ad A fr L t lv j dp (d - 1) (atomM t L lv paren)) (hg : ∀ i, i ≤ L → ∀ v k, atomM t L lv paren i = .inr (v, k) → i < k ∧ k ≤ L) : CallC 247 M g ad A fr L t lv j dp d (prodM t L lv paren) := by
  intro f R i hi hX hP hE hV
  have hL0 := hX.1.2.2.2.2.2.2.1
  unfold prodM at hE hV
  show Go d 247 0 0 0 [.ref (ad 10 0), .retAddr 0, .retAddr 0, .retAddr 0, .retAddr 0, .retAddr 0] [] (mm M f g) R
  refine go_blk 1 [] (pc' := 1) (vs' := [.ref (ad 10 0), .retAddr 0, .retAddr 0, .retAddr 0, .retAddr 0, .retAddr 0]) (st' := [.ref (ad 10 0)]) (M' := mm M f g) (ps := []) rfl trivial ?_
  refine go_callV rfl rfl rfl (by omega) rfl (by decide) (by decide) hX.m.1 ?_
  refine hA _ _ i hi hX hP (fun e1 w1 f1 hr1 hl1 hk1 hf1 => ⟨ne_l, ?_⟩) (fun w1 k1 f1 hr1 hk1 hp1 => ⟨ne_l, ?_⟩)
  · -- ('j', 'w#')
    show Go d 247 0 0 4 [.ref (ad 10 0), .retAddr 0, .retAddr 0, .retAddr 0, .retAddr 0, .retAddr 0] [.long w1] (mm M f1 g) R
    refine go_blk 1 [] (pc' := 5) (vs' := [.ref (ad 10 0), .long w1, .retAddr 1, .retAddr 0, .retAddr 0, .retAddr 0]) (st' := []) (M' := mm M f1 g) (ps := []) rfl trivial ?_
    rw [hr1] at hE
    exact lpF_Mo_product hX.m hf1 hl1 (hE e1 _ _ rfl hl1 hk1 hf1)
  · -- ('j', 'w#')
    show Go d 247 0 0 4 [.ref (ad 10 0), .retAddr 0, .retAddr 0, .retAddr 0, .retAddr 0, .retAddr 0] [.long w1] (mm M f1 g) R
    refine go_blk 1 [] (pc' := 5) (vs' := [.ref (ad 10 0), .long w1, .retAddr 1, .retAddr 0, .retAddr 0, .retAddr 0]) (st' := []) (M' := mm M f1 g) (ps := []) rfl trivial ?_
    rw [hr1] at hE hV
    exact lp_Mo_product hd hA hg (L + 1) _ k1 f1 R _ _ _ (hg i hi w1 k1 hr1).2 (by omega) (hX.keep hk1) hp1 (hE.mono hk1 (fun _ z => z)) (hV.mono hk1 (fun _ z => z))

set_option maxRecDepth 100000 in
theorem lpF_Mo_sums {d : Nat} {M : Mem} {f : Nat → Nat → Int32} {g : Nat → Nat → Int64} {ad : Nat → Nat → Nat} {R : Option Value → Mem → Prop} {v : Int64} {e : Nat} {u3 u4 u5 : Value} (hM : Mx M ad) (hf : f (ad 10 0) 86 = nI e) (he : e ≤ 120) (hR : R (some (.long v)) (mm M f g)) : Go d 248 0 0 5 [.ref (ad 10 0), .long v, .retAddr 1, u3, u4, u5] [] (mm M f g) R := by
  show Go d 248 0 0 5 [.ref (ad 10 0), .long v, .retAddr 1, u3, u4, u5] [] (mm M f g) R
  refine go_blk 3 [some (.int (nI e))] (pc' := 10) (vs' := [.ref (ad 10 0), .long v, .retAddr 1, u3, u4, u5]) (st' := [.int (-1), .int (nI e)]) (M' := mm M f g) (ps := [ob (mm M f g) (ad 10 0) 12, (Value.int (f (ad 10 0) 86)) = .int (nI e)]) rfl ⟨hM.1, congrArg Value.int hf, trivial⟩ ?_
  refine go_icmp rfl (fun _ => ?_) (fun (z : ¬ (¬ (nI e) = (-1))) => absurd (show ¬ (nI e) = (-1) from (nI_m1 (n := e) (by omega))) z)
  refine go_blk 1 [] (pc' := 85) (vs' := [.ref (ad 10 0), .long v, .retAddr 1, u3, u4, u5]) (st' := [.long v]) (M' := mm M f g) (ps := []) rfl trivial ?_
  refine go_lret rfl rfl ?_
  exact hR

set_option maxRecDepth 100000 in
theorem lp_Mo_sums {d : Nat} {M : Mem} {g : Nat → Nat → Int64} {ad : Nat → Nat → Nat} {A fr L j : Nat} {t : Nat → Int32} {lv : Int32 → Int64} {dp : Nat} {paren : Nat → PR} (hd : 2 ≤ d) (hA : CallC 247 M g ad A fr L t lv j dp (d - 1) (prodM t L lv paren)) (hg : ∀ i, i ≤ L → ∀ v k, prodM t L lv paren i = .inr (v, k) → i < k ∧ k ≤ L) : ∀ (m : Nat) (v : Int64) (i : Nat) (f : Nat → Nat → Int32) (R : Option Value → Mem → Prop) (u3 u4 u5 : Value), i ≤ L → L < i + m → MX M ad A fr L t lv j f → PS ad f i dp → CE M g ad f (sumL t L lv paren m v i) R → CV M g ad f dp (sumL t L lv paren m v i) R → Go d 248 0 0 5 [.ref (ad 10 0), .long v, .retAddr 1, u3, u4, u5] [] (mm M f g) R := by
  intro m
  induction m with
  | zero => intro v i f R u3 u4 u5 h1 h2; omega
  | succ m ih =>
    intro v i f R u3 u4 u5 hi hm hX hP hE hV
    obtain ⟨ha, hf, hdp⟩ := hP
    have hL0 := hX.1.2.2.2.2.2.2.1
    obtain ⟨q, hq⟩ : ∃ q, sk t L i = q := ⟨_, rfl⟩
    have hqq : sk t L q = q := by rw [← hq]; exact sk_sk hi
    have hqL : q ≤ L := by rw [← hq]; exact (sk_ge hi).2
    have hqi : i ≤ q := by rw [← hq]; exact (sk_ge hi).1
    rw [sumL, hq] at hE hV
    show Go d 248 0 0 5 [.ref (ad 10 0), .long v, .retAddr 1, u3, u4, u5] [] (mm M f g) R
    refine go_blk 3 [some (.int (-1))] (pc' := 10) (vs' := [.ref (ad 10 0), .long v, .retAddr 1, u3, u4, u5]) (st' := [.int (-1), .int (-1)]) (M' := mm M f g) (ps := [ob (mm M f g) (ad 10 0) 12, (Value.int (f (ad 10 0) 86)) = .int (-1)]) rfl ⟨hX.m.1, congrArg Value.int hf, trivial⟩ ?_
    refine go_icmp rfl (fun (z : ¬ ((-1) : Int32) = (-1)) => absurd z (show ¬ (¬ ((-1) : Int32) = (-1)) from (by decide))) (fun _ => ?_)
    refine go_blk 1 [] (pc' := 14) (vs' := [.ref (ad 10 0), .long v, .retAddr 1, u3, u4, u5]) (st' := [.ref (ad 10 0)]) (M' := mm M f g) (ps := []) rfl trivial ?_
    refine go_callV rfl rfl rfl (by omega) rfl (by decide) (by decide) hX.m.1 ?_
    refine s_Mo_lookQ (i := i) (q := q) hX hi ha hq (fun hj1 => ⟨ne_i, ?_⟩) (fun hj1 => ⟨ne_i, ?_⟩)
    · -- ('i', 't q')
      have hin : q < L := hj1
      show Go d 248 0 0 17 [.ref (ad 10 0), .long v, .retAddr 1, u3, u4, u5] [.int (t q)] (mm M (up2 f (ad 10 0) 85 (nI q)) g) R
      refine go_blk 1 [] (pc' := 19) (vs' := [.ref (ad 10 0), .long v, .retAddr 1, u3, u4, u5]) (st' := [.int 43, .int (t q)]) (M' := mm M (up2 f (ad 10 0) 85 (nI q)) g) (ps := []) rfl trivial ?_
      refine go_icmp rfl (fun (c2 : (t q) = 43) => ?_) (fun (c2 : ¬ ((t q) = 43)) => ?_)
      · -- (t q) = 43
        refine go_blk 1 [] (pc' := 32) (vs' := [.ref (ad 10 0), .long v, .retAddr 1, u3, u4, u5]) (st' := [.ref (ad 10 0)]) (M' := mm M (up2 f (ad 10 0) 85 (nI q)) g) (ps := []) rfl trivial ?_
        refine go_callV rfl rfl rfl (by omega) rfl (by decide) (by decide) hX.m.1 ?_
        refine s_Mo_lookS (i := q) (hX.keep (MK.refl.up (by omega))) (by omega) hqq (up2_s _ _ _ _) (fun hj3 => ⟨ne_i, ?_⟩) (fun hj3 => ⟨ne_i, ?_⟩)
        · -- ('i', 't q')
          show Go d 248 0 0 35 [.ref (ad 10 0), .long v, .retAddr 1, u3, u4, u5] [.int (t q)] (mm M (up2 f (ad 10 0) 85 (nI q)) g) R
          refine go_blk 1 [] (pc' := 37) (vs' := [.ref (ad 10 0), .long v, .retAddr 1, u3, u4, u5]) (st' := [.int 43, .int (t q)]) (M' := mm M (up2 f (ad 10 0) 85 (nI q)) g) (ps := []) rfl trivial ?_
          refine go_icmp rfl (fun (z : ¬ (t q) = 43) => absurd z (show ¬ (¬ (t q) = 43) from (not_not_intro c2))) (fun _ => ?_)
          refine go_blk 10 [some (.int (nI q))] (pc' := 57) (vs' := [.ref (ad 10 0), .long v, .retAddr 1, .int 1, u4, u5]) (st' := [.ref (ad 10 0)]) (M' := mm M (up2 (up2 f (ad 10 0) 85 (nI q)) (ad 10 0) 85 ((nI q) + 1)) g) (ps := [(.ref (ad 10 0) : Value).category = 1, ob (mm M (up2 f (ad 10 0) 85 (nI q)) g) (ad 10 0) 12, (Value.int ((up2 f (ad 10 0) 85 (nI q)) (ad 10 0) 85)) = .int (nI q), ob (mm M (up2 f (ad 10 0) 85 (nI q)) g) (ad 10 0) 12]) rfl ⟨rfl, hX.m.1, congrArg Value.int (up2_s _ _ _ _), hX.m.1, trivial⟩ ?_
          refine go_callV rfl rfl rfl (by omega) rfl (by decide) (by decide) hX.m.1 ?_
          refine hA _ _ (q + 1) (by omega) (hX.keep ((MK.refl.up (by omega)).up (by omega))) ⟨((up2_s _ _ _ _).trans (nI_add q 1)), (((up2_n _ _ (fun z => absurd z.2 (by decide))).trans ((up2_n _ _ (fun z => absurd z.2 (by decide))).trans (rfl))).trans hf), (((up2_n _ _ (fun z => absurd z.2 (by decide))).trans ((up2_n _ _ (fun z => absurd z.2 (by decide))).trans (rfl))).trans hdp)⟩ (fun e4 w4 f4 hr4 hl4 hk4 hf4 => ⟨ne_l, ?_⟩) (fun w4 k4 f4 hr4 hk4 hp4 => ⟨ne_l, ?_⟩)
          · -- ('j', 'w#')
            show Go d 248 0 0 60 [.ref (ad 10 0), .long v, .retAddr 1, .int 1, u4, u5] [.long w4] (mm M f4 g) R
            refine go_blk 2 [] (pc' := 63) (vs' := [.ref (ad 10 0), .long v, .retAddr 1, .int 1, .long w4, .retAddr 1]) (st' := [.int 1]) (M' := mm M f4 g) (ps := []) rfl trivial ?_
            refine go_if rfl (fun (z : (1 : Int32) = 0) => absurd z (show ¬ ((1 : Int32) = 0) from (by decide))) (fun _ => ?_)
            refine go_blk 4 [] (pc' := 77) (vs' := [.ref (ad 10 0), .long v, .retAddr 1, .int 1, .long w4, .retAddr 1]) (st' := [.long (v + w4)]) (M' := mm M f4 g) (ps := []) rfl trivial ?_
            refine go_callS rfl (by decide) rfl rfl (by omega) rfl (by decide) (by decide) ?_
            refine s_Mo_bound (by omega) ⟨ne_l, ?_⟩
            show Go d 248 0 0 80 [.ref (ad 10 0), .long v, .retAddr 1, .int 1, .long w4, .retAddr 1] [.long (bdV (v + w4))] (mm M f4 g) R
            refine go_blk 2 [] (pc' := 5) (vs' := [.ref (ad 10 0), .long (bdV (v + w4)), .retAddr 1, .int 1, .long w4, .retAddr 1]) (st' := []) (M' := mm M f4 g) (ps := []) rfl trivial ?_
            exact lpF_Mo_sums hX.m hf4 hl4 (hE e4 _ _ (by rw [if_pos ⟨hin, Or.inl c2⟩, hr4]) hl4 (((MK.refl.up (by omega)).up (by omega)).trans hk4) hf4)
          · -- ('j', 'w#')
            obtain ⟨ha4, hf4, hdp4⟩ := hp4
            obtain ⟨hg14, hg24⟩ := hg (q + 1) (by omega) w4 k4 hr4
            show Go d 248 0 0 60 [.ref (ad 10 0), .long v, .retAddr 1, .int 1, u4, u5] [.long w4] (mm M f4 g) R
            refine go_blk 2 [] (pc' := 63) (vs' := [.ref (ad 10 0), .long v, .retAddr 1, .int 1, .long w4, .retAddr 1]) (st' := [.int 1]) (M' := mm M f4 g) (ps := []) rfl trivial ?_
            refine go_if rfl (fun (z : (1 : Int32) = 0) => absurd z (show ¬ ((1 : Int32) = 0) from (by decide))) (fun _ => ?_)
            refine go_blk 4 [] (pc' := 77) (vs' := [.ref (ad 10 0), .long v, .retAddr 1, .int 1, .long w4, .retAddr 1]) (st' := [.long (v + w4)]) (M' := mm M f4 g) (ps := []) rfl trivial ?_
            refine go_callS rfl (by decide) rfl rfl (by omega) rfl (by decide) (by decide) ?_
            refine s_Mo_bound (by omega) ⟨ne_l, ?_⟩
            show Go d 248 0 0 80 [.ref (ad 10 0), .long v, .retAddr 1, .int 1, .long w4, .retAddr 1] [.long (bdV (v + w4))] (mm M f4 g) R
            refine go_blk 2 [] (pc' := 5) (vs' := [.ref (ad 10 0), .long (bdV (v + w4)), .retAddr 1, .int 1, .long w4, .retAddr 1]) (st' := []) (M' := mm M f4 g) (ps := []) rfl trivial ?_
            exact ih _ k4 f4 R _ _ _ hg24 (by omega) (hX.keep (((MK.refl.up (by omega)).up (by omega)).trans hk4)) ⟨ha4, hf4, hdp4⟩ (hE.mono (((MK.refl.up (by omega)).up (by omega)).trans hk4) (fun _ z => by rw [if_pos ⟨hin, Or.inl c2⟩, hr4]; simp only []; rw [if_pos c2]; exact z)) (hV.mono (((MK.refl.up (by omega)).up (by omega)).trans hk4) (fun _ z => by rw [if_pos ⟨hin, Or.inl c2⟩, hr4]; simp only []; rw [if_pos c2]; exact z))
        · -- ('i', '(-1)')
          exact absurd hin hj3
      · -- ¬ ((t q) = 43)
        refine go_blk 1 [] (pc' := 23) (vs' := [.ref (ad 10 0), .long v, .retAddr 1, u3, u4, u5]) (st' := [.ref (ad 10 0)]) (M' := mm M (up2 f (ad 10 0) 85 (nI q)) g) (ps := []) rfl trivial ?_
        refine go_callV rfl rfl rfl (by omega) rfl (by decide) (by decide) hX.m.1 ?_
        refine s_Mo_lookS (i := q) (hX.keep (MK.refl.up (by omega))) (by omega) hqq (up2_s _ _ _ _) (fun hj5 => ⟨ne_i, ?_⟩) (fun hj5 => ⟨ne_i, ?_⟩)
        · -- ('i', 't q')
          show Go d 248 0 0 26 [.ref (ad 10 0), .long v, .retAddr 1, u3, u4, u5] [.int (t q)] (mm M (up2 f (ad 10 0) 85 (nI q)) g) R
          refine go_blk 1 [] (pc' := 28) (vs' := [.ref (ad 10 0), .long v, .retAddr 1, u3, u4, u5]) (st' := [.int 45, .int (t q)]) (M' := mm M (up2 f (ad 10 0) 85 (nI q)) g) (ps := []) rfl trivial ?_
          refine go_icmp rfl (fun (c6 : ¬ (t q) = 45) => ?_) (fun (c6 : ¬ (¬ (t q) = 45)) => ?_)
          · -- ¬ (t q) = 45
            refine go_blk 1 [] (pc' := 85) (vs' := [.ref (ad 10 0), .long v, .retAddr 1, u3, u4, u5]) (st' := [.long v]) (M' := mm M (up2 f (ad 10 0) 85 (nI q)) g) (ps := []) rfl trivial ?_
            refine go_lret rfl rfl ?_
            exact hV v q _ (if_neg (fun z => by rcases z.2 with y | y; exact c2 y; exact c6 y)) (MK.refl.up (by omega)) ⟨(up2_s _ _ _ _), (((up2_n _ _ (fun z => absurd z.2 (by decide))).trans (rfl)).trans hf), (((up2_n _ _ (fun z => absurd z.2 (by decide))).trans (rfl)).trans hdp)⟩
          · -- ¬ (¬ (t q) = 45)
            refine go_blk 1 [] (pc' := 32) (vs' := [.ref (ad 10 0), .long v, .retAddr 1, u3, u4, u5]) (st' := [.ref (ad 10 0)]) (M' := mm M (up2 f (ad 10 0) 85 (nI q)) g) (ps := []) rfl trivial ?_
            refine go_callV rfl rfl rfl (by omega) rfl (by decide) (by decide) hX.m.1 ?_
            refine s_Mo_lookS (i := q) (hX.keep (MK.refl.up (by omega))) (by omega) hqq (up2_s _ _ _ _) (fun hj7 => ⟨ne_i, ?_⟩) (fun hj7 => ⟨ne_i, ?_⟩)
            · -- ('i', 't q')
              show Go d 248 0 0 35 [.ref (ad 10 0), .long v, .retAddr 1, u3, u4, u5] [.int (t q)] (mm M (up2 f (ad 10 0) 85 (nI q)) g) R
              refine go_blk 1 [] (pc' := 37) (vs' := [.ref (ad 10 0), .long v, .retAddr 1, u3, u4, u5]) (st' := [.int 43, .int (t q)]) (M' := mm M (up2 f (ad 10 0) 85 (nI q)) g) (ps := []) rfl trivial ?_
              refine go_icmp rfl (fun _ => ?_) (fun (z : ¬ (¬ (t q) = 43)) => absurd (show ¬ (t q) = 43 from c2) z)
              refine go_blk 9 [some (.int (nI q))] (pc' := 57) (vs' := [.ref (ad 10 0), .long v, .retAddr 1, .int 0, u4, u5]) (st' := [.ref (ad 10 0)]) (M' := mm M (up2 (up2 f (ad 10 0) 85 (nI q)) (ad 10 0) 85 ((nI q) + 1)) g) (ps := [(.ref (ad 10 0) : Value).category = 1, ob (mm M (up2 f (ad 10 0) 85 (nI q)) g) (ad 10 0) 12, (Value.int ((up2 f (ad 10 0) 85 (nI q)) (ad 10 0) 85)) = .int (nI q), ob (mm M (up2 f (ad 10 0) 85 (nI q)) g) (ad 10 0) 12]) rfl ⟨rfl, hX.m.1, congrArg Value.int (up2_s _ _ _ _), hX.m.1, trivial⟩ ?_
              refine go_callV rfl rfl rfl (by omega) rfl (by decide) (by decide) hX.m.1 ?_
              refine hA _ _ (q + 1) (by omega) (hX.keep ((MK.refl.up (by omega)).up (by omega))) ⟨((up2_s _ _ _ _).trans (nI_add q 1)), (((up2_n _ _ (fun z => absurd z.2 (by decide))).trans ((up2_n _ _ (fun z => absurd z.2 (by decide))).trans (rfl))).trans hf), (((up2_n _ _ (fun z => absurd z.2 (by decide))).trans ((up2_n _ _ (fun z => absurd z.2 (by decide))).trans (rfl))).trans hdp)⟩ (fun e8 w8 f8 hr8 hl8 hk8 hf8 => ⟨ne_l, ?_⟩) (fun w8 k8 f8 hr8 hk8 hp8 => ⟨ne_l, ?_⟩)
              · -- ('j', 'w#')
                show Go d 248 0 0 60 [.ref (ad 10 0), .long v, .retAddr 1, .int 0, u4, u5] [.long w8] (mm M f8 g) R
                refine go_blk 2 [] (pc' := 63) (vs' := [.ref (ad 10 0), .long v, .retAddr 1, .int 0, .long w8, .retAddr 1]) (st' := [.int 0]) (M' := mm M f8 g) (ps := []) rfl trivial ?_
                refine go_if rfl (fun _ => ?_) (fun (z : ¬ ((0 : Int32) = 0)) => absurd (show (0 : Int32) = 0 from (by decide)) z)
                refine go_blk 3 [] (pc' := 77) (vs' := [.ref (ad 10 0), .long v, .retAddr 1, .int 0, .long w8, .retAddr 1]) (st' := [.long (v - w8)]) (M' := mm M f8 g) (ps := []) rfl trivial ?_
                refine go_callS rfl (by decide) rfl rfl (by omega) rfl (by decide) (by decide) ?_
                refine s_Mo_bound (by omega) ⟨ne_l, ?_⟩
                show Go d 248 0 0 80 [.ref (ad 10 0), .long v, .retAddr 1, .int 0, .long w8, .retAddr 1] [.long (bdV (v - w8))] (mm M f8 g) R
                refine go_blk 2 [] (pc' := 5) (vs' := [.ref (ad 10 0), .long (bdV (v - w8)), .retAddr 1, .int 0, .long w8, .retAddr 1]) (st' := []) (M' := mm M f8 g) (ps := []) rfl trivial ?_
                exact lpF_Mo_sums hX.m hf8 hl8 (hE e8 _ _ (by rw [if_pos ⟨hin, Or.inr (Classical.not_not.mp c6)⟩, hr8]) hl8 (((MK.refl.up (by omega)).up (by omega)).trans hk8) hf8)
              · -- ('j', 'w#')
                obtain ⟨ha8, hf8, hdp8⟩ := hp8
                obtain ⟨hg18, hg28⟩ := hg (q + 1) (by omega) w8 k8 hr8
                show Go d 248 0 0 60 [.ref (ad 10 0), .long v, .retAddr 1, .int 0, u4, u5] [.long w8] (mm M f8 g) R
                refine go_blk 2 [] (pc' := 63) (vs' := [.ref (ad 10 0), .long v, .retAddr 1, .int 0, .long w8, .retAddr 1]) (st' := [.int 0]) (M' := mm M f8 g) (ps := []) rfl trivial ?_
                refine go_if rfl (fun _ => ?_) (fun (z : ¬ ((0 : Int32) = 0)) => absurd (show (0 : Int32) = 0 from (by decide)) z)
                refine go_blk 3 [] (pc' := 77) (vs' := [.ref (ad 10 0), .long v, .retAddr 1, .int 0, .long w8, .retAddr 1]) (st' := [.long (v - w8)]) (M' := mm M f8 g) (ps := []) rfl trivial ?_
                refine go_callS rfl (by decide) rfl rfl (by omega) rfl (by decide) (by decide) ?_
                refine s_Mo_bound (by omega) ⟨ne_l, ?_⟩
                show Go d 248 0 0 80 [.ref (ad 10 0), .long v, .retAddr 1, .int 0, .long w8, .retAddr 1] [.long (bdV (v - w8))] (mm M f8 g) R
                refine go_blk 2 [] (pc' := 5) (vs' := [.ref (ad 10 0), .long (bdV (v - w8)), .retAddr 1, .int 0, .long w8, .retAddr 1]) (st' := []) (M' := mm M f8 g) (ps := []) rfl trivial ?_
                exact ih _ k8 f8 R _ _ _ hg28 (by omega) (hX.keep (((MK.refl.up (by omega)).up (by omega)).trans hk8)) ⟨ha8, hf8, hdp8⟩ (hE.mono (((MK.refl.up (by omega)).up (by omega)).trans hk8) (fun _ z => by rw [if_pos ⟨hin, Or.inr (Classical.not_not.mp c6)⟩, hr8]; simp only []; rw [if_neg (show ¬ t q = 43 by rw [(Classical.not_not.mp c6)]; decide)]; exact z)) (hV.mono (((MK.refl.up (by omega)).up (by omega)).trans hk8) (fun _ z => by rw [if_pos ⟨hin, Or.inr (Classical.not_not.mp c6)⟩, hr8]; simp only []; rw [if_neg (show ¬ t q = 43 by rw [(Classical.not_not.mp c6)]; decide)]; exact z))
            · -- ('i', '(-1)')
              exact absurd hin hj7
        · -- ('i', '(-1)')
          exact absurd hin hj5
    · -- ('i', '(-1)')
      have hin : ¬ q < L := hj1
      show Go d 248 0 0 17 [.ref (ad 10 0), .long v, .retAddr 1, u3, u4, u5] [.int (-1)] (mm M (up2 f (ad 10 0) 85 (nI q)) g) R
      refine go_blk 1 [] (pc' := 19) (vs' := [.ref (ad 10 0), .long v, .retAddr 1, u3, u4, u5]) (st' := [.int 43, .int (-1)]) (M' := mm M (up2 f (ad 10 0) 85 (nI q)) g) (ps := []) rfl trivial ?_
      refine go_icmp rfl (fun (z : ((-1) : Int32) = 43) => absurd z (show ¬ (((-1) : Int32) = 43) from (by decide))) (fun _ => ?_)
      refine go_blk 1 [] (pc' := 23) (vs' := [.ref (ad 10 0), .long v, .retAddr 1, u3, u4, u5]) (st' := [.ref (ad 10 0)]) (M' := mm M (up2 f (ad 10 0) 85 (nI q)) g) (ps := []) rfl trivial ?_
      refine go_callV rfl rfl rfl (by omega) rfl (by decide) (by decide) hX.m.1 ?_
      refine s_Mo_lookS (i := q) (hX.keep (MK.refl.up (by omega))) (by omega) hqq (up2_s _ _ _ _) (fun hj9 => ⟨ne_i, ?_⟩) (fun hj9 => ⟨ne_i, ?_⟩)
      · -- ('i', 't q')
        exact absurd hj9 hin
      · -- ('i', '(-1)')
        show Go d 248 0 0 26 [.ref (ad 10 0), .long v, .retAddr 1, u3, u4, u5] [.int (-1)] (mm M (up2 f (ad 10 0) 85 (nI q)) g) R
        refine go_blk 1 [] (pc' := 28) (vs' := [.ref (ad 10 0), .long v, .retAddr 1, u3, u4, u5]) (st' := [.int 45, .int (-1)]) (M' := mm M (up2 f (ad 10 0) 85 (nI q)) g) (ps := []) rfl trivial ?_
        refine go_icmp rfl (fun _ => ?_) (fun (z : ¬ (¬ ((-1) : Int32) = 45)) => absurd (show ¬ ((-1) : Int32) = 45 from (by decide)) z)
        refine go_blk 1 [] (pc' := 85) (vs' := [.ref (ad 10 0), .long v, .retAddr 1, u3, u4, u5]) (st' := [.long v]) (M' := mm M (up2 f (ad 10 0) 85 (nI q)) g) (ps := []) rfl trivial ?_
        refine go_lret rfl rfl ?_
        exact hV v q _ (if_neg (fun z => hin z.1)) (MK.refl.up (by omega)) ⟨(up2_s _ _ _ _), (((up2_n _ _ (fun z => absurd z.2 (by decide))).trans (rfl)).trans hf), (((up2_n _ _ (fun z => absurd z.2 (by decide))).trans (rfl)).trans hdp)⟩

set_option maxRecDepth 100000 in
theorem sumC {d : Nat} {M : Mem} {g : Nat → Nat → Int64} {ad : Nat → Nat → Nat} {A fr L j : Nat} {t : Nat → Int32} {lv : Int32 → Int64} {dp : Nat} {paren : Nat → PR} (hd : 2 ≤ d) (hA : CallC 247 M g ad A fr L t lv j dp (d - 1) (prodM t L lv paren)) (hg : ∀ i, i ≤ L → ∀ v k, prodM t L lv paren i = .inr (v, k) → i < k ∧ k ≤ L) : CallC 248 M g ad A fr L t lv j dp d (sumM t L lv paren) := by
  intro f R i hi hX hP hE hV
  have hL0 := hX.1.2.2.2.2.2.2.1
  unfold sumM at hE hV
  show Go d 248 0 0 0 [.ref (ad 10 0), .retAddr 0, .retAddr 0, .retAddr 0, .retAddr 0, .retAddr 0] [] (mm M f g) R
  refine go_blk 1 [] (pc' := 1) (vs' := [.ref (ad 10 0), .retAddr 0, .retAddr 0, .retAddr 0, .retAddr 0, .retAddr 0]) (st' := [.ref (ad 10 0)]) (M' := mm M f g) (ps := []) rfl trivial ?_
  refine go_callV rfl rfl rfl (by omega) rfl (by decide) (by decide) hX.m.1 ?_
  refine hA _ _ i hi hX hP (fun e1 w1 f1 hr1 hl1 hk1 hf1 => ⟨ne_l, ?_⟩) (fun w1 k1 f1 hr1 hk1 hp1 => ⟨ne_l, ?_⟩)
  · -- ('j', 'w#')
    show Go d 248 0 0 4 [.ref (ad 10 0), .retAddr 0, .retAddr 0, .retAddr 0, .retAddr 0, .retAddr 0] [.long w1] (mm M f1 g) R
    refine go_blk 1 [] (pc' := 5) (vs' := [.ref (ad 10 0), .long w1, .retAddr 1, .retAddr 0, .retAddr 0, .retAddr 0]) (st' := []) (M' := mm M f1 g) (ps := []) rfl trivial ?_
    rw [hr1] at hE
    exact lpF_Mo_sums hX.m hf1 hl1 (hE e1 _ _ rfl hl1 hk1 hf1)
  · -- ('j', 'w#')
    show Go d 248 0 0 4 [.ref (ad 10 0), .retAddr 0, .retAddr 0, .retAddr 0, .retAddr 0, .retAddr 0] [.long w1] (mm M f1 g) R
    refine go_blk 1 [] (pc' := 5) (vs' := [.ref (ad 10 0), .long w1, .retAddr 1, .retAddr 0, .retAddr 0, .retAddr 0]) (st' := []) (M' := mm M f1 g) (ps := []) rfl trivial ?_
    rw [hr1] at hE hV
    exact lp_Mo_sums hd hA hg (L + 1) _ k1 f1 R _ _ _ (hg i hi w1 k1 hr1).2 (by omega) (hX.keep hk1) hp1 (hE.mono hk1 (fun _ z => z)) (hV.mono hk1 (fun _ z => z))

theorem atom_g {t : Nat → Int32} {L : Nat} {lv : Int32 → Int64} {r dp : Nat} (h : r + dp = 6) : ∀ i, i ≤ L → ∀ v k, atomM t L lv (parR t L lv r) i = .inr (v, k) → i < k ∧ k ≤ L := fun i hi v k he => by
  have z := (atom_fl (p := 0) (dp := dp) hi (parR_fl (lv := lv) (t := t) (L := L) r dp h)).2 v k he
  exact ⟨z.1, z.2.1⟩
theorem prod_g {t : Nat → Int32} {L : Nat} {lv : Int32 → Int64} {r dp : Nat} (h : r + dp = 6) : ∀ i, i ≤ L → ∀ v k, prodM t L lv (parR t L lv r) i = .inr (v, k) → i < k ∧ k ≤ L := fun i hi v k he => by
  have z := (prodM_fl (p := 0) (dp := dp) hi (fun i hi => atom_fl hi (parR_fl (lv := lv) (t := t) (L := L) r dp h))).1.2 v k he
  exact ⟨z.1, z.2.1⟩
theorem sum_g {t : Nat → Int32} {L : Nat} {lv : Int32 → Int64} {r dp : Nat} (h : r + dp = 6) : ∀ i, i ≤ L → ∀ v k, sumM t L lv (parR t L lv r) i = .inr (v, k) → i < k ∧ k ≤ L ∧ sk t L k = k := fun i hi v k he => by
  have z := sum6r (t := t) (lv := lv) h hi
  exact ⟨(z.1.2 v k he).1, (z.1.2 v k he).2.1, (z.2 v k he).1⟩
theorem CallC.mono {id : Nat} {M : Mem} {g : Nat → Nat → Int64} {ad : Nat → Nat → Nat} {A fr L j : Nat} {t : Nat → Int32} {lv : Int32 → Int64} {dp d d' : Nat} {P : Nat → PR} (h : CallC id M g ad A fr L t lv j dp d P) (hd : d ≤ d') : CallC id M g ad A fr L t lv j dp d' P := fun f R i h1 h2 h3 h4 h5 => (h f R i h1 h2 h3 h4 h5).mono hd (fun _ _ z => z)
theorem sumsC {M : Mem} {g : Nat → Nat → Int64} {ad : Nat → Nat → Nat} {A fr L j : Nat} {t : Nat → Int32} {lv : Int32 → Int64} : ∀ (r dp d : Nat), r + dp = 6 → 4 * r + 8 ≤ d → CallC 248 M g ad A fr L t lv j dp d (sumM t L lv (parR t L lv r)) := by
  intro r
  induction r with
  | zero =>
    intro dp d h hd
    obtain rfl : dp = 6 := by omega
    exact sumC (by omega) (prodC (by omega) (atomC0 (by omega)) (atom_g h)) (prod_g h)
  | succ r ih =>
    intro dp d h hd
    exact sumC (by omega) (prodC (by omega) (atomCS h (ih (dp + 1) (d - 1 - 1 - 1) (by omega) (by omega)) (by omega)) (atom_g h)) (prod_g h)

