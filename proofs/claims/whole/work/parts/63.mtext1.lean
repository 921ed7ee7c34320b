/-! texts: the model's atoms, products and sums -/
def CE (M : Mem) (g : Nat → Nat → Int64) (ad : Nat → Nat → Nat) (f : Nat → Nat → Int32) (r : PR) (R : Option Value → Mem → Prop) : Prop := ∀ e w f', r = .inl e → e ≤ 120 → MK ad f f' → f' (ad 10 0) 86 = nI e → R (some (.long w)) (mm M f' g)
def CV (M : Mem) (g : Nat → Nat → Int64) (ad : Nat → Nat → Nat) (f : Nat → Nat → Int32) (dp : Nat) (r : PR) (R : Option Value → Mem → Prop) : Prop := ∀ v k f', r = .inr (v, k) → MK ad f f' → PS ad f' k dp → R (some (.long v)) (mm M f' g)
def CallC (id : Nat) (M : Mem) (g : Nat → Nat → Int64) (ad : Nat → Nat → Nat) (A fr L : Nat) (t : Nat → Int32) (lv : Int32 → Int64) (j dp d : Nat) (P : Nat → PR) : Prop := ∀ (f : Nat → Nat → Int32) (R : Option Value → Mem → Prop) (i : Nat), i ≤ L → MX M ad A fr L t lv j f → PS ad f i dp → CE M g ad f (P i) R → CV M g ad f dp (P i) R → Call d id [.ref (ad 10 0)] (mm M f g) R
theorem CE.mono {M : Mem} {g : Nat → Nat → Int64} {ad : Nat → Nat → Nat} {f f1 : Nat → Nat → Int32} {r r1 : PR} {R : Option Value → Mem → Prop} (h : CE M g ad f r R) (k : MK ad f f1) (e : ∀ x, r1 = .inl x → r = .inl x) : CE M g ad f1 r1 R := fun x w f' q l q1 q2 => h x w f' (e x q) l (k.trans q1) q2
theorem CV.mono {M : Mem} {g : Nat → Nat → Int64} {ad : Nat → Nat → Nat} {f f1 : Nat → Nat → Int32} {dp : Nat} {r r1 : PR} {R : Option Value → Mem → Prop} (h : CV M g ad f dp r R) (k : MK ad f f1) (e : ∀ x, r1 = .inr x → r = .inr x) : CV M g ad f1 dp r1 R := fun v x f' q q1 q2 => h v x f' (e _ q) (k.trans q1) q2
theorem s_Mo_lookQ {d : Nat} {M : Mem} {f : Nat → Nat → Int32} {g : Nat → Nat → Int64} {ad : Nat → Nat → Nat} {R : Option Value → Mem → Prop} {A fr L j : Nat} {t : Nat → Int32} {lv : Int32 → Int64} {i q : Nat} (hX : MX M ad A fr L t lv j f) (hi : i ≤ L) (ha : f (ad 10 0) 85 = nI i) (hq : sk t L i = q) (h1 : q < L → R (some (.int (t q))) (mm M (up2 f (ad 10 0) 85 (nI q)) g)) (h0 : ¬ q < L → R (some (.int (-1))) (mm M (up2 f (ad 10 0) 85 (nI q)) g)) : Call d 241 [.ref (ad 10 0)] (mm M f g) R := by
  subst hq; exact s_Mo_look0 hX hi ha h1 h0

set_option maxRecDepth 100000 in
theorem lp_Mo_num {d : Nat} {M : Mem} {g : Nat → Nat → Int64} {ad : Nat → Nat → Nat} {A fr L j : Nat} {t : Nat → Int32} {lv : Int32 → Int64} {dp : Nat} {x : Int32} (hd : 1 ≤ d) : ∀ (m c : Nat) (v : Int64) (i : Nat) (f : Nat → Nat → Int32) (R : Option Value → Mem → Prop), m + c = 5 → c ≤ 4 → i ≤ L → MX M ad A fr L t lv j f → PS ad f i dp → CE M g ad f (numN t L m c v i) R → CV M g ad f dp (numN t L m c v i) R → Go d 246 0 0 165 [.ref (ad 10 0), .int x, .long v, .retAddr 1, .int (nI c)] [] (mm M f g) R := by
  intro m
  induction m with
  | zero => intro c v i f R h1 h2; omega
  | succ m ih =>
    intro c v i f R hmc hc hi hX hP hE hV
    obtain ⟨ha, hf, hdp⟩ := hP
    have hL0 := hX.1.2.2.2.2.2.2.1
    rw [numN] at hE hV
    by_cases hq : i < L ∧ isDg (t i) = true
    · rw [if_pos hq] at hE hV
      by_cases c4 : c = 4
      · rw [if_pos c4] at hE hV
        subst c4
        show Go d 246 0 0 165 [.ref (ad 10 0), .int x, .long v, .retAddr 1, .int (nI 4)] [] (mm M f g) R
        refine go_blk 1 [] (pc' := 166) (vs' := [.ref (ad 10 0), .int x, .long v, .retAddr 1, .int (nI 4)]) (st' := [.ref (ad 10 0)]) (M' := mm M f g) (ps := []) rfl trivial ?_
        refine go_callV rfl rfl rfl (by omega) rfl (by decide) (by decide) hX.m.1 ?_
        refine s_Mo_isDigit hX hi ha (fun hd1 => ⟨ne_i, ?_⟩) (fun hd1 => ⟨ne_i, ?_⟩)
        · -- ('i', '1')
          show Go d 246 0 0 169 [.ref (ad 10 0), .int x, .long v, .retAddr 1, .int (nI 4)] [.int 1] (mm M f g) R
          refine go_if rfl (fun (z : (1 : Int32) = 0) => absurd z (show ¬ ((1 : Int32) = 0) from (by decide))) (fun _ => ?_)
          refine go_blk 2 [] (pc' := 175) (vs' := [.ref (ad 10 0), .int x, .long v, .retAddr 1, .int (nI 4)]) (st' := [.int 4, .int (nI 4)]) (M' := mm M f g) (ps := []) rfl trivial ?_
          refine go_icmp rfl (fun (z : ¬ (nI 4) = 4) => absurd z (show ¬ (¬ (nI 4) = 4) from (fun z => z rfl))) (fun _ => ?_)
          refine go_blk 1 [] (pc' := 179) (vs' := [.ref (ad 10 0), .int x, .long v, .retAddr 1, .int (nI 4)]) (st' := [.ref (ad 10 0)]) (M' := mm M f g) (ps := []) rfl trivial ?_
          refine go_callV rfl rfl rfl (by omega) rfl (by decide) (by decide) hX.m.1 ?_
          show Go (d - 1) 242 0 0 0 [.ref (ad 10 0)] [] (mm M f g) _
          refine go_blk 3 [some (.int (-1))] (pc' := 5) (vs' := [.ref (ad 10 0)]) (st' := [.int (-1), .int (-1)]) (M' := mm M f g) (ps := [ob (mm M f g) (ad 10 0) 12, (Value.int (f (ad 10 0) 86)) = .int (-1)]) rfl ⟨hX.m.1, congrArg Value.int hf, trivial⟩ ?_
          refine go_icmp rfl (fun (z : ¬ ((-1) : Int32) = (-1)) => absurd z (show ¬ (¬ ((-1) : Int32) = (-1)) from (by decide))) (fun _ => ?_)
          refine go_blk 5 [some (.int (nI i))] (pc' := 17) (vs' := [.ref (ad 10 0)]) (st' := [.long 0]) (M' := mm M (up2 f (ad 10 0) 86 (nI i)) g) (ps := [ob (mm M f g) (ad 10 0) 12, (Value.int (f (ad 10 0) 85)) = .int (nI i), ob (mm M f g) (ad 10 0) 12]) rfl ⟨hX.m.1, congrArg Value.int ha, hX.m.1, trivial⟩ ?_
          refine go_lret rfl rfl ?_
          refine ⟨ne_l, ?_⟩
          show Go d 246 0 0 182 [.ref (ad 10 0), .int x, .long v, .retAddr 1, .int (nI 4)] [.long 0] (mm M (up2 f (ad 10 0) 86 (nI i)) g) R
          refine go_lret rfl rfl ?_
          exact hE i _ _ rfl (by omega) (MK.refl.up (by omega)) (up2_s _ _ _ _)
        · -- ('i', '0')
          exact absurd hq hd1
      · rw [if_neg c4] at hE hV
        show Go d 246 0 0 165 [.ref (ad 10 0), .int x, .long v, .retAddr 1, .int (nI c)] [] (mm M f g) R
        refine go_blk 1 [] (pc' := 166) (vs' := [.ref (ad 10 0), .int x, .long v, .retAddr 1, .int (nI c)]) (st' := [.ref (ad 10 0)]) (M' := mm M f g) (ps := []) rfl trivial ?_
        refine go_callV rfl rfl rfl (by omega) rfl (by decide) (by decide) hX.m.1 ?_
        refine s_Mo_isDigit hX hi ha (fun hd1 => ⟨ne_i, ?_⟩) (fun hd1 => ⟨ne_i, ?_⟩)
        · -- ('i', '1')
          show Go d 246 0 0 169 [.ref (ad 10 0), .int x, .long v, .retAddr 1, .int (nI c)] [.int 1] (mm M f g) R
          refine go_if rfl (fun (z : (1 : Int32) = 0) => absurd z (show ¬ ((1 : Int32) = 0) from (by decide))) (fun _ => ?_)
          refine go_blk 2 [] (pc' := 175) (vs' := [.ref (ad 10 0), .int x, .long v, .retAddr 1, .int (nI c)]) (st' := [.int 4, .int (nI c)]) (M' := mm M f g) (ps := []) rfl trivial ?_
          refine go_icmp rfl (fun _ => ?_) (fun (z : ¬ (¬ (nI c) = 4)) => absurd (show ¬ (nI c) = 4 from (fun z => c4 ((nI_eqs (a := c) (b := 4) (by omega) (by decide)).mp z))) z)
          refine go_blk 24 [some (.ref A), some (.int (nI fr)), some (.int (nI i)), some (.int (t i)), some (.int (nI i))] (pc' := 165) (vs' := [.ref (ad 10 0), .int x, .long (((10 * v) + ((t i).toInt64)) - 48), .retAddr 1, .int ((nI c) + 1)]) (st' := []) (M' := mm M (up2 f (ad 10 0) 85 ((nI i) + 1)) g) (ps := [ob (mm M f g) (ad 10 0) 12, mR (mm M f g) (ad 10 0) 82 = some A, va_rf (some A) = .ref A, ob (mm M f g) (ad 10 0) 12, (Value.int (f (ad 10 0) 83)) = .int (nI fr), ob (mm M f g) (ad 10 0) 12, (Value.int (f (ad 10 0) 85)) = .int (nI i), ob (mm M f g) A 14, 14 = 13 ∨ 14 = 14, vp_in ((nI fr) + (nI i)) (mN (mm M f g) A), (Value.int (f A (((nI fr) + (nI i)).toNatClampNeg))) = .int (t i), (.ref (ad 10 0) : Value).category = 1, ob (mm M f g) (ad 10 0) 12, (Value.int (f (ad 10 0) 85)) = .int (nI i), ob (mm M f g) (ad 10 0) 12]) rfl ⟨hX.m.1, hX.1.2.2.2.1, rfl, hX.m.1, congrArg Value.int hX.2.1, hX.m.1, congrArg Value.int ha, hX.1.2.2.2.2.1, (by decide), (hX.ix hq.1).1, congrArg Value.int ((congrArg (fun z => f A z) (hX.ix hq.1).2).trans ((hX.byte hq.1).2.2.2 hq.2)), rfl, hX.m.1, congrArg Value.int ha, hX.m.1, trivial⟩ ?_
          rw [show nI c + 1 = nI (c + 1) from nI_add c 1]
          exact ih (c + 1) _ (i + 1) _ R (by omega) (by omega) (by omega) (hX.keep (MK.refl.up (by omega))) ⟨((up2_s _ _ _ _).trans (nI_add i 1)), (((up2_n _ _ (fun z => absurd z.2 (by decide))).trans (rfl)).trans hf), (((up2_n _ _ (fun z => absurd z.2 (by decide))).trans (rfl)).trans hdp)⟩ (hE.mono (MK.refl.up (by omega)) (fun _ z => z)) (hV.mono (MK.refl.up (by omega)) (fun _ z => z))
        · -- ('i', '0')
          exact absurd hq hd1
    · rw [if_neg hq] at hE hV
      show Go d 246 0 0 165 [.ref (ad 10 0), .int x, .long v, .retAddr 1, .int (nI c)] [] (mm M f g) R
      refine go_blk 1 [] (pc' := 166) (vs' := [.ref (ad 10 0), .int x, .long v, .retAddr 1, .int (nI c)]) (st' := [.ref (ad 10 0)]) (M' := mm M f g) (ps := []) rfl trivial ?_
      refine go_callV rfl rfl rfl (by omega) rfl (by decide) (by decide) hX.m.1 ?_
      refine s_Mo_isDigit hX hi ha (fun hd1 => ⟨ne_i, ?_⟩) (fun hd1 => ⟨ne_i, ?_⟩)
      · -- ('i', '1')
        exact absurd hd1 hq
      · -- ('i', '0')
        show Go d 246 0 0 169 [.ref (ad 10 0), .int x, .long v, .retAddr 1, .int (nI c)] [.int 0] (mm M f g) R
        refine go_if rfl (fun _ => ?_) (fun (z : ¬ ((0 : Int32) = 0)) => absurd (show (0 : Int32) = 0 from (by decide)) z)
        refine go_blk 1 [] (pc' := 226) (vs' := [.ref (ad 10 0), .int x, .long v, .retAddr 1, .int (nI c)]) (st' := [.long v]) (M' := mm M f g) (ps := []) rfl trivial ?_
        refine go_lret rfl rfl ?_
        exact hV v i f rfl MK.refl ⟨ha, hf, hdp⟩

set_option maxRecDepth 100000 in
theorem atomC0 {d : Nat} {M : Mem} {g : Nat → Nat → Int64} {ad : Nat → Nat → Nat} {A fr L j : Nat} {t : Nat → Int32} {lv : Int32 → Int64} (hd : 6 ≤ d) : CallC 246 M g ad A fr L t lv j 6 d (atomM t L lv (parR t L lv (0))) := by
  intro f R i hi hX hP hE hV
  obtain ⟨ha, hf, hdp⟩ := hP
  have hL0 := hX.1.2.2.2.2.2.2.1
  obtain ⟨q, hq⟩ : ∃ q, sk t L i = q := ⟨_, rfl⟩
  have hqq : sk t L q = q := by rw [← hq]; exact sk_sk hi
  have hqL : q ≤ L := by rw [← hq]; exact (sk_ge hi).2
  unfold atomM at hE hV
  rw [hq] at hE hV
  show Go d 246 0 0 0 [.ref (ad 10 0), .retAddr 0, .retAddr 0, .retAddr 0, .retAddr 0] [] (mm M f g) R
  refine go_blk 1 [] (pc' := 1) (vs' := [.ref (ad 10 0), .retAddr 0, .retAddr 0, .retAddr 0, .retAddr 0]) (st' := [.ref (ad 10 0)]) (M' := mm M f g) (ps := []) rfl trivial ?_
  refine go_callV rfl rfl rfl (by omega) rfl (by decide) (by decide) hX.m.1 ?_
  refine s_Mo_lookQ (i := i) (q := q) hX hi ha hq (fun hj1 => ⟨ne_i, ?_⟩) (fun hj1 => ⟨ne_i, ?_⟩)
  · -- ('i', 't q')
    have hin : q < L := hj1
    show Go d 246 0 0 4 [.ref (ad 10 0), .retAddr 0, .retAddr 0, .retAddr 0, .retAddr 0] [.int (t q)] (mm M (up2 f (ad 10 0) 85 (nI q)) g) R
    refine go_blk 3 [] (pc' := 8) (vs' := [.ref (ad 10 0), .int (t q), .retAddr 0, .retAddr 0, .retAddr 0]) (st' := [.int 99, .int (t q)]) (M' := mm M (up2 f (ad 10 0) 85 (nI q)) g) (ps := []) rfl trivial ?_
    refine go_icmp rfl (fun (c2 : (t q) = 99) => ?_) (fun (c2 : ¬ ((t q) = 99)) => ?_)
    · -- (t q) = 99
      refine go_blk 8 [some (.int (nI q))] (pc' := 53) (vs' := [.ref (ad 10 0), .int (t q), .retAddr 0, .retAddr 0, .retAddr 0]) (st' := [.int (t q), .ref (ad 10 0)]) (M' := mm M (up2 (up2 f (ad 10 0) 85 (nI q)) (ad 10 0) 85 ((nI q) + 1)) g) (ps := [(.ref (ad 10 0) : Value).category = 1, ob (mm M (up2 f (ad 10 0) 85 (nI q)) g) (ad 10 0) 12, (Value.int ((up2 f (ad 10 0) 85 (nI q)) (ad 10 0) 85)) = .int (nI q), ob (mm M (up2 f (ad 10 0) 85 (nI q)) g) (ad 10 0) 12]) rfl ⟨rfl, hX.m.1, congrArg Value.int (up2_s _ _ _ _), hX.m.1, trivial⟩ ?_
      refine go_callV rfl rfl rfl (by omega) rfl (by decide) (by decide) hX.m.1 ?_
      refine s_Mo_letter (lv := lv) (by omega) (hX.keep ((MK.refl.up (by omega)).up (by omega))) (by rw [c2]; decide) ⟨ne_l, ?_⟩
      show Go d 246 0 0 56 [.ref (ad 10 0), .int (t q), .retAddr 0, .retAddr 0, .retAddr 0] [.long (lv (t q))] (mm M (up2 (up2 f (ad 10 0) 85 (nI q)) (ad 10 0) 85 ((nI q) + 1)) g) R
      refine go_lret rfl rfl ?_
      refine hV _ (q + 1) _ (if_pos ⟨hin, by rw [c2]; decide⟩) ((MK.refl.up (by omega)).up (by omega)) ⟨((up2_s _ _ _ _).trans (nI_add q 1)), (((up2_n _ _ (fun z => absurd z.2 (by decide))).trans ((up2_n _ _ (fun z => absurd z.2 (by decide))).trans (rfl))).trans hf), (((up2_n _ _ (fun z => absurd z.2 (by decide))).trans ((up2_n _ _ (fun z => absurd z.2 (by decide))).trans (rfl))).trans hdp)⟩
    · -- ¬ ((t q) = 99)
      refine go_blk 2 [] (pc' := 14) (vs' := [.ref (ad 10 0), .int (t q), .retAddr 0, .retAddr 0, .retAddr 0]) (st' := [.int 108, .int (t q)]) (M' := mm M (up2 f (ad 10 0) 85 (nI q)) g) (ps := []) rfl trivial ?_
      refine go_icmp rfl (fun (c3 : (t q) = 108) => ?_) (fun (c3 : ¬ ((t q) = 108)) => ?_)
      · -- (t q) = 108
        refine go_blk 8 [some (.int (nI q))] (pc' := 53) (vs' := [.ref (ad 10 0), .int (t q), .retAddr 0, .retAddr 0, .retAddr 0]) (st' := [.int (t q), .ref (ad 10 0)]) (M' := mm M (up2 (up2 f (ad 10 0) 85 (nI q)) (ad 10 0) 85 ((nI q) + 1)) g) (ps := [(.ref (ad 10 0) : Value).category = 1, ob (mm M (up2 f (ad 10 0) 85 (nI q)) g) (ad 10 0) 12, (Value.int ((up2 f (ad 10 0) 85 (nI q)) (ad 10 0) 85)) = .int (nI q), ob (mm M (up2 f (ad 10 0) 85 (nI q)) g) (ad 10 0) 12]) rfl ⟨rfl, hX.m.1, congrArg Value.int (up2_s _ _ _ _), hX.m.1, trivial⟩ ?_
        refine go_callV rfl rfl rfl (by omega) rfl (by decide) (by decide) hX.m.1 ?_
        refine s_Mo_letter (lv := lv) (by omega) (hX.keep ((MK.refl.up (by omega)).up (by omega))) (by rw [c3]; decide) ⟨ne_l, ?_⟩
        show Go d 246 0 0 56 [.ref (ad 10 0), .int (t q), .retAddr 0, .retAddr 0, .retAddr 0] [.long (lv (t q))] (mm M (up2 (up2 f (ad 10 0) 85 (nI q)) (ad 10 0) 85 ((nI q) + 1)) g) R
        refine go_lret rfl rfl ?_
        refine hV _ (q + 1) _ (if_pos ⟨hin, by rw [c3]; decide⟩) ((MK.refl.up (by omega)).up (by omega)) ⟨((up2_s _ _ _ _).trans (nI_add q 1)), (((up2_n _ _ (fun z => absurd z.2 (by decide))).trans ((up2_n _ _ (fun z => absurd z.2 (by decide))).trans (rfl))).trans hf), (((up2_n _ _ (fun z => absurd z.2 (by decide))).trans ((up2_n _ _ (fun z => absurd z.2 (by decide))).trans (rfl))).trans hdp)⟩
      · -- ¬ ((t q) = 108)
        refine go_blk 2 [] (pc' := 20) (vs' := [.ref (ad 10 0), .int (t q), .retAddr 0, .retAddr 0, .retAddr 0]) (st' := [.int 114, .int (t q)]) (M' := mm M (up2 f (ad 10 0) 85 (nI q)) g) (ps := []) rfl trivial ?_
        refine go_icmp rfl (fun (c4 : (t q) = 114) => ?_) (fun (c4 : ¬ ((t q) = 114)) => ?_)
        · -- (t q) = 114
          refine go_blk 8 [some (.int (nI q))] (pc' := 53) (vs' := [.ref (ad 10 0), .int (t q), .retAddr 0, .retAddr 0, .retAddr 0]) (st' := [.int (t q), .ref (ad 10 0)]) (M' := mm M (up2 (up2 f (ad 10 0) 85 (nI q)) (ad 10 0) 85 ((nI q) + 1)) g) (ps := [(.ref (ad 10 0) : Value).category = 1, ob (mm M (up2 f (ad 10 0) 85 (nI q)) g) (ad 10 0) 12, (Value.int ((up2 f (ad 10 0) 85 (nI q)) (ad 10 0) 85)) = .int (nI q), ob (mm M (up2 f (ad 10 0) 85 (nI q)) g) (ad 10 0) 12]) rfl ⟨rfl, hX.m.1, congrArg Value.int (up2_s _ _ _ _), hX.m.1, trivial⟩ ?_
          refine go_callV rfl rfl rfl (by omega) rfl (by decide) (by decide) hX.m.1 ?_
          refine s_Mo_letter (lv := lv) (by omega) (hX.keep ((MK.refl.up (by omega)).up (by omega))) (by rw [c4]; decide) ⟨ne_l, ?_⟩
          show Go d 246 0 0 56 [.ref (ad 10 0), .int (t q), .retAddr 0, .retAddr 0, .retAddr 0] [.long (lv (t q))] (mm M (up2 (up2 f (ad 10 0) 85 (nI q)) (ad 10 0) 85 ((nI q) + 1)) g) R
          refine go_lret rfl rfl ?_
          refine hV _ (q + 1) _ (if_pos ⟨hin, by rw [c4]; decide⟩) ((MK.refl.up (by omega)).up (by omega)) ⟨((up2_s _ _ _ _).trans (nI_add q 1)), (((up2_n _ _ (fun z => absurd z.2 (by decide))).trans ((up2_n _ _ (fun z => absurd z.2 (by decide))).trans (rfl))).trans hf), (((up2_n _ _ (fun z => absurd z.2 (by decide))).trans ((up2_n _ _ (fun z => absurd z.2 (by decide))).trans (rfl))).trans hdp)⟩
        · -- ¬ ((t q) = 114)
          refine go_blk 2 [] (pc' := 26) (vs' := [.ref (ad 10 0), .int (t q), .retAddr 0, .retAddr 0, .retAddr 0]) (st' := [.int 103, .int (t q)]) (M' := mm M (up2 f (ad 10 0) 85 (nI q)) g) (ps := []) rfl trivial ?_
          refine go_icmp rfl (fun (c5 : (t q) = 103) => ?_) (fun (c5 : ¬ ((t q) = 103)) => ?_)
          · -- (t q) = 103
            refine go_blk 8 [some (.int (nI q))] (pc' := 53) (vs' := [.ref (ad 10 0), .int (t q), .retAddr 0, .retAddr 0, .retAddr 0]) (st' := [.int (t q), .ref (ad 10 0)]) (M' := mm M (up2 (up2 f (ad 10 0) 85 (nI q)) (ad 10 0) 85 ((nI q) + 1)) g) (ps := [(.ref (ad 10 0) : Value).category = 1, ob (mm M (up2 f (ad 10 0) 85 (nI q)) g) (ad 10 0) 12, (Value.int ((up2 f (ad 10 0) 85 (nI q)) (ad 10 0) 85)) = .int (nI q), ob (mm M (up2 f (ad 10 0) 85 (nI q)) g) (ad 10 0) 12]) rfl ⟨rfl, hX.m.1, congrArg Value.int (up2_s _ _ _ _), hX.m.1, trivial⟩ ?_
            refine go_callV rfl rfl rfl (by omega) rfl (by decide) (by decide) hX.m.1 ?_
            refine s_Mo_letter (lv := lv) (by omega) (hX.keep ((MK.refl.up (by omega)).up (by omega))) (by rw [c5]; decide) ⟨ne_l, ?_⟩
            show Go d 246 0 0 56 [.ref (ad 10 0), .int (t q), .retAddr 0, .retAddr 0, .retAddr 0] [.long (lv (t q))] (mm M (up2 (up2 f (ad 10 0) 85 (nI q)) (ad 10 0) 85 ((nI q) + 1)) g) R
            refine go_lret rfl rfl ?_
            refine hV _ (q + 1) _ (if_pos ⟨hin, by rw [c5]; decide⟩) ((MK.refl.up (by omega)).up (by omega)) ⟨((up2_s _ _ _ _).trans (nI_add q 1)), (((up2_n _ _ (fun z => absurd z.2 (by decide))).trans ((up2_n _ _ (fun z => absurd z.2 (by decide))).trans (rfl))).trans hf), (((up2_n _ _ (fun z => absurd z.2 (by decide))).trans ((up2_n _ _ (fun z => absurd z.2 (by decide))).trans (rfl))).trans hdp)⟩
          · -- ¬ ((t q) = 103)
            refine go_blk 2 [] (pc' := 32) (vs' := [.ref (ad 10 0), .int (t q), .retAddr 0, .retAddr 0, .retAddr 0]) (st' := [.int 100, .int (t q)]) (M' := mm M (up2 f (ad 10 0) 85 (nI q)) g) (ps := []) rfl trivial ?_
            refine go_icmp rfl (fun (c6 : (t q) = 100) => ?_) (fun (c6 : ¬ ((t q) = 100)) => ?_)
            · -- (t q) = 100
              refine go_blk 8 [some (.int (nI q))] (pc' := 53) (vs' := [.ref (ad 10 0), .int (t q), .retAddr 0, .retAddr 0, .retAddr 0]) (st' := [.int (t q), .ref (ad 10 0)]) (M' := mm M (up2 (up2 f (ad 10 0) 85 (nI q)) (ad 10 0) 85 ((nI q) + 1)) g) (ps := [(.ref (ad 10 0) : Value).category = 1, ob (mm M (up2 f (ad 10 0) 85 (nI q)) g) (ad 10 0) 12, (Value.int ((up2 f (ad 10 0) 85 (nI q)) (ad 10 0) 85)) = .int (nI q), ob (mm M (up2 f (ad 10 0) 85 (nI q)) g) (ad 10 0) 12]) rfl ⟨rfl, hX.m.1, congrArg Value.int (up2_s _ _ _ _), hX.m.1, trivial⟩ ?_
              refine go_callV rfl rfl rfl (by omega) rfl (by decide) (by decide) hX.m.1 ?_
              refine s_Mo_letter (lv := lv) (by omega) (hX.keep ((MK.refl.up (by omega)).up (by omega))) (by rw [c6]; decide) ⟨ne_l, ?_⟩
              show Go d 246 0 0 56 [.ref (ad 10 0), .int (t q), .retAddr 0, .retAddr 0, .retAddr 0] [.long (lv (t q))] (mm M (up2 (up2 f (ad 10 0) 85 (nI q)) (ad 10 0) 85 ((nI q) + 1)) g) R
              refine go_lret rfl rfl ?_
              refine hV _ (q + 1) _ (if_pos ⟨hin, by rw [c6]; decide⟩) ((MK.refl.up (by omega)).up (by omega)) ⟨((up2_s _ _ _ _).trans (nI_add q 1)), (((up2_n _ _ (fun z => absurd z.2 (by decide))).trans ((up2_n _ _ (fun z => absurd z.2 (by decide))).trans (rfl))).trans hf), (((up2_n _ _ (fun z => absurd z.2 (by decide))).trans ((up2_n _ _ (fun z => absurd z.2 (by decide))).trans (rfl))).trans hdp)⟩
            · -- ¬ ((t q) = 100)
              refine go_blk 2 [] (pc' := 38) (vs' := [.ref (ad 10 0), .int (t q), .retAddr 0, .retAddr 0, .retAddr 0]) (st' := [.int 104, .int (t q)]) (M' := mm M (up2 f (ad 10 0) 85 (nI q)) g) (ps := []) rfl trivial ?_
              refine go_icmp rfl (fun (c7 : ¬ (t q) = 104) => ?_) (fun (c7 : ¬ (¬ (t q) = 104)) => ?_)
              · -- ¬ (t q) = 104
                refine go_blk 2 [] (pc' := 60) (vs' := [.ref (ad 10 0), .int (t q), .retAddr 0, .retAddr 0, .retAddr 0]) (st' := [.int 40, .int (t q)]) (M' := mm M (up2 f (ad 10 0) 85 (nI q)) g) (ps := []) rfl trivial ?_
                refine go_icmp rfl (fun (c8 : ¬ (t q) = 40) => ?_) (fun (c8 : ¬ (¬ (t q) = 40)) => ?_)
                · -- ¬ (t q) = 40
                  refine go_blk 1 [] (pc' := 149) (vs' := [.ref (ad 10 0), .int (t q), .retAddr 0, .retAddr 0, .retAddr 0]) (st' := [.ref (ad 10 0)]) (M' := mm M (up2 f (ad 10 0) 85 (nI q)) g) (ps := []) rfl trivial ?_
                  refine go_callV rfl rfl rfl (by omega) rfl (by decide) (by decide) hX.m.1 ?_
                  refine s_Mo_isDigit (i := q) (hX.keep (MK.refl.up (by omega))) hqL (up2_s _ _ _ _) (fun hd9 => ⟨ne_i, ?_⟩) (fun hd9 => ⟨ne_i, ?_⟩)
                  · -- ('i', '1')
                    have hnl : ¬ isLt (t q) = true := by simp only [isLt, Bool.or_eq_true, beq_iff_eq]; rintro (((((z | z) | z) | z) | z) | z); exact c2 z; exact c3 z; exact c4 z; exact c5 z; exact c6 z; exact c7 z
                    have hn40 : ¬ t q = 40 := c8
                    have hyd := hd9
                    show Go d 246 0 0 152 [.ref (ad 10 0), .int (t q), .retAddr 0, .retAddr 0, .retAddr 0] [.int 1] (mm M (up2 f (ad 10 0) 85 (nI q)) g) R
                    refine go_if rfl (fun _ => ?_) (fun (z : ¬ (¬ (1 : Int32) = 0)) => absurd (show ¬ (1 : Int32) = 0 from (by decide)) z)
                    refine go_blk 4 [] (pc' := 165) (vs' := [.ref (ad 10 0), .int (t q), .long 0, .retAddr 1, .int 0]) (st' := []) (M' := mm M (up2 f (ad 10 0) 85 (nI q)) g) (ps := []) rfl trivial ?_
                    exact lp_Mo_num (by omega) 5 0 0 q _ R (by omega) (by omega) hqL ((hX.keep (MK.refl.up (by omega)))) ⟨(up2_s _ _ _ _), (((up2_n _ _ (fun z => absurd z.2 (by decide))).trans (rfl)).trans hf), (((up2_n _ _ (fun z => absurd z.2 (by decide))).trans (rfl)).trans hdp)⟩ (hE.mono (MK.refl.up (by omega)) (fun _ z => by rw [if_neg (fun y => hnl y.2), if_neg (fun y => hn40 y.2), if_pos hyd]; exact z)) (hV.mono (MK.refl.up (by omega)) (fun _ z => by rw [if_neg (fun y => hnl y.2), if_neg (fun y => hn40 y.2), if_pos hyd]; exact z))
                  · -- ('i', '0')
                    have hnl : ¬ isLt (t q) = true := by simp only [isLt, Bool.or_eq_true, beq_iff_eq]; rintro (((((z | z) | z) | z) | z) | z); exact c2 z; exact c3 z; exact c4 z; exact c5 z; exact c6 z; exact c7 z
                    have hn40 : ¬ t q = 40 := c8
                    have hnd : ¬ (q < L ∧ isDg (t q) = true) := hd9
                    show Go d 246 0 0 152 [.ref (ad 10 0), .int (t q), .retAddr 0, .retAddr 0, .retAddr 0] [.int 0] (mm M (up2 f (ad 10 0) 85 (nI q)) g) R
                    refine go_if rfl (fun (z : ¬ (0 : Int32) = 0) => absurd z (show ¬ (¬ (0 : Int32) = 0) from (by decide))) (fun _ => ?_)
                    refine go_blk 1 [] (pc' := 156) (vs' := [.ref (ad 10 0), .int (t q), .retAddr 0, .retAddr 0, .retAddr 0]) (st' := [.ref (ad 10 0)]) (M' := mm M (up2 f (ad 10 0) 85 (nI q)) g) (ps := []) rfl trivial ?_
                    refine go_callV rfl rfl rfl (by omega) rfl (by decide) (by decide) hX.m.1 ?_
                    show Go (d - 1) 242 0 0 0 [.ref (ad 10 0)] [] (mm M (up2 f (ad 10 0) 85 (nI q)) g) _
                    refine go_blk 3 [some (.int (-1))] (pc' := 5) (vs' := [.ref (ad 10 0)]) (st' := [.int (-1), .int (-1)]) (M' := mm M (up2 f (ad 10 0) 85 (nI q)) g) (ps := [ob (mm M (up2 f (ad 10 0) 85 (nI q)) g) (ad 10 0) 12, (Value.int ((up2 f (ad 10 0) 85 (nI q)) (ad 10 0) 86)) = .int (-1)]) rfl ⟨hX.m.1, congrArg Value.int (((up2_n _ _ (fun z => absurd z.2 (by decide))).trans (rfl)).trans hf), trivial⟩ ?_
                    refine go_icmp rfl (fun (z : ¬ ((-1) : Int32) = (-1)) => absurd z (show ¬ (¬ ((-1) : Int32) = (-1)) from (by decide))) (fun _ => ?_)
                    refine go_blk 5 [some (.int (nI q))] (pc' := 17) (vs' := [.ref (ad 10 0)]) (st' := [.long 0]) (M' := mm M (up2 (up2 f (ad 10 0) 85 (nI q)) (ad 10 0) 86 (nI q)) g) (ps := [ob (mm M (up2 f (ad 10 0) 85 (nI q)) g) (ad 10 0) 12, (Value.int ((up2 f (ad 10 0) 85 (nI q)) (ad 10 0) 85)) = .int (nI q), ob (mm M (up2 f (ad 10 0) 85 (nI q)) g) (ad 10 0) 12]) rfl ⟨hX.m.1, congrArg Value.int (up2_s _ _ _ _), hX.m.1, trivial⟩ ?_
                    refine go_lret rfl rfl ?_
                    refine ⟨ne_l, ?_⟩
                    show Go d 246 0 0 159 [.ref (ad 10 0), .int (t q), .retAddr 0, .retAddr 0, .retAddr 0] [.long 0] (mm M (up2 (up2 f (ad 10 0) 85 (nI q)) (ad 10 0) 86 (nI q)) g) R
                    refine go_lret rfl rfl ?_
                    refine hE q _ _ (by rw [if_neg (fun z => hnl z.2), if_neg (fun z => hn40 z.2), if_neg (fun z => hnd z)]) (by omega) ((MK.refl.up (by omega)).up (by omega)) (up2_s _ _ _ _)
                · -- ¬ (¬ (t q) = 40)
                  refine go_blk 3 [some (.int (nI 6))] (pc' := 69) (vs' := [.ref (ad 10 0), .int (t q), .retAddr 0, .retAddr 0, .retAddr 0]) (st' := [.int 6, .int (nI 6)]) (M' := mm M (up2 f (ad 10 0) 85 (nI q)) g) (ps := [ob (mm M (up2 f (ad 10 0) 85 (nI q)) g) (ad 10 0) 12, (Value.int ((up2 f (ad 10 0) 85 (nI q)) (ad 10 0) 87)) = .int (nI 6)]) rfl ⟨hX.m.1, congrArg Value.int (((up2_n _ _ (fun z => absurd z.2 (by decide))).trans (rfl)).trans hdp), trivial⟩ ?_
                  refine go_icmp rfl (fun (z : ¬ (nI 6) = 6) => absurd z (show ¬ (¬ (nI 6) = 6) from (not_not_intro rfl))) (fun _ => ?_)
                  refine go_blk 1 [] (pc' := 73) (vs' := [.ref (ad 10 0), .int (t q), .retAddr 0, .retAddr 0, .retAddr 0]) (st' := [.ref (ad 10 0)]) (M' := mm M (up2 f (ad 10 0) 85 (nI q)) g) (ps := []) rfl trivial ?_
                  refine go_callV rfl rfl rfl (by omega) rfl (by decide) (by decide) hX.m.1 ?_
                  show Go (d - 1) 242 0 0 0 [.ref (ad 10 0)] [] (mm M (up2 f (ad 10 0) 85 (nI q)) g) _
                  refine go_blk 3 [some (.int (-1))] (pc' := 5) (vs' := [.ref (ad 10 0)]) (st' := [.int (-1), .int (-1)]) (M' := mm M (up2 f (ad 10 0) 85 (nI q)) g) (ps := [ob (mm M (up2 f (ad 10 0) 85 (nI q)) g) (ad 10 0) 12, (Value.int ((up2 f (ad 10 0) 85 (nI q)) (ad 10 0) 86)) = .int (-1)]) rfl ⟨hX.m.1, congrArg Value.int (((up2_n _ _ (fun z => absurd z.2 (by decide))).trans (rfl)).trans hf), trivial⟩ ?_
                  refine go_icmp rfl (fun (z : ¬ ((-1) : Int32) = (-1)) => absurd z (show ¬ (¬ ((-1) : Int32) = (-1)) from (by decide))) (fun _ => ?_)
                  refine go_blk 5 [some (.int (nI q))] (pc' := 17) (vs' := [.ref (ad 10 0)]) (st' := [.long 0]) (M' := mm M (up2 (up2 f (ad 10 0) 85 (nI q)) (ad 10 0) 86 (nI q)) g) (ps := [ob (mm M (up2 f (ad 10 0) 85 (nI q)) g) (ad 10 0) 12, (Value.int ((up2 f (ad 10 0) 85 (nI q)) (ad 10 0) 85)) = .int (nI q), ob (mm M (up2 f (ad 10 0) 85 (nI q)) g) (ad 10 0) 12]) rfl ⟨hX.m.1, congrArg Value.int (up2_s _ _ _ _), hX.m.1, trivial⟩ ?_
                  refine go_lret rfl rfl ?_
                  refine ⟨ne_l, ?_⟩
                  show Go d 246 0 0 76 [.ref (ad 10 0), .int (t q), .retAddr 0, .retAddr 0, .retAddr 0] [.long 0] (mm M (up2 (up2 f (ad 10 0) 85 (nI q)) (ad 10 0) 86 (nI q)) g) R
                  refine go_lret rfl rfl ?_
                  refine hE q _ _ (by rw [if_neg (fun z => absurd z.2 (by rw [(Classical.not_not.mp c8)]; decide)), if_pos ⟨hin, (Classical.not_not.mp c8)⟩, parR]) (by omega) ((MK.refl.up (by omega)).up (by omega)) (up2_s _ _ _ _)
              · -- ¬ (¬ (t q) = 104)
                refine go_blk 8 [some (.int (nI q))] (pc' := 53) (vs' := [.ref (ad 10 0), .int (t q), .retAddr 0, .retAddr 0, .retAddr 0]) (st' := [.int (t q), .ref (ad 10 0)]) (M' := mm M (up2 (up2 f (ad 10 0) 85 (nI q)) (ad 10 0) 85 ((nI q) + 1)) g) (ps := [(.ref (ad 10 0) : Value).category = 1, ob (mm M (up2 f (ad 10 0) 85 (nI q)) g) (ad 10 0) 12, (Value.int ((up2 f (ad 10 0) 85 (nI q)) (ad 10 0) 85)) = .int (nI q), ob (mm M (up2 f (ad 10 0) 85 (nI q)) g) (ad 10 0) 12]) rfl ⟨rfl, hX.m.1, congrArg Value.int (up2_s _ _ _ _), hX.m.1, trivial⟩ ?_
                refine go_callV rfl rfl rfl (by omega) rfl (by decide) (by decide) hX.m.1 ?_
                refine s_Mo_letter (lv := lv) (by omega) (hX.keep ((MK.refl.up (by omega)).up (by omega))) (by rw [(Classical.not_not.mp c7)]; decide) ⟨ne_l, ?_⟩
                show Go d 246 0 0 56 [.ref (ad 10 0), .int (t q), .retAddr 0, .retAddr 0, .retAddr 0] [.long (lv (t q))] (mm M (up2 (up2 f (ad 10 0) 85 (nI q)) (ad 10 0) 85 ((nI q) + 1)) g) R
                refine go_lret rfl rfl ?_
                refine hV _ (q + 1) _ (if_pos ⟨hin, by rw [(Classical.not_not.mp c7)]; decide⟩) ((MK.refl.up (by omega)).up (by omega)) ⟨((up2_s _ _ _ _).trans (nI_add q 1)), (((up2_n _ _ (fun z => absurd z.2 (by decide))).trans ((up2_n _ _ (fun z => absurd z.2 (by decide))).trans (rfl))).trans hf), (((up2_n _ _ (fun z => absurd z.2 (by decide))).trans ((up2_n _ _ (fun z => absurd z.2 (by decide))).trans (rfl))).trans hdp)⟩
  · -- ('i', '(-1)')
    have hin : ¬ q < L := hj1
    show Go d 246 0 0 4 [.ref (ad 10 0), .retAddr 0, .retAddr 0, .retAddr 0, .retAddr 0] [.int (-1)] (mm M (up2 f (ad 10 0) 85 (nI q)) g) R
    refine go_blk 3 [] (pc' := 8) (vs' := [.ref (ad 10 0), .int (-1), .retAddr 0, .retAddr 0, .retAddr 0]) (st' := [.int 99, .int (-1)]) (M' := mm M (up2 f (ad 10 0) 85 (nI q)) g) (ps := []) rfl trivial ?_
    refine go_icmp rfl (fun (z : ((-1) : Int32) = 99) => absurd z (show ¬ (((-1) : Int32) = 99) from (by decide))) (fun _ => ?_)
    refine go_blk 2 [] (pc' := 14) (vs' := [.ref (ad 10 0), .int (-1), .retAddr 0, .retAddr 0, .retAddr 0]) (st' := [.int 108, .int (-1)]) (M' := mm M (up2 f (ad 10 0) 85 (nI q)) g) (ps := []) rfl trivial ?_
    refine go_icmp rfl (fun (z : ((-1) : Int32) = 108) => absurd z (show ¬ (((-1) : Int32) = 108) from (by decide))) (fun _ => ?_)
    refine go_blk 2 [] (pc' := 20) (vs' := [.ref (ad 10 0), .int (-1), .retAddr 0, .retAddr 0, .retAddr 0]) (st' := [.int 114, .int (-1)]) (M' := mm M (up2 f (ad 10 0) 85 (nI q)) g) (ps := []) rfl trivial ?_
    refine go_icmp rfl (fun (z : ((-1) : Int32) = 114) => absurd z (show ¬ (((-1) : Int32) = 114) from (by decide))) (fun _ => ?_)
    refine go_blk 2 [] (pc' := 26) (vs' := [.ref (ad 10 0), .int (-1), .retAddr 0, .retAddr 0, .retAddr 0]) (st' := [.int 103, .int (-1)]) (M' := mm M (up2 f (ad 10 0) 85 (nI q)) g) (ps := []) rfl trivial ?_
    refine go_icmp rfl (fun (z : ((-1) : Int32) = 103) => absurd z (show ¬ (((-1) : Int32) = 103) from (by decide))) (fun _ => ?_)
    refine go_blk 2 [] (pc' := 32) (vs' := [.ref (ad 10 0), .int (-1), .retAddr 0, .retAddr 0, .retAddr 0]) (st' := [.int 100, .int (-1)]) (M' := mm M (up2 f (ad 10 0) 85 (nI q)) g) (ps := []) rfl trivial ?_
    refine go_icmp rfl (fun (z : ((-1) : Int32) = 100) => absurd z (show ¬ (((-1) : Int32) = 100) from (by decide))) (fun _ => ?_)
    refine go_blk 2 [] (pc' := 38) (vs' := [.ref (ad 10 0), .int (-1), .retAddr 0, .retAddr 0, .retAddr 0]) (st' := [.int 104, .int (-1)]) (M' := mm M (up2 f (ad 10 0) 85 (nI q)) g) (ps := []) rfl trivial ?_
    refine go_icmp rfl (fun _ => ?_) (fun (z : ¬ (¬ ((-1) : Int32) = 104)) => absurd (show ¬ ((-1) : Int32) = 104 from (by decide)) z)
    refine go_blk 2 [] (pc' := 60) (vs' := [.ref (ad 10 0), .int (-1), .retAddr 0, .retAddr 0, .retAddr 0]) (st' := [.int 40, .int (-1)]) (M' := mm M (up2 f (ad 10 0) 85 (nI q)) g) (ps := []) rfl trivial ?_
    refine go_icmp rfl (fun _ => ?_) (fun (z : ¬ (¬ ((-1) : Int32) = 40)) => absurd (show ¬ ((-1) : Int32) = 40 from (by decide)) z)
    refine go_blk 1 [] (pc' := 149) (vs' := [.ref (ad 10 0), .int (-1), .retAddr 0, .retAddr 0, .retAddr 0]) (st' := [.ref (ad 10 0)]) (M' := mm M (up2 f (ad 10 0) 85 (nI q)) g) (ps := []) rfl trivial ?_
    refine go_callV rfl rfl rfl (by omega) rfl (by decide) (by decide) hX.m.1 ?_
    refine s_Mo_isDigit (i := q) (hX.keep (MK.refl.up (by omega))) hqL (up2_s _ _ _ _) (fun hd10 => ⟨ne_i, ?_⟩) (fun hd10 => ⟨ne_i, ?_⟩)
    · -- ('i', '1')
      exact absurd hd10.1 hin
    · -- ('i', '0')
      show Go d 246 0 0 152 [.ref (ad 10 0), .int (-1), .retAddr 0, .retAddr 0, .retAddr 0] [.int 0] (mm M (up2 f (ad 10 0) 85 (nI q)) g) R
      refine go_if rfl (fun (z : ¬ (0 : Int32) = 0) => absurd z (show ¬ (¬ (0 : Int32) = 0) from (by decide))) (fun _ => ?_)
      refine go_blk 1 [] (pc' := 156) (vs' := [.ref (ad 10 0), .int (-1), .retAddr 0, .retAddr 0, .retAddr 0]) (st' := [.ref (ad 10 0)]) (M' := mm M (up2 f (ad 10 0) 85 (nI q)) g) (ps := []) rfl trivial ?_
      refine go_callV rfl rfl rfl (by omega) rfl (by decide) (by decide) hX.m.1 ?_
      show Go (d - 1) 242 0 0 0 [.ref (ad 10 0)] [] (mm M (up2 f (ad 10 0) 85 (nI q)) g) _
      refine go_blk 3 [some (.int (-1))] (pc' := 5) (vs' := [.ref (ad 10 0)]) (st' := [.int (-1), .int (-1)]) (M' := mm M (up2 f (ad 10 0) 85 (nI q)) g) (ps := [ob (mm M (up2 f (ad 10 0) 85 (nI q)) g) (ad 10 0) 12, (Value.int ((up2 f (ad 10 0) 85 (nI q)) (ad 10 0) 86)) = .int (-1)]) rfl ⟨hX.m.1, congrArg Value.int (((up2_n _ _ (fun z => absurd z.2 (by decide))).trans (rfl)).trans hf), trivial⟩ ?_
      refine go_icmp rfl (fun (z : ¬ ((-1) : Int32) = (-1)) => absurd z (show ¬ (¬ ((-1) : Int32) = (-1)) from (by decide))) (fun _ => ?_)
      refine go_blk 5 [some (.int (nI q))] (pc' := 17) (vs' := [.ref (ad 10 0)]) (st' := [.long 0]) (M' := mm M (up2 (up2 f (ad 10 0) 85 (nI q)) (ad 10 0) 86 (nI q)) g) (ps := [ob (mm M (up2 f (ad 10 0) 85 (nI q)) g) (ad 10 0) 12, (Value.int ((up2 f (ad 10 0) 85 (nI q)) (ad 10 0) 85)) = .int (nI q), ob (mm M (up2 f (ad 10 0) 85 (nI q)) g) (ad 10 0) 12]) rfl ⟨hX.m.1, congrArg Value.int (up2_s _ _ _ _), hX.m.1, trivial⟩ ?_
      refine go_lret rfl rfl ?_
      refine ⟨ne_l, ?_⟩
      show Go d 246 0 0 159 [.ref (ad 10 0), .int (-1), .retAddr 0, .retAddr 0, .retAddr 0] [.long 0] (mm M (up2 (up2 f (ad 10 0) 85 (nI q)) (ad 10 0) 86 (nI q)) g) R
      refine go_lret rfl rfl ?_
      refine hE q _ _ (by rw [if_neg (fun z => hin z.1), if_neg (fun z => hin z.1), if_neg (fun z => hin z.1)]) (by omega) ((MK.refl.up (by omega)).up (by omega)) (up2_s _ _ _ _)

theorem sum6r {t : Nat → Int32} {L : Nat} {lv : Int32 → Int64} {r dp i : Nat} (h : r + dp = 6) (hi : i ≤ L) : Sok t L 0 dp i (sumM t L lv (parR t L lv r) i) := sumM_fl hi (parR_fl r dp h)

set_option maxRecDepth 100000 in
theorem atomCS {d : Nat} {M : Mem} {g : Nat → Nat → Int64} {ad : Nat → Nat → Nat} {A fr L j : Nat} {t : Nat → Int32} {lv : Int32 → Int64} {dp r : Nat} (hdr : r + 1 + dp = 6) (hS : CallC 248 M g ad A fr L t lv j (dp + 1) (d - 1) (sumM t L lv (parR t L lv r))) (hd : 6 ≤ d) : CallC 246 M g ad A fr L t lv j dp d (atomM t L lv (parR t L lv (r + 1))) := by
  intro f R i hi hX hP hE hV
  obtain ⟨ha, hf, hdp⟩ := hP
  have hL0 := hX.1.2.2.2.2.2.2.1
  obtain ⟨q, hq⟩ : ∃ q, sk t L i = q := ⟨_, rfl⟩
  have hqq : sk t L q = q := by rw [← hq]; exact sk_sk hi
  have hqL : q ≤ L := by rw [← hq]; exact (sk_ge hi).2
  unfold atomM at hE hV
  rw [hq] at hE hV
  show Go d 246 0 0 0 [.ref (ad 10 0), .retAddr 0, .retAddr 0, .retAddr 0, .retAddr 0] [] (mm M f g) R
  refine go_blk 1 [] (pc' := 1) (vs' := [.ref (ad 10 0), .retAddr 0, .retAddr 0, .retAddr 0, .retAddr 0]) (st' := [.ref (ad 10 0)]) (M' := mm M f g) (ps := []) rfl trivial ?_
  refine go_callV rfl rfl rfl (by omega) rfl (by decide) (by decide) hX.m.1 ?_
  refine s_Mo_lookQ (i := i) (q := q) hX hi ha hq (fun hj1 => ⟨ne_i, ?_⟩) (fun hj1 => ⟨ne_i, ?_⟩)
  · -- ('i', 't q')
    have hin : q < L := hj1
    show Go d 246 0 0 4 [.ref (ad 10 0), .retAddr 0, .retAddr 0, .retAddr 0, .retAddr 0] [.int (t q)] (mm M (up2 f (ad 10 0) 85 (nI q)) g) R
    refine go_blk 3 [] (pc' := 8) (vs' := [.ref (ad 10 0), .int (t q), .retAddr 0, .retAddr 0, .retAddr 0]) (st' := [.int 99, .int (t q)]) (M' := mm M (up2 f (ad 10 0) 85 (nI q)) g) (ps := []) rfl trivial ?_
    refine go_icmp rfl (fun (c2 : (t q) = 99) => ?_) (fun (c2 : ¬ ((t q) = 99)) => ?_)
    · -- (t q) = 99
      refine go_blk 8 [some (.int (nI q))] (pc' := 53) (vs' := [.ref (ad 10 0), .int (t q), .retAddr 0, .retAddr 0, .retAddr 0]) (st' := [.int (t q), .ref (ad 10 0)]) (M' := mm M (up2 (up2 f (ad 10 0) 85 (nI q)) (ad 10 0) 85 ((nI q) + 1)) g) (ps := [(.ref (ad 10 0) : Value).category = 1, ob (mm M (up2 f (ad 10 0) 85 (nI q)) g) (ad 10 0) 12, (Value.int ((up2 f (ad 10 0) 85 (nI q)) (ad 10 0) 85)) = .int (nI q), ob (mm M (up2 f (ad 10 0) 85 (nI q)) g) (ad 10 0) 12]) rfl ⟨rfl, hX.m.1, congrArg Value.int (up2_s _ _ _ _), hX.m.1, trivial⟩ ?_
      refine go_callV rfl rfl rfl (by omega) rfl (by decide) (by decide) hX.m.1 ?_
      refine s_Mo_letter (lv := lv) (by omega) (hX.keep ((MK.refl.up (by omega)).up (by omega))) (by rw [c2]; decide) ⟨ne_l, ?_⟩
      show Go d 246 0 0 56 [.ref (ad 10 0), .int (t q), .retAddr 0, .retAddr 0, .retAddr 0] [.long (lv (t q))] (mm M (up2 (up2 f (ad 10 0) 85 (nI q)) (ad 10 0) 85 ((nI q) + 1)) g) R
      refine go_lret rfl rfl ?_
      refine hV _ (q + 1) _ (if_pos ⟨hin, by rw [c2]; decide⟩) ((MK.refl.up (by omega)).up (by omega)) ⟨((up2_s _ _ _ _).trans (nI_add q 1)), (((up2_n _ _ (fun z => absurd z.2 (by decide))).trans ((up2_n _ _ (fun z => absurd z.2 (by decide))).trans (rfl))).trans hf), (((up2_n _ _ (fun z => absurd z.2 (by decide))).trans ((up2_n _ _ (fun z => absurd z.2 (by decide))).trans (rfl))).trans hdp)⟩
    · -- ¬ ((t q) = 99)
      refine go_blk 2 [] (pc' := 14) (vs' := [.ref (ad 10 0), .int (t q), .retAddr 0, .retAddr 0, .retAddr 0]) (st' := [.int 108, .int (t q)]) (M' := mm M (up2 f (ad 10 0) 85 (nI q)) g) (ps := []) rfl trivial ?_
      refine go_icmp rfl (fun (c3 : (t q) = 108) => ?_) (fun (c3 : ¬ ((t q) = 108)) => ?_)
      · -- (t q) = 108
        refine go_blk 8 [some (.int (nI q))] (pc' := 53) (vs' := [.ref (ad 10 0), .int (t q), .retAddr 0, .retAddr 0, .retAddr 0]) (st' := [.int (t q), .ref (ad 10 0)]) (M' := mm M (up2 (up2 f (ad 10 0) 85 (nI q)) (ad 10 0) 85 ((nI q) + 1)) g) (ps := [(.ref (ad 10 0) : Value).category = 1, ob (mm M (up2 f (ad 10 0) 85 (nI q)) g) (ad 10 0) 12, (Value.int ((up2 f (ad 10 0) 85 (nI q)) (ad 10 0) 85)) = .int (nI q), ob (mm M (up2 f (ad 10 0) 85 (nI q)) g) (ad 10 0) 12]) rfl ⟨rfl, hX.m.1, congrArg Value.int (up2_s _ _ _ _), hX.m.1, trivial⟩ ?_
        refine go_callV rfl rfl rfl (by omega) rfl (by decide) (by decide) hX.m.1 ?_
        refine s_Mo_letter (lv := lv) (by omega) (hX.keep ((MK.refl.up (by omega)).up (by omega))) (by rw [c3]; decide) ⟨ne_l, ?_⟩
        show Go d 246 0 0 56 [.ref (ad 10 0), .int (t q), .retAddr 0, .retAddr 0, .retAddr 0] [.long (lv (t q))] (mm M (up2 (up2 f (ad 10 0) 85 (nI q)) (ad 10 0) 85 ((nI q) + 1)) g) R
        refine go_lret rfl rfl ?_
        refine hV _ (q + 1) _ (if_pos ⟨hin, by rw [c3]; decide⟩) ((MK.refl.up (by omega)).up (by omega)) ⟨((up2_s _ _ _ _).trans (nI_add q 1)), (((up2_n _ _ (fun z => absurd z.2 (by decide))).trans ((up2_n _ _ (fun z => absurd z.2 (by decide))).trans (rfl))).trans hf), (((up2_n _ _ (fun z => absurd z.2 (by decide))).trans ((up2_n _ _ (fun z => absurd z.2 (by decide))).trans (rfl))).trans hdp)⟩
      · -- ¬ ((t q) = 108)
        refine go_blk 2 [] (pc' := 20) (vs' := [.ref (ad 10 0), .int (t q), .retAddr 0, .retAddr 0, .retAddr 0]) (st' := [.int 114, .int (t q)]) (M' := mm M (up2 f (ad 10 0) 85 (nI q)) g) (ps := []) rfl trivial ?_
        refine go_icmp rfl (fun (c4 : (t q) = 114) => ?_) (fun (c4 : ¬ ((t q) = 114)) => ?_)
        · -- (t q) = 114
          refine go_blk 8 [some (.int (nI q))] (pc' := 53) (vs' := [.ref (ad 10 0), .int (t q), .retAddr 0, .retAddr 0, .retAddr 0]) (st' := [.int (t q), .ref (ad 10 0)]) (M' := mm M (up2 (up2 f (ad 10 0) 85 (nI q)) (ad 10 0) 85 ((nI q) + 1)) g) (ps := [(.ref (ad 10 0) : Value).category = 1, ob (mm M (up2 f (ad 10 0) 85 (nI q)) g) (ad 10 0) 12, (Value.int ((up2 f (ad 10 0) 85 (nI q)) (ad 10 0) 85)) = .int (nI q), ob (mm M (up2 f (ad 10 0) 85 (nI q)) g) (ad 10 0) 12]) rfl ⟨rfl, hX.m.1, congrArg Value.int (up2_s _ _ _ _), hX.m.1, trivial⟩ ?_
          refine go_callV rfl rfl rfl (by omega) rfl (by decide) (by decide) hX.m.1 ?_
          refine s_Mo_letter (lv := lv) (by omega) (hX.keep ((MK.refl.up (by omega)).up (by omega))) (by rw [c4]; decide) ⟨ne_l, ?_⟩
          show Go d 246 0 0 56 [.ref (ad 10 0), .int (t q), .retAddr 0, .retAddr 0, .retAddr 0] [.long (lv (t q))] (mm M (up2 (up2 f (ad 10 0) 85 (nI q)) (ad 10 0) 85 ((nI q) + 1)) g) R
          refine go_lret rfl rfl ?_
          refine hV _ (q + 1) _ (if_pos ⟨hin, by rw [c4]; decide⟩) ((MK.refl.up (by omega)).up (by omega)) ⟨((up2_s _ _ _ _).trans (nI_add q 1)), (((up2_n _ _ (fun z => absurd z.2 (by decide))).trans ((up2_n _ _ (fun z => absurd z.2 (by decide))).trans (rfl))).trans hf), (((up2_n _ _ (fun z => absurd z.2 (by decide))).trans ((up2_n _ _ (fun z => absurd z.2 (by decide))).trans (rfl))).trans hdp)⟩
        · -- ¬ ((t q) = 114)
          refine go_blk 2 [] (pc' := 26) (vs' := [.ref (ad 10 0), .int (t q), .retAddr 0, .retAddr 0, .retAddr 0]) (st' := [.int 103, .int (t q)]) (M' := mm M (up2 f (ad 10 0) 85 (nI q)) g) (ps := []) rfl trivial ?_
          refine go_icmp rfl (fun (c5 : (t q) = 103) => ?_) (fun (c5 : ¬ ((t q) = 103)) => ?_)
          · -- (t q) = 103
            refine go_blk 8 [some (.int (nI q))] (pc' := 53) (vs' := [.ref (ad 10 0), .int (t q), .retAddr 0, .retAddr 0, .retAddr 0]) (st' := [.int (t q), .ref (ad 10 0)]) (M' := mm M (up2 (up2 f (ad 10 0) 85 (nI q)) (ad 10 0) 85 ((nI q) + 1)) g) (ps := [(.ref (ad 10 0) : Value).category = 1, ob (mm M (up2 f (ad 10 0) 85 (nI q)) g) (ad 10 0) 12, (Value.int ((up2 f (ad 10 0) 85 (nI q)) (ad 10 0) 85)) = .int (nI q), ob (mm M (up2 f (ad 10 0) 85 (nI q)) g) (ad 10 0) 12]) rfl ⟨rfl, hX.m.1, congrArg Value.int (up2_s _ _ _ _), hX.m.1, trivial⟩ ?_
            refine go_callV rfl rfl rfl (by omega) rfl (by decide) (by decide) hX.m.1 ?_
            refine s_Mo_letter (lv := lv) (by omega) (hX.keep ((MK.refl.up (by omega)).up (by omega))) (by rw [c5]; decide) ⟨ne_l, ?_⟩
            show Go d 246 0 0 56 [.ref (ad 10 0), .int (t q), .retAddr 0, .retAddr 0, .retAddr 0] [.long (lv (t q))] (mm M (up2 (up2 f (ad 10 0) 85 (nI q)) (ad 10 0) 85 ((nI q) + 1)) g) R
            refine go_lret rfl rfl ?_
            refine hV _ (q + 1) _ (if_pos ⟨hin, by rw [c5]; decide⟩) ((MK.refl.up (by omega)).up (by omega)) ⟨((up2_s _ _ _ _).trans (nI_add q 1)), (((up2_n _ _ (fun z => absurd z.2 (by decide))).trans ((up2_n _ _ (fun z => absurd z.2 (by decide))).trans (rfl))).trans hf), (((up2_n _ _ (fun z => absurd z.2 (by decide))).trans ((up2_n _ _ (fun z => absurd z.2 (by decide))).trans (rfl))).trans hdp)⟩
          · -- ¬ ((t q) = 103)
            refine go_blk 2 [] (pc' := 32) (vs' := [.ref (ad 10 0), .int (t q), .retAddr 0, .retAddr 0, .retAddr 0]) (st' := [.int 100, .int (t q)]) (M' := mm M (up2 f (ad 10 0) 85 (nI q)) g) (ps := []) rfl trivial ?_
            refine go_icmp rfl (fun (c6 : (t q) = 100) => ?_) (fun (c6 : ¬ ((t q) = 100)) => ?_)
            · -- (t q) = 100
              refine go_blk 8 [some (.int (nI q))] (pc' := 53) (vs' := [.ref (ad 10 0), .int (t q), .retAddr 0, .retAddr 0, .retAddr 0]) (st' := [.int (t q), .ref (ad 10 0)]) (M' := mm M (up2 (up2 f (ad 10 0) 85 (nI q)) (ad 10 0) 85 ((nI q) + 1)) g) (ps := [(.ref (ad 10 0) : Value).category = 1, ob (mm M (up2 f (ad 10 0) 85 (nI q)) g) (ad 10 0) 12, (Value.int ((up2 f (ad 10 0) 85 (nI q)) (ad 10 0) 85)) = .int (nI q), ob (mm M (up2 f (ad 10 0) 85 (nI q)) g) (ad 10 0) 12]) rfl ⟨rfl, hX.m.1, congrArg Value.int (up2_s _ _ _ _), hX.m.1, trivial⟩ ?_
              refine go_callV rfl rfl rfl (by omega) rfl (by decide) (by decide) hX.m.1 ?_
              refine s_Mo_letter (lv := lv) (by omega) (hX.keep ((MK.refl.up (by omega)).up (by omega))) (by rw [c6]; decide) ⟨ne_l, ?_⟩
              show Go d 246 0 0 56 [.ref (ad 10 0), .int (t q), .retAddr 0, .retAddr 0, .retAddr 0] [.long (lv (t q))] (mm M (up2 (up2 f (ad 10 0) 85 (nI q)) (ad 10 0) 85 ((nI q) + 1)) g) R
              refine go_lret rfl rfl ?_
              refine hV _ (q + 1) _ (if_pos ⟨hin, by rw [c6]; decide⟩) ((MK.refl.up (by omega)).up (by omega)) ⟨((up2_s _ _ _ _).trans (nI_add q 1)), (((up2_n _ _ (fun z => absurd z.2 (by decide))).trans ((up2_n _ _ (fun z => absurd z.2 (by decide))).trans (rfl))).trans hf), (((up2_n _ _ (fun z => absurd z.2 (by decide))).trans ((up2_n _ _ (fun z => absurd z.2 (by decide))).trans (rfl))).trans hdp)⟩
            · -- ¬ ((t q) = 100)
              refine go_blk 2 [] (pc' := 38) (vs' := [.ref (ad 10 0), .int (t q), .retAddr 0, .retAddr 0, .retAddr 0]) (st' := [.int 104, .int (t q)]) (M' := mm M (up2 f (ad 10 0) 85 (nI q)) g) (ps := []) rfl trivial ?_
              refine go_icmp rfl (fun (c7 : ¬ (t q) = 104) => ?_) (fun (c7 : ¬ (¬ (t q) = 104)) => ?_)
              · -- ¬ (t q) = 104
                refine go_blk 2 [] (pc' := 60) (vs' := [.ref (ad 10 0), .int (t q), .retAddr 0, .retAddr 0, .retAddr 0]) (st' := [.int 40, .int (t q)]) (M' := mm M (up2 f (ad 10 0) 85 (nI q)) g) (ps := []) rfl trivial ?_
                refine go_icmp rfl (fun (c8 : ¬ (t q) = 40) => ?_) (fun (c8 : ¬ (¬ (t q) = 40)) => ?_)
                · -- ¬ (t q) = 40
                  refine go_blk 1 [] (pc' := 149) (vs' := [.ref (ad 10 0), .int (t q), .retAddr 0, .retAddr 0, .retAddr 0]) (st' := [.ref (ad 10 0)]) (M' := mm M (up2 f (ad 10 0) 85 (nI q)) g) (ps := []) rfl trivial ?_
                  refine go_callV rfl rfl rfl (by omega) rfl (by decide) (by decide) hX.m.1 ?_
                  refine s_Mo_isDigit (i := q) (hX.keep (MK.refl.up (by omega))) hqL (up2_s _ _ _ _) (fun hd9 => ⟨ne_i, ?_⟩) (fun hd9 => ⟨ne_i, ?_⟩)
                  · -- ('i', '1')
                    have hnl : ¬ isLt (t q) = true := by simp only [isLt, Bool.or_eq_true, beq_iff_eq]; rintro (((((z | z) | z) | z) | z) | z); exact c2 z; exact c3 z; exact c4 z; exact c5 z; exact c6 z; exact c7 z
                    have hn40 : ¬ t q = 40 := c8
                    have hyd := hd9
                    show Go d 246 0 0 152 [.ref (ad 10 0), .int (t q), .retAddr 0, .retAddr 0, .retAddr 0] [.int 1] (mm M (up2 f (ad 10 0) 85 (nI q)) g) R
                    refine go_if rfl (fun _ => ?_) (fun (z : ¬ (¬ (1 : Int32) = 0)) => absurd (show ¬ (1 : Int32) = 0 from (by decide)) z)
                    refine go_blk 4 [] (pc' := 165) (vs' := [.ref (ad 10 0), .int (t q), .long 0, .retAddr 1, .int 0]) (st' := []) (M' := mm M (up2 f (ad 10 0) 85 (nI q)) g) (ps := []) rfl trivial ?_
                    exact lp_Mo_num (by omega) 5 0 0 q _ R (by omega) (by omega) hqL ((hX.keep (MK.refl.up (by omega)))) ⟨(up2_s _ _ _ _), (((up2_n _ _ (fun z => absurd z.2 (by decide))).trans (rfl)).trans hf), (((up2_n _ _ (fun z => absurd z.2 (by decide))).trans (rfl)).trans hdp)⟩ (hE.mono (MK.refl.up (by omega)) (fun _ z => by rw [if_neg (fun y => hnl y.2), if_neg (fun y => hn40 y.2), if_pos hyd]; exact z)) (hV.mono (MK.refl.up (by omega)) (fun _ z => by rw [if_neg (fun y => hnl y.2), if_neg (fun y => hn40 y.2), if_pos hyd]; exact z))
                  · -- ('i', '0')
                    have hnl : ¬ isLt (t q) = true := by simp only [isLt, Bool.or_eq_true, beq_iff_eq]; rintro (((((z | z) | z) | z) | z) | z); exact c2 z; exact c3 z; exact c4 z; exact c5 z; exact c6 z; exact c7 z
                    have hn40 : ¬ t q = 40 := c8
                    have hnd : ¬ (q < L ∧ isDg (t q) = true) := hd9
                    show Go d 246 0 0 152 [.ref (ad 10 0), .int (t q), .retAddr 0, .retAddr 0, .retAddr 0] [.int 0] (mm M (up2 f (ad 10 0) 85 (nI q)) g) R
                    refine go_if rfl (fun (z : ¬ (0 : Int32) = 0) => absurd z (show ¬ (¬ (0 : Int32) = 0) from (by decide))) (fun _ => ?_)
                    refine go_blk 1 [] (pc' := 156) (vs' := [.ref (ad 10 0), .int (t q), .retAddr 0, .retAddr 0, .retAddr 0]) (st' := [.ref (ad 10 0)]) (M' := mm M (up2 f (ad 10 0) 85 (nI q)) g) (ps := []) rfl trivial ?_
                    refine go_callV rfl rfl rfl (by omega) rfl (by decide) (by decide) hX.m.1 ?_
                    show Go (d - 1) 242 0 0 0 [.ref (ad 10 0)] [] (mm M (up2 f (ad 10 0) 85 (nI q)) g) _
                    refine go_blk 3 [some (.int (-1))] (pc' := 5) (vs' := [.ref (ad 10 0)]) (st' := [.int (-1), .int (-1)]) (M' := mm M (up2 f (ad 10 0) 85 (nI q)) g) (ps := [ob (mm M (up2 f (ad 10 0) 85 (nI q)) g) (ad 10 0) 12, (Value.int ((up2 f (ad 10 0) 85 (nI q)) (ad 10 0) 86)) = .int (-1)]) rfl ⟨hX.m.1, congrArg Value.int (((up2_n _ _ (fun z => absurd z.2 (by decide))).trans (rfl)).trans hf), trivial⟩ ?_
                    refine go_icmp rfl (fun (z : ¬ ((-1) : Int32) = (-1)) => absurd z (show ¬ (¬ ((-1) : Int32) = (-1)) from (by decide))) (fun _ => ?_)
                    refine go_blk 5 [some (.int (nI q))] (pc' := 17) (vs' := [.ref (ad 10 0)]) (st' := [.long 0]) (M' := mm M (up2 (up2 f (ad 10 0) 85 (nI q)) (ad 10 0) 86 (nI q)) g) (ps := [ob (mm M (up2 f (ad 10 0) 85 (nI q)) g) (ad 10 0) 12, (Value.int ((up2 f (ad 10 0) 85 (nI q)) (ad 10 0) 85)) = .int (nI q), ob (mm M (up2 f (ad 10 0) 85 (nI q)) g) (ad 10 0) 12]) rfl ⟨hX.m.1, congrArg Value.int (up2_s _ _ _ _), hX.m.1, trivial⟩ ?_
                    refine go_lret rfl rfl ?_
                    refine ⟨ne_l, ?_⟩
                    show Go d 246 0 0 159 [.ref (ad 10 0), .int (t q), .retAddr 0, .retAddr 0, .retAddr 0] [.long 0] (mm M (up2 (up2 f (ad 10 0) 85 (nI q)) (ad 10 0) 86 (nI q)) g) R
                    refine go_lret rfl rfl ?_
                    refine hE q _ _ (by rw [if_neg (fun z => hnl z.2), if_neg (fun z => hn40 z.2), if_neg (fun z => hnd z)]) (by omega) ((MK.refl.up (by omega)).up (by omega)) (up2_s _ _ _ _)
                · -- ¬ (¬ (t q) = 40)
                  refine go_blk 3 [some (.int (nI dp))] (pc' := 69) (vs' := [.ref (ad 10 0), .int (t q), .retAddr 0, .retAddr 0, .retAddr 0]) (st' := [.int 6, .int (nI dp)]) (M' := mm M (up2 f (ad 10 0) 85 (nI q)) g) (ps := [ob (mm M (up2 f (ad 10 0) 85 (nI q)) g) (ad 10 0) 12, (Value.int ((up2 f (ad 10 0) 85 (nI q)) (ad 10 0) 87)) = .int (nI dp)]) rfl ⟨hX.m.1, congrArg Value.int (((up2_n _ _ (fun z => absurd z.2 (by decide))).trans (rfl)).trans hdp), trivial⟩ ?_
                  refine go_icmp rfl (fun _ => ?_) (fun (z : ¬ (¬ (nI dp) = 6)) => absurd (show ¬ (nI dp) = 6 from (fun z => absurd ((nI_eqs (a := dp) (b := 6) (by omega) (by decide)).mp z) (by omega))) z)
                  refine go_blk 13 [some (.int (nI dp)), some (.int (nI q))] (pc' := 98) (vs' := [.ref (ad 10 0), .int (t q), .retAddr 0, .retAddr 0, .retAddr 0]) (st' := [.ref (ad 10 0)]) (M' := mm M (up2 (up2 (up2 f (ad 10 0) 85 (nI q)) (ad 10 0) 87 ((nI dp) + 1)) (ad 10 0) 85 ((nI q) + 1)) g) (ps := [(.ref (ad 10 0) : Value).category = 1, ob (mm M (up2 f (ad 10 0) 85 (nI q)) g) (ad 10 0) 12, (Value.int ((up2 f (ad 10 0) 85 (nI q)) (ad 10 0) 87)) = .int (nI dp), ob (mm M (up2 f (ad 10 0) 85 (nI q)) g) (ad 10 0) 12, (.ref (ad 10 0) : Value).category = 1, ob (mm M (up2 (up2 f (ad 10 0) 85 (nI q)) (ad 10 0) 87 ((nI dp) + 1)) g) (ad 10 0) 12, (Value.int ((up2 (up2 f (ad 10 0) 85 (nI q)) (ad 10 0) 87 ((nI dp) + 1)) (ad 10 0) 85)) = .int (nI q), ob (mm M (up2 (up2 f (ad 10 0) 85 (nI q)) (ad 10 0) 87 ((nI dp) + 1)) g) (ad 10 0) 12]) rfl ⟨rfl, hX.m.1, congrArg Value.int (((up2_n _ _ (fun z => absurd z.2 (by decide))).trans (rfl)).trans hdp), hX.m.1, rfl, hX.m.1, congrArg Value.int ((up2_n _ _ (fun z => absurd z.2 (by decide))).trans (up2_s _ _ _ _)), hX.m.1, trivial⟩ ?_
                  refine go_callV rfl rfl rfl (by omega) rfl (by decide) (by decide) hX.m.1 ?_
                  refine hS _ _ (q + 1) (by omega) (hX.keep (((MK.refl.up (by omega)).up (by omega)).up (by omega))) ⟨((up2_s _ _ _ _).trans (nI_add q 1)), (((up2_n _ _ (fun z => absurd z.2 (by decide))).trans ((up2_n _ _ (fun z => absurd z.2 (by decide))).trans ((up2_n _ _ (fun z => absurd z.2 (by decide))).trans (rfl)))).trans hf), (((up2_n _ _ (fun z => absurd z.2 (by decide))).trans (up2_s _ _ _ _)).trans (nI_add dp 1))⟩ (fun e10 w10 f10 hr10 hl10 hk10 hf10 => ⟨ne_l, ?_⟩) (fun v10 k10 f10 hr10 hk10 hp10 => ⟨ne_l, ?_⟩)
                  · -- ('j', 'w#')
                    show Go d 246 0 0 101 [.ref (ad 10 0), .int (t q), .retAddr 0, .retAddr 0, .retAddr 0] [.long w10] (mm M f10 g) R
                    refine go_blk 4 [some (.int (nI e10))] (pc' := 107) (vs' := [.ref (ad 10 0), .int (t q), .long w10, .retAddr 1, .retAddr 0]) (st' := [.int (-1), .int (nI e10)]) (M' := mm M f10 g) (ps := [ob (mm M f10 g) (ad 10 0) 12, (Value.int (f10 (ad 10 0) 86)) = .int (nI e10)]) rfl ⟨hX.m.1, congrArg Value.int hf10, trivial⟩ ?_
                    refine go_icmp rfl (fun (z : (nI e10) = (-1)) => absurd z (show ¬ ((nI e10) = (-1)) from (nI_m1 (n := e10) (by omega)))) (fun _ => ?_)
                    refine go_blk 1 [] (pc' := 111) (vs' := [.ref (ad 10 0), .int (t q), .long w10, .retAddr 1, .retAddr 0]) (st' := [.long 0]) (M' := mm M f10 g) (ps := []) rfl trivial ?_
                    refine go_lret rfl rfl ?_
                    exact hE e10 _ _ (by rw [if_neg (fun z => absurd z.2 (by rw [(Classical.not_not.mp c8)]; decide)), if_pos ⟨hin, (Classical.not_not.mp c8)⟩, parR, hr10]) hl10 ((((MK.refl.up (by omega)).up (by omega)).up (by omega)).trans hk10) hf10
                  · -- ('j', 'v#')
                    obtain ⟨ha10, hf10, hdp10⟩ := hp10
                    have hX10 := hX.keep ((((MK.refl.up (by omega)).up (by omega)).up (by omega)).trans hk10)
                    have hkL10 := ((sum6r (t := t) (L := L) (lv := lv) (dp := dp + 1) (r := r) (i := q + 1) (by omega) (by omega)).1.2 v10 k10 hr10).2.1
                    have hS10 := (sum6r (t := t) (L := L) (lv := lv) (dp := dp + 1) (r := r) (i := q + 1) (by omega) (by omega)).2 v10 k10 hr10
                    show Go d 246 0 0 101 [.ref (ad 10 0), .int (t q), .retAddr 0, .retAddr 0, .retAddr 0] [.long v10] (mm M f10 g) R
                    refine go_blk 4 [some (.int (-1))] (pc' := 107) (vs' := [.ref (ad 10 0), .int (t q), .long v10, .retAddr 1, .retAddr 0]) (st' := [.int (-1), .int (-1)]) (M' := mm M f10 g) (ps := [ob (mm M f10 g) (ad 10 0) 12, (Value.int (f10 (ad 10 0) 86)) = .int (-1)]) rfl ⟨hX.m.1, congrArg Value.int hf10, trivial⟩ ?_
                    refine go_icmp rfl (fun _ => ?_) (fun (z : ¬ (((-1) : Int32) = (-1))) => absurd (show ((-1) : Int32) = (-1) from (by decide)) z)
                    refine go_blk 1 [] (pc' := 113) (vs' := [.ref (ad 10 0), .int (t q), .long v10, .retAddr 1, .retAddr 0]) (st' := [.ref (ad 10 0)]) (M' := mm M f10 g) (ps := []) rfl trivial ?_
                    refine go_callV rfl rfl rfl (by omega) rfl (by decide) (by decide) hX.m.1 ?_
                    refine s_Mo_lookS (i := k10) hX10 (by omega) hS10.1 ha10 (fun hj11 => ⟨ne_i, ?_⟩) (fun hj11 => ⟨ne_i, ?_⟩)
                    · -- ('i', 't k10')
                      have hink := hj11
                      show Go d 246 0 0 116 [.ref (ad 10 0), .int (t q), .long v10, .retAddr 1, .retAddr 0] [.int (t k10)] (mm M f10 g) R
                      refine go_blk 1 [] (pc' := 118) (vs' := [.ref (ad 10 0), .int (t q), .long v10, .retAddr 1, .retAddr 0]) (st' := [.int 41, .int (t k10)]) (M' := mm M f10 g) (ps := []) rfl trivial ?_
                      refine go_icmp rfl (fun (c12 : (t k10) = 41) => ?_) (fun (c12 : ¬ ((t k10) = 41)) => ?_)
                      · -- (t k10) = 41
                        have hc41 : t k10 = 41 := c12
                        refine go_blk 13 [some (.int (nI k10)), some (.int (nI (dp + 1)))] (pc' := 147) (vs' := [.ref (ad 10 0), .int (t q), .long v10, .retAddr 1, .retAddr 0]) (st' := [.long v10]) (M' := mm M (up2 (up2 f10 (ad 10 0) 85 ((nI k10) + 1)) (ad 10 0) 87 ((nI (dp + 1)) - 1)) g) (ps := [(.ref (ad 10 0) : Value).category = 1, ob (mm M f10 g) (ad 10 0) 12, (Value.int (f10 (ad 10 0) 85)) = .int (nI k10), ob (mm M f10 g) (ad 10 0) 12, (.ref (ad 10 0) : Value).category = 1, ob (mm M (up2 f10 (ad 10 0) 85 ((nI k10) + 1)) g) (ad 10 0) 12, (Value.int ((up2 f10 (ad 10 0) 85 ((nI k10) + 1)) (ad 10 0) 87)) = .int (nI (dp + 1)), ob (mm M (up2 f10 (ad 10 0) 85 ((nI k10) + 1)) g) (ad 10 0) 12]) rfl ⟨rfl, hX.m.1, congrArg Value.int ha10, hX.m.1, rfl, hX.m.1, congrArg Value.int (((up2_n _ _ (fun z => absurd z.2 (by decide))).trans (rfl)).trans hdp10), hX.m.1, trivial⟩ ?_
                        refine go_lret rfl rfl ?_
                        refine hV v10 (k10 + 1) _ (by rw [if_neg (fun z => absurd z.2 (by rw [(Classical.not_not.mp c8)]; decide)), if_pos ⟨hin, (Classical.not_not.mp c8)⟩, parR, hr10]; simp only []; rw [hS10.1, if_pos ⟨hink, hc41⟩]) ((((((MK.refl.up (by omega)).up (by omega)).up (by omega)).trans hk10).up (by omega)).up (by omega)) ⟨((up2_n _ _ (fun z => absurd z.2 (by decide))).trans (up2_s _ _ _ _)).trans (nI_add k10 1), ((up2_n _ _ (fun z => absurd z.2 (by decide))).trans ((up2_n _ _ (fun z => absurd z.2 (by decide))).trans (rfl))).trans hf10, (up2_s _ _ _ _).trans (nI_pred dp)⟩
                      · -- ¬ ((t k10) = 41)
                        have hn41 : ¬ (k10 < L ∧ t k10 = 41) := fun z => c12 z.2
                        refine go_blk 1 [] (pc' := 122) (vs' := [.ref (ad 10 0), .int (t q), .long v10, .retAddr 1, .retAddr 0]) (st' := [.ref (ad 10 0)]) (M' := mm M f10 g) (ps := []) rfl trivial ?_
                        refine go_callV rfl rfl rfl (by omega) rfl (by decide) (by decide) hX.m.1 ?_
                        show Go (d - 1) 242 0 0 0 [.ref (ad 10 0)] [] (mm M f10 g) _
                        refine go_blk 3 [some (.int (-1))] (pc' := 5) (vs' := [.ref (ad 10 0)]) (st' := [.int (-1), .int (-1)]) (M' := mm M f10 g) (ps := [ob (mm M f10 g) (ad 10 0) 12, (Value.int (f10 (ad 10 0) 86)) = .int (-1)]) rfl ⟨hX.m.1, congrArg Value.int hf10, trivial⟩ ?_
                        refine go_icmp rfl (fun (z : ¬ ((-1) : Int32) = (-1)) => absurd z (show ¬ (¬ ((-1) : Int32) = (-1)) from (by decide))) (fun _ => ?_)
                        refine go_blk 5 [some (.int (nI k10))] (pc' := 17) (vs' := [.ref (ad 10 0)]) (st' := [.long 0]) (M' := mm M (up2 f10 (ad 10 0) 86 (nI k10)) g) (ps := [ob (mm M f10 g) (ad 10 0) 12, (Value.int (f10 (ad 10 0) 85)) = .int (nI k10), ob (mm M f10 g) (ad 10 0) 12]) rfl ⟨hX.m.1, congrArg Value.int ha10, hX.m.1, trivial⟩ ?_
                        refine go_lret rfl rfl ?_
                        refine ⟨ne_l, ?_⟩
                        show Go d 246 0 0 125 [.ref (ad 10 0), .int (t q), .long v10, .retAddr 1, .retAddr 0] [.long 0] (mm M (up2 f10 (ad 10 0) 86 (nI k10)) g) R
                        refine go_lret rfl rfl ?_
                        refine hE k10 _ _ (by rw [if_neg (fun z => absurd z.2 (by rw [(Classical.not_not.mp c8)]; decide)), if_pos ⟨hin, (Classical.not_not.mp c8)⟩, parR, hr10]; simp only []; rw [hS10.1, if_neg hn41]) (by omega) (((((MK.refl.up (by omega)).up (by omega)).up (by omega)).trans hk10).up (by omega)) (up2_s _ _ _ _)
                    · -- ('i', '(-1)')
                      have hn41 : ¬ (k10 < L ∧ t k10 = 41) := fun z => hj11 z.1
                      show Go d 246 0 0 116 [.ref (ad 10 0), .int (t q), .long v10, .retAddr 1, .retAddr 0] [.int (-1)] (mm M f10 g) R
                      refine go_blk 1 [] (pc' := 118) (vs' := [.ref (ad 10 0), .int (t q), .long v10, .retAddr 1, .retAddr 0]) (st' := [.int 41, .int (-1)]) (M' := mm M f10 g) (ps := []) rfl trivial ?_
                      refine go_icmp rfl (fun (z : ((-1) : Int32) = 41) => absurd z (show ¬ (((-1) : Int32) = 41) from (by decide))) (fun _ => ?_)
                      refine go_blk 1 [] (pc' := 122) (vs' := [.ref (ad 10 0), .int (t q), .long v10, .retAddr 1, .retAddr 0]) (st' := [.ref (ad 10 0)]) (M' := mm M f10 g) (ps := []) rfl trivial ?_
                      refine go_callV rfl rfl rfl (by omega) rfl (by decide) (by decide) hX.m.1 ?_
                      show Go (d - 1) 242 0 0 0 [.ref (ad 10 0)] [] (mm M f10 g) _
                      refine go_blk 3 [some (.int (-1))] (pc' := 5) (vs' := [.ref (ad 10 0)]) (st' := [.int (-1), .int (-1)]) (M' := mm M f10 g) (ps := [ob (mm M f10 g) (ad 10 0) 12, (Value.int (f10 (ad 10 0) 86)) = .int (-1)]) rfl ⟨hX.m.1, congrArg Value.int hf10, trivial⟩ ?_
                      refine go_icmp rfl (fun (z : ¬ ((-1) : Int32) = (-1)) => absurd z (show ¬ (¬ ((-1) : Int32) = (-1)) from (by decide))) (fun _ => ?_)
                      refine go_blk 5 [some (.int (nI k10))] (pc' := 17) (vs' := [.ref (ad 10 0)]) (st' := [.long 0]) (M' := mm M (up2 f10 (ad 10 0) 86 (nI k10)) g) (ps := [ob (mm M f10 g) (ad 10 0) 12, (Value.int (f10 (ad 10 0) 85)) = .int (nI k10), ob (mm M f10 g) (ad 10 0) 12]) rfl ⟨hX.m.1, congrArg Value.int ha10, hX.m.1, trivial⟩ ?_
                      refine go_lret rfl rfl ?_
                      refine ⟨ne_l, ?_⟩
                      show Go d 246 0 0 125 [.ref (ad 10 0), .int (t q), .long v10, .retAddr 1, .retAddr 0] [.long 0] (mm M (up2 f10 (ad 10 0) 86 (nI k10)) g) R
                      refine go_lret rfl rfl ?_
                      refine hE k10 _ _ (by rw [if_neg (fun z => absurd z.2 (by rw [(Classical.not_not.mp c8)]; decide)), if_pos ⟨hin, (Classical.not_not.mp c8)⟩, parR, hr10]; simp only []; rw [hS10.1, if_neg hn41]) (by omega) (((((MK.refl.up (by omega)).up (by omega)).up (by omega)).trans hk10).up (by omega)) (up2_s _ _ _ _)
              · -- ¬ (¬ (t q) = 104)
                refine go_blk 8 [some (.int (nI q))] (pc' := 53) (vs' := [.ref (ad 10 0), .int (t q), .retAddr 0, .retAddr 0, .retAddr 0]) (st' := [.int (t q), .ref (ad 10 0)]) (M' := mm M (up2 (up2 f (ad 10 0) 85 (nI q)) (ad 10 0) 85 ((nI q) + 1)) g) (ps := [(.ref (ad 10 0) : Value).category = 1, ob (mm M (up2 f (ad 10 0) 85 (nI q)) g) (ad 10 0) 12, (Value.int ((up2 f (ad 10 0) 85 (nI q)) (ad 10 0) 85)) = .int (nI q), ob (mm M (up2 f (ad 10 0) 85 (nI q)) g) (ad 10 0) 12]) rfl ⟨rfl, hX.m.1, congrArg Value.int (up2_s _ _ _ _), hX.m.1, trivial⟩ ?_
                refine go_callV rfl rfl rfl (by omega) rfl (by decide) (by decide) hX.m.1 ?_
                refine s_Mo_letter (lv := lv) (by omega) (hX.keep ((MK.refl.up (by omega)).up (by omega))) (by rw [(Classical.not_not.mp c7)]; decide) ⟨ne_l, ?_⟩
                show Go d 246 0 0 56 [.ref (ad 10 0), .int (t q), .retAddr 0, .retAddr 0, .retAddr 0] [.long (lv (t q))] (mm M (up2 (up2 f (ad 10 0) 85 (nI q)) (ad 10 0) 85 ((nI q) + 1)) g) R
                refine go_lret rfl rfl ?_
                refine hV _ (q + 1) _ (if_pos ⟨hin, by rw [(Classical.not_not.mp c7)]; decide⟩) ((MK.refl.up (by omega)).up (by omega)) ⟨((up2_s _ _ _ _).trans (nI_add q 1)), (((up2_n _ _ (fun z => absurd z.2 (by decide))).trans ((up2_n _ _ (fun z => absurd z.2 (by decide))).trans (rfl))).trans hf), (((up2_n _ _ (fun z => absurd z.2 (by decide))).trans ((up2_n _ _ (fun z => absurd z.2 (by decide))).trans (rfl))).trans hdp)⟩
  · -- ('i', '(-1)')
    have hin : ¬ q < L := hj1
    show Go d 246 0 0 4 [.ref (ad 10 0), .retAddr 0, .retAddr 0, .retAddr 0, .retAddr 0] [.int (-1)] (mm M (up2 f (ad 10 0) 85 (nI q)) g) R
    refine go_blk 3 [] (pc' := 8) (vs' := [.ref (ad 10 0), .int (-1), .retAddr 0, .retAddr 0, .retAddr 0]) (st' := [.int 99, .int (-1)]) (M' := mm M (up2 f (ad 10 0) 85 (nI q)) g) (ps := []) rfl trivial ?_
    refine go_icmp rfl (fun (z : ((-1) : Int32) = 99) => absurd z (show ¬ (((-1) : Int32) = 99) from (by decide))) (fun _ => ?_)
    refine go_blk 2 [] (pc' := 14) (vs' := [.ref (ad 10 0), .int (-1), .retAddr 0, .retAddr 0, .retAddr 0]) (st' := [.int 108, .int (-1)]) (M' := mm M (up2 f (ad 10 0) 85 (nI q)) g) (ps := []) rfl trivial ?_
    refine go_icmp rfl (fun (z : ((-1) : Int32) = 108) => absurd z (show ¬ (((-1) : Int32) = 108) from (by decide))) (fun _ => ?_)
    refine go_blk 2 [] (pc' := 20) (vs' := [.ref (ad 10 0), .int (-1), .retAddr 0, .retAddr 0, .retAddr 0]) (st' := [.int 114, .int (-1)]) (M' := mm M (up2 f (ad 10 0) 85 (nI q)) g) (ps := []) rfl trivial ?_
    refine go_icmp rfl (fun (z : ((-1) : Int32) = 114) => absurd z (show ¬ (((-1) : Int32) = 114) from (by decide))) (fun _ => ?_)
    refine go_blk 2 [] (pc' := 26) (vs' := [.ref (ad 10 0), .int (-1), .retAddr 0, .retAddr 0, .retAddr 0]) (st' := [.int 103, .int (-1)]) (M' := mm M (up2 f (ad 10 0) 85 (nI q)) g) (ps := []) rfl trivial ?_
    refine go_icmp rfl (fun (z : ((-1) : Int32) = 103) => absurd z (show ¬ (((-1) : Int32) = 103) from (by decide))) (fun _ => ?_)
    refine go_blk 2 [] (pc' := 32) (vs' := [.ref (ad 10 0), .int (-1), .retAddr 0, .retAddr 0, .retAddr 0]) (st' := [.int 100, .int (-1)]) (M' := mm M (up2 f (ad 10 0) 85 (nI q)) g) (ps := []) rfl trivial ?_
    refine go_icmp rfl (fun (z : ((-1) : Int32) = 100) => absurd z (show ¬ (((-1) : Int32) = 100) from (by decide))) (fun _ => ?_)
    refine go_blk 2 [] (pc' := 38) (vs' := [.ref (ad 10 0), .int (-1), .retAddr 0, .retAddr 0, .retAddr 0]) (st' := [.int 104, .int (-1)]) (M' := mm M (up2 f (ad 10 0) 85 (nI q)) g) (ps := []) rfl trivial ?_
    refine go_icmp rfl (fun _ => ?_) (fun (z : ¬ (¬ ((-1) : Int32) = 104)) => absurd (show ¬ ((-1) : Int32) = 104 from (by decide)) z)
    refine go_blk 2 [] (pc' := 60) (vs' := [.ref (ad 10 0), .int (-1), .retAddr 0, .retAddr 0, .retAddr 0]) (st' := [.int 40, .int (-1)]) (M' := mm M (up2 f (ad 10 0) 85 (nI q)) g) (ps := []) rfl trivial ?_
    refine go_icmp rfl (fun _ => ?_) (fun (z : ¬ (¬ ((-1) : Int32) = 40)) => absurd (show ¬ ((-1) : Int32) = 40 from (by decide)) z)
    refine go_blk 1 [] (pc' := 149) (vs' := [.ref (ad 10 0), .int (-1), .retAddr 0, .retAddr 0, .retAddr 0]) (st' := [.ref (ad 10 0)]) (M' := mm M (up2 f (ad 10 0) 85 (nI q)) g) (ps := []) rfl trivial ?_
    refine go_callV rfl rfl rfl (by omega) rfl (by decide) (by decide) hX.m.1 ?_
    refine s_Mo_isDigit (i := q) (hX.keep (MK.refl.up (by omega))) hqL (up2_s _ _ _ _) (fun hd13 => ⟨ne_i, ?_⟩) (fun hd13 => ⟨ne_i, ?_⟩)
    · -- ('i', '1')
      exact absurd hd13.1 hin
    · -- ('i', '0')
      show Go d 246 0 0 152 [.ref (ad 10 0), .int (-1), .retAddr 0, .retAddr 0, .retAddr 0] [.int 0] (mm M (up2 f (ad 10 0) 85 (nI q)) g) R
      refine go_if rfl (fun (z : ¬ (0 : Int32) = 0) => absurd z (show ¬ (¬ (0 : Int32) = 0) from (by decide))) (fun _ => ?_)
      refine go_blk 1 [] (pc' := 156) (vs' := [.ref (ad 10 0), .int (-1), .retAddr 0, .retAddr 0, .retAddr 0]) (st' := [.ref (ad 10 0)]) (M' := mm M (up2 f (ad 10 0) 85 (nI q)) g) (ps := []) rfl trivial ?_
      refine go_callV rfl rfl rfl (by omega) rfl (by decide) (by decide) hX.m.1 ?_
      show Go (d - 1) 242 0 0 0 [.ref (ad 10 0)] [] (mm M (up2 f (ad 10 0) 85 (nI q)) g) _
      refine go_blk 3 [some (.int (-1))] (pc' := 5) (vs' := [.ref (ad 10 0)]) (st' := [.int (-1), .int (-1)]) (M' := mm M (up2 f (ad 10 0) 85 (nI q)) g) (ps := [ob (mm M (up2 f (ad 10 0) 85 (nI q)) g) (ad 10 0) 12, (Value.int ((up2 f (ad 10 0) 85 (nI q)) (ad 10 0) 86)) = .int (-1)]) rfl ⟨hX.m.1, congrArg Value.int (((up2_n _ _ (fun z => absurd z.2 (by decide))).trans (rfl)).trans hf), trivial⟩ ?_
      refine go_icmp rfl (fun (z : ¬ ((-1) : Int32) = (-1)) => absurd z (show ¬ (¬ ((-1) : Int32) = (-1)) from (by decide))) (fun _ => ?_)
      refine go_blk 5 [some (.int (nI q))] (pc' := 17) (vs' := [.ref (ad 10 0)]) (st' := [.long 0]) (M' := mm M (up2 (up2 f (ad 10 0) 85 (nI q)) (ad 10 0) 86 (nI q)) g) (ps := [ob (mm M (up2 f (ad 10 0) 85 (nI q)) g) (ad 10 0) 12, (Value.int ((up2 f (ad 10 0) 85 (nI q)) (ad 10 0) 85)) = .int (nI q), ob (mm M (up2 f (ad 10 0) 85 (nI q)) g) (ad 10 0) 12]) rfl ⟨hX.m.1, congrArg Value.int (up2_s _ _ _ _), hX.m.1, trivial⟩ ?_
      refine go_lret rfl rfl ?_
      refine ⟨ne_l, ?_⟩
      show Go d 246 0 0 159 [.ref (ad 10 0), .int (-1), .retAddr 0, .retAddr 0, .retAddr 0] [.long 0] (mm M (up2 (up2 f (ad 10 0) 85 (nI q)) (ad 10 0) 86 (nI q)) g) R
      refine go_lret rfl rfl ?_
      refine hE q _ _ (by rw [if_neg (fun z => hin z.1), if_neg (fun z => hin z.1), if_neg (fun z => hin z.1)]) (by omega) ((MK.refl.up (by omega)).up (by omega)) (up2_s _ _ _ _)

