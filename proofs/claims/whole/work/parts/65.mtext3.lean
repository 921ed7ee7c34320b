/-! texts: the model's clauses, and the whole text -/
def MK2 (ad : Nat → Nat → Nat) (f f' : Nat → Nat → Int32) : Prop := ∀ b k, ¬ (b = ad 10 0 ∧ ((85 ≤ k ∧ k ≤ 87) ∨ k = 89)) → f' b k = f b k
theorem MK2.of {ad : Nat → Nat → Nat} {f f1 : Nat → Nat → Int32} (h : MK ad f f1) : MK2 ad f f1 := fun b k hn => h b k (fun z => hn ⟨z.1, Or.inl z.2⟩)
theorem MK2.trans {ad : Nat → Nat → Nat} {f f1 f2 : Nat → Nat → Int32} (h1 : MK2 ad f f1) (h2 : MK2 ad f1 f2) : MK2 ad f f2 := fun b k h => (h2 b k h).trans (h1 b k h)
theorem MK2.up {ad : Nat → Nat → Nat} {f f1 : Nat → Nat → Int32} {k : Nat} {v : Int32} (h1 : MK2 ad f f1) (h : (85 ≤ k ∧ k ≤ 87) ∨ k = 89) : MK2 ad f (up2 f1 (ad 10 0) k v) := fun b k' hn => (up2_n _ _ (fun z => hn ⟨z.1, by rw [z.2]; exact h⟩)).trans (h1 b k' hn)
theorem MX.keep2 {M : Mem} {ad : Nat → Nat → Nat} {A fr L : Nat} {t : Nat → Int32} {lv : Int32 → Int64} {j : Nat} {f f' : Nat → Nat → Int32} (h : MX M ad A fr L t lv j f) (k : MK2 ad f f') : MX M ad A fr L t lv j f' := by
  obtain ⟨h0, h1, h2, h3, h4, h5⟩ := h
  have hi := h0.2.1
  have hA : ¬ A = ad 10 0 := by
    rcases h0.2.2.1 with z | z <;> rw [z] <;> exact fun y => absurd (hi _ _ _ _ y).1 (by decide)
  have k9 : ∀ i q, f' (ad 9 i) q = f (ad 9 i) q := fun i q => k _ _ (fun z => absurd (hi _ _ _ _ z.1).1 (by decide))
  refine ⟨h0, (k _ _ (by omega)).trans h1, (k _ _ (by omega)).trans h2, (k _ _ (by omega)).trans h3, fun q hq => ?_, fun b hb => ?_⟩
  · rw [k _ _ (fun z => hA z.1)]; exact h4 q hq
  · rw [h5 b hb]; unfold lvM; rw [k9, k9, k9, k9, k9, k9, k9]
def GK (ad : Nat → Nat → Nat) (g g' : Nat → Nat → Int64) : Prop := ∀ b k, ¬ (b = ad 10 0 ∧ k = 90) → g' b k = g b k
/-- what has been paid -/
def PD (ad : Nat → Nat → Nat) (f : Nat → Nat → Int32) (g : Nat → Nat → Int64) (o : Option Int64) : Prop := match o with
  | some v => f (ad 10 0) 89 = 1 ∧ g (ad 10 0) 90 = v
  | none => f (ad 10 0) 89 = 0 ∧ g (ad 10 0) 90 = 0
def orO (o : Option Int64) (b : Bool) (v : Int64) : Option Int64 := match o with | some a => some a | none => if b = true then some v else none

set_option maxRecDepth 100000 in
theorem s_Mo_holds {d : Nat} {M : Mem} {g : Nat → Nat → Int64} {ad : Nat → Nat → Nat} {A fr L j : Nat} {t : Nat → Int32} {lv : Int32 → Int64} {f : Nat → Nat → Int32} {R : Option Value → Mem → Prop} {one : Int64} {k : Nat} (hd : 40 ≤ d) (hX : MX M ad A fr L t lv j f) (hP : PS ad f k 0) (hin : k < L) (hkk : sk t L k = k) (hsg : isSg (t k) = true) (hE : ∀ e b f', sumM t L lv (parR t L lv 6) (k + 1) = .inl e → e ≤ 120 → MK ad f f' → f' (ad 10 0) 86 = nI e → (b = 0 ∨ b = 1) → R (some (.int b)) (mm M f' g)) (hV : ∀ w k2 f', sumM t L lv (parR t L lv 6) (k + 1) = .inr (w, k2) → MK ad f f' → PS ad f' k2 0 → R (some (.int (if cmpV (t k) one w = true then 1 else 0))) (mm M f' g)) : Call d 250 [.ref (ad 10 0), .long one] (mm M f g) R := by
  obtain ⟨ha, hf, hdp⟩ := hP
  have hL0 := hX.1.2.2.2.2.2.2.1
  show Go d 250 0 0 0 [.ref (ad 10 0), .long one, .retAddr 1, .retAddr 0, .retAddr 0, .retAddr 0] [] (mm M f g) R
  refine go_blk 1 [] (pc' := 1) (vs' := [.ref (ad 10 0), .long one, .retAddr 1, .retAddr 0, .retAddr 0, .retAddr 0]) (st' := [.ref (ad 10 0)]) (M' := mm M f g) (ps := []) rfl trivial ?_
  refine go_callV rfl rfl rfl (by omega) rfl (by decide) (by decide) hX.m.1 ?_
  refine s_Mo_lookS (i := k) hX (by omega) hkk ha (fun hj1 => ⟨ne_i, ?_⟩) (fun hj1 => ⟨ne_i, ?_⟩)
  · -- ('i', 't k')
    show Go d 250 0 0 4 [.ref (ad 10 0), .long one, .retAddr 1, .retAddr 0, .retAddr 0, .retAddr 0] [.int (t k)] (mm M f g) R
    refine go_blk 8 [some (.int (nI k))] (pc' := 16) (vs' := [.ref (ad 10 0), .long one, .retAddr 1, .int (t k), .retAddr 0, .retAddr 0]) (st' := [.ref (ad 10 0)]) (M' := mm M (up2 f (ad 10 0) 85 ((nI k) + 1)) g) (ps := [(.ref (ad 10 0) : Value).category = 1, ob (mm M f g) (ad 10 0) 12, (Value.int (f (ad 10 0) 85)) = .int (nI k), ob (mm M f g) (ad 10 0) 12]) rfl ⟨rfl, hX.m.1, congrArg Value.int ha, hX.m.1, trivial⟩ ?_
    refine go_callV rfl rfl rfl (by omega) rfl (by decide) (by decide) hX.m.1 ?_
    refine sumsC 6 0 _ rfl (by omega) _ _ (k + 1) (by omega) (hX.keep (MK.refl.up (by omega))) ⟨((up2_s _ _ _ _).trans (nI_add k 1)), (((up2_n _ _ (fun z => absurd z.2 (by decide))).trans (rfl)).trans hf), (((up2_n _ _ (fun z => absurd z.2 (by decide))).trans (rfl)).trans hdp)⟩ (fun e2 w2 f2 hr2 hl2 hk2 hf2 => ⟨ne_l, ?_⟩) (fun w2 k2 f2 hr2 hk2 hp2 => ⟨ne_l, ?_⟩)
    · -- ('j', 'w#')
      show Go d 250 0 0 19 [.ref (ad 10 0), .long one, .retAddr 1, .int (t k), .retAddr 0, .retAddr 0] [.long w2] (mm M f2 g) R
      refine go_blk 3 [] (pc' := 24) (vs' := [.ref (ad 10 0), .long one, .retAddr 1, .int (t k), .long w2, .retAddr 1]) (st' := [.int 61, .int (t k)]) (M' := mm M f2 g) (ps := []) rfl trivial ?_
      refine go_icmp rfl (fun (c3 : ¬ (t k) = 61) => ?_) (fun (c3 : ¬ (¬ (t k) = 61)) => ?_)
      · -- ¬ (t k) = 61
        refine go_blk 2 [] (pc' := 45) (vs' := [.ref (ad 10 0), .long one, .retAddr 1, .int (t k), .long w2, .retAddr 1]) (st' := [.int 60, .int (t k)]) (M' := mm M f2 g) (ps := []) rfl trivial ?_
        refine go_icmp rfl (fun (c4 : ¬ (t k) = 60) => ?_) (fun (c4 : ¬ (¬ (t k) = 60)) => ?_)
        · -- ¬ (t k) = 60
          refine go_blk 3 [] (pc' := 67) (vs' := [.ref (ad 10 0), .long one, .retAddr 1, .int (t k), .long w2, .retAddr 1]) (st' := [.int (lg_cmp one w2)]) (M' := mm M f2 g) (ps := []) rfl trivial ?_
          refine go_if rfl (fun (c5 : (lg_cmp one w2) ≤ 0) => ?_) (fun (c5 : ¬ ((lg_cmp one w2) ≤ 0)) => ?_)
          · -- (lg_cmp one w2) ≤ 0
            refine go_blk 1 [] (pc' := 75) (vs' := [.ref (ad 10 0), .long one, .retAddr 1, .int (t k), .long w2, .retAddr 1]) (st' := [.int 0]) (M' := mm M f2 g) (ps := []) rfl trivial ?_
            refine go_zret rfl rfl (Or.inl rfl) ?_
            exact hE e2 _ _ hr2 hl2 ((MK.refl.up (by omega)).trans hk2) hf2 (by decide)
          · -- ¬ ((lg_cmp one w2) ≤ 0)
            refine go_blk 2 [] (pc' := 75) (vs' := [.ref (ad 10 0), .long one, .retAddr 1, .int (t k), .long w2, .retAddr 1]) (st' := [.int 1]) (M' := mm M f2 g) (ps := []) rfl trivial ?_
            refine go_zret rfl rfl (Or.inr rfl) ?_
            exact hE e2 _ _ hr2 hl2 ((MK.refl.up (by omega)).trans hk2) hf2 (by decide)
        · -- ¬ (¬ (t k) = 60)
          refine go_blk 3 [] (pc' := 52) (vs' := [.ref (ad 10 0), .long one, .retAddr 1, .int (t k), .long w2, .retAddr 1]) (st' := [.int (lg_cmp one w2)]) (M' := mm M f2 g) (ps := []) rfl trivial ?_
          refine go_if rfl (fun (c6 : 0 ≤ (lg_cmp one w2)) => ?_) (fun (c6 : ¬ (0 ≤ (lg_cmp one w2))) => ?_)
          · -- 0 ≤ (lg_cmp one w2)
            refine go_blk 2 [] (pc' := 75) (vs' := [.ref (ad 10 0), .long one, .retAddr 1, .int (t k), .long w2, .retAddr 1]) (st' := [.int 0]) (M' := mm M f2 g) (ps := []) rfl trivial ?_
            refine go_zret rfl rfl (Or.inl rfl) ?_
            exact hE e2 _ _ hr2 hl2 ((MK.refl.up (by omega)).trans hk2) hf2 (by decide)
          · -- ¬ (0 ≤ (lg_cmp one w2))
            refine go_blk 2 [] (pc' := 75) (vs' := [.ref (ad 10 0), .long one, .retAddr 1, .int (t k), .long w2, .retAddr 1]) (st' := [.int 1]) (M' := mm M f2 g) (ps := []) rfl trivial ?_
            refine go_zret rfl rfl (Or.inr rfl) ?_
            exact hE e2 _ _ hr2 hl2 ((MK.refl.up (by omega)).trans hk2) hf2 (by decide)
      · -- ¬ (¬ (t k) = 61)
        refine go_blk 3 [] (pc' := 31) (vs' := [.ref (ad 10 0), .long one, .retAddr 1, .int (t k), .long w2, .retAddr 1]) (st' := [.int (lg_cmp one w2)]) (M' := mm M f2 g) (ps := []) rfl trivial ?_
        refine go_if rfl (fun (c7 : ¬ (lg_cmp one w2) = 0) => ?_) (fun (c7 : ¬ (¬ (lg_cmp one w2) = 0)) => ?_)
        · -- ¬ (lg_cmp one w2) = 0
          refine go_blk 2 [] (pc' := 75) (vs' := [.ref (ad 10 0), .long one, .retAddr 1, .int (t k), .long w2, .retAddr 1]) (st' := [.int 0]) (M' := mm M f2 g) (ps := []) rfl trivial ?_
          refine go_zret rfl rfl (Or.inl rfl) ?_
          exact hE e2 _ _ hr2 hl2 ((MK.refl.up (by omega)).trans hk2) hf2 (by decide)
        · -- ¬ (¬ (lg_cmp one w2) = 0)
          refine go_blk 2 [] (pc' := 75) (vs' := [.ref (ad 10 0), .long one, .retAddr 1, .int (t k), .long w2, .retAddr 1]) (st' := [.int 1]) (M' := mm M f2 g) (ps := []) rfl trivial ?_
          refine go_zret rfl rfl (Or.inr rfl) ?_
          exact hE e2 _ _ hr2 hl2 ((MK.refl.up (by omega)).trans hk2) hf2 (by decide)
    · -- ('j', 'w#')
      show Go d 250 0 0 19 [.ref (ad 10 0), .long one, .retAddr 1, .int (t k), .retAddr 0, .retAddr 0] [.long w2] (mm M f2 g) R
      refine go_blk 3 [] (pc' := 24) (vs' := [.ref (ad 10 0), .long one, .retAddr 1, .int (t k), .long w2, .retAddr 1]) (st' := [.int 61, .int (t k)]) (M' := mm M f2 g) (ps := []) rfl trivial ?_
      refine go_icmp rfl (fun (c8 : ¬ (t k) = 61) => ?_) (fun (c8 : ¬ (¬ (t k) = 61)) => ?_)
      · -- ¬ (t k) = 61
        refine go_blk 2 [] (pc' := 45) (vs' := [.ref (ad 10 0), .long one, .retAddr 1, .int (t k), .long w2, .retAddr 1]) (st' := [.int 60, .int (t k)]) (M' := mm M f2 g) (ps := []) rfl trivial ?_
        refine go_icmp rfl (fun (c9 : ¬ (t k) = 60) => ?_) (fun (c9 : ¬ (¬ (t k) = 60)) => ?_)
        · -- ¬ (t k) = 60
          refine go_blk 3 [] (pc' := 67) (vs' := [.ref (ad 10 0), .long one, .retAddr 1, .int (t k), .long w2, .retAddr 1]) (st' := [.int (lg_cmp one w2)]) (M' := mm M f2 g) (ps := []) rfl trivial ?_
          refine go_if rfl (fun (c10 : (lg_cmp one w2) ≤ 0) => ?_) (fun (c10 : ¬ ((lg_cmp one w2) ≤ 0)) => ?_)
          · -- (lg_cmp one w2) ≤ 0
            refine go_blk 1 [] (pc' := 75) (vs' := [.ref (ad 10 0), .long one, .retAddr 1, .int (t k), .long w2, .retAddr 1]) (st' := [.int 0]) (M' := mm M f2 g) (ps := []) rfl trivial ?_
            refine go_zret rfl rfl (Or.inl rfl) ?_
            have e : (if cmpV (t k) one w2 = true then (1 : Int32) else 0) = 0 := by
              have q1 := lg_lt one w2
              have q2 := lg_gt one w2
              have q3 := lg_eq one w2
              clear hE hV hX
              unfold cmpV
              grind
            have z := hV w2 k2 _ hr2 ((MK.refl.up (by omega)).trans hk2) hp2
            rw [e] at z; exact z
          · -- ¬ ((lg_cmp one w2) ≤ 0)
            refine go_blk 2 [] (pc' := 75) (vs' := [.ref (ad 10 0), .long one, .retAddr 1, .int (t k), .long w2, .retAddr 1]) (st' := [.int 1]) (M' := mm M f2 g) (ps := []) rfl trivial ?_
            refine go_zret rfl rfl (Or.inr rfl) ?_
            have e : (if cmpV (t k) one w2 = true then (1 : Int32) else 0) = 1 := by
              have q1 := lg_lt one w2
              have q2 := lg_gt one w2
              have q3 := lg_eq one w2
              clear hE hV hX
              unfold cmpV
              grind
            have z := hV w2 k2 _ hr2 ((MK.refl.up (by omega)).trans hk2) hp2
            rw [e] at z; exact z
        · -- ¬ (¬ (t k) = 60)
          refine go_blk 3 [] (pc' := 52) (vs' := [.ref (ad 10 0), .long one, .retAddr 1, .int (t k), .long w2, .retAddr 1]) (st' := [.int (lg_cmp one w2)]) (M' := mm M f2 g) (ps := []) rfl trivial ?_
          refine go_if rfl (fun (c11 : 0 ≤ (lg_cmp one w2)) => ?_) (fun (c11 : ¬ (0 ≤ (lg_cmp one w2))) => ?_)
          · -- 0 ≤ (lg_cmp one w2)
            refine go_blk 2 [] (pc' := 75) (vs' := [.ref (ad 10 0), .long one, .retAddr 1, .int (t k), .long w2, .retAddr 1]) (st' := [.int 0]) (M' := mm M f2 g) (ps := []) rfl trivial ?_
            refine go_zret rfl rfl (Or.inl rfl) ?_
            have e : (if cmpV (t k) one w2 = true then (1 : Int32) else 0) = 0 := by
              have q1 := lg_lt one w2
              have q2 := lg_gt one w2
              have q3 := lg_eq one w2
              clear hE hV hX
              unfold cmpV
              grind
            have z := hV w2 k2 _ hr2 ((MK.refl.up (by omega)).trans hk2) hp2
            rw [e] at z; exact z
          · -- ¬ (0 ≤ (lg_cmp one w2))
            refine go_blk 2 [] (pc' := 75) (vs' := [.ref (ad 10 0), .long one, .retAddr 1, .int (t k), .long w2, .retAddr 1]) (st' := [.int 1]) (M' := mm M f2 g) (ps := []) rfl trivial ?_
            refine go_zret rfl rfl (Or.inr rfl) ?_
            have e : (if cmpV (t k) one w2 = true then (1 : Int32) else 0) = 1 := by
              have q1 := lg_lt one w2
              have q2 := lg_gt one w2
              have q3 := lg_eq one w2
              clear hE hV hX
              unfold cmpV
              grind
            have z := hV w2 k2 _ hr2 ((MK.refl.up (by omega)).trans hk2) hp2
            rw [e] at z; exact z
      · -- ¬ (¬ (t k) = 61)
        refine go_blk 3 [] (pc' := 31) (vs' := [.ref (ad 10 0), .long one, .retAddr 1, .int (t k), .long w2, .retAddr 1]) (st' := [.int (lg_cmp one w2)]) (M' := mm M f2 g) (ps := []) rfl trivial ?_
        refine go_if rfl (fun (c12 : ¬ (lg_cmp one w2) = 0) => ?_) (fun (c12 : ¬ (¬ (lg_cmp one w2) = 0)) => ?_)
        · -- ¬ (lg_cmp one w2) = 0
          refine go_blk 2 [] (pc' := 75) (vs' := [.ref (ad 10 0), .long one, .retAddr 1, .int (t k), .long w2, .retAddr 1]) (st' := [.int 0]) (M' := mm M f2 g) (ps := []) rfl trivial ?_
          refine go_zret rfl rfl (Or.inl rfl) ?_
          have e : (if cmpV (t k) one w2 = true then (1 : Int32) else 0) = 0 := by
            have q1 := lg_lt one w2
            have q2 := lg_gt one w2
            have q3 := lg_eq one w2
            clear hE hV hX
            unfold cmpV
            grind
          have z := hV w2 k2 _ hr2 ((MK.refl.up (by omega)).trans hk2) hp2
          rw [e] at z; exact z
        · -- ¬ (¬ (lg_cmp one w2) = 0)
          refine go_blk 2 [] (pc' := 75) (vs' := [.ref (ad 10 0), .long one, .retAddr 1, .int (t k), .long w2, .retAddr 1]) (st' := [.int 1]) (M' := mm M f2 g) (ps := []) rfl trivial ?_
          refine go_zret rfl rfl (Or.inr rfl) ?_
          have e : (if cmpV (t k) one w2 = true then (1 : Int32) else 0) = 1 := by
            have q1 := lg_lt one w2
            have q2 := lg_gt one w2
            have q3 := lg_eq one w2
            clear hE hV hX
            unfold cmpV
            grind
          have z := hV w2 k2 _ hr2 ((MK.refl.up (by omega)).trans hk2) hp2
          rw [e] at z; exact z
  · -- ('i', '(-1)')
    exact absurd hin hj1

set_option maxRecDepth 100000 in
theorem lpF_clauseA {d : Nat} {M : Mem} {f : Nat → Nat → Int32} {g : Nat → Nat → Int64} {ad : Nat → Nat → Nat} {R : Option Value → Mem → Prop} {v0 : Int64} {x1 : Int32} {e : Nat} {u4 u5 : Value} (hM : Mx M ad) (hf : f (ad 10 0) 86 = nI e) (he : e ≤ 120) (hR : R none (mm M f g)) : Go d 251 0 0 31 [.ref (ad 10 0), .int x1, .long v0, .retAddr 1, u4, u5] [] (mm M f g) R := by
  show Go d 251 0 0 31 [.ref (ad 10 0), .int x1, .long v0, .retAddr 1, u4, u5] [] (mm M f g) R
  refine go_blk 3 [some (.int (nI e))] (pc' := 36) (vs' := [.ref (ad 10 0), .int x1, .long v0, .retAddr 1, u4, u5]) (st' := [.int (-1), .int (nI e)]) (M' := mm M f g) (ps := [ob (mm M f g) (ad 10 0) 12, (Value.int (f (ad 10 0) 86)) = .int (nI e)]) rfl ⟨hM.1, congrArg Value.int hf, trivial⟩ ?_
  refine go_icmp rfl (fun _ => ?_) (fun (z : ¬ (¬ (nI e) = (-1))) => absurd (show ¬ (nI e) = (-1) from (nI_m1 (n := e) (by omega))) z)
  refine go_blk 3 [some (.int (nI e))] (pc' := 114) (vs' := [.ref (ad 10 0), .int x1, .long v0, .retAddr 1, u4, u5]) (st' := [.int (-1), .int (nI e)]) (M' := mm M f g) (ps := [ob (mm M f g) (ad 10 0) 12, (Value.int (f (ad 10 0) 86)) = .int (nI e)]) rfl ⟨hM.1, congrArg Value.int hf, trivial⟩ ?_
  refine go_icmp rfl (fun (z : (nI e) = (-1)) => absurd z (show ¬ ((nI e) = (-1)) from (nI_m1 (n := e) (by omega)))) (fun _ => ?_)
  refine go_vret rfl rfl ?_
  exact hR

set_option maxRecDepth 100000 in
theorem lpF_clauseB {d : Nat} {M : Mem} {f : Nat → Nat → Int32} {g : Nat → Nat → Int64} {ad : Nat → Nat → Nat} {R : Option Value → Mem → Prop} {v0 : Int64} {x1 : Int32} {e : Nat} {u4 u5 : Value} (hM : Mx M ad) (hf : f (ad 10 0) 86 = nI e) (he : e ≤ 120) (hR : R none (mm M f g)) : Go d 251 0 0 148 [.ref (ad 10 0), .int x1, .long v0, .retAddr 1, u4, u5] [] (mm M f g) R := by
  show Go d 251 0 0 148 [.ref (ad 10 0), .int x1, .long v0, .retAddr 1, u4, u5] [] (mm M f g) R
  refine go_blk 3 [some (.int (nI e))] (pc' := 153) (vs' := [.ref (ad 10 0), .int x1, .long v0, .retAddr 1, u4, u5]) (st' := [.int (-1), .int (nI e)]) (M' := mm M f g) (ps := [ob (mm M f g) (ad 10 0) 12, (Value.int (f (ad 10 0) 86)) = .int (nI e)]) rfl ⟨hM.1, congrArg Value.int hf, trivial⟩ ?_
  refine go_icmp rfl (fun _ => ?_) (fun (z : ¬ (¬ (nI e) = (-1))) => absurd (show ¬ (nI e) = (-1) from (nI_m1 (n := e) (by omega))) z)
  refine go_vret rfl rfl ?_
  exact hR

set_option maxRecDepth 100000 in
theorem lp_clause {d : Nat} {M : Mem} {g : Nat → Nat → Int64} {ad : Nat → Nat → Nat} {A fr L j : Nat} {t : Nat → Int32} {lv : Int32 → Int64} {v0 : Int64} (hd : 42 ≤ d) : ∀ (m : Nat) (all : Bool) (i : Nat) (f : Nat → Nat → Int32) (R : Option Value → Mem → Prop) (u4 u5 : Value), i ≤ L → L < i + m → MX M ad A fr L t lv j f → PS ad f i 0 → (∀ e f', tstL t L lv m all i = .inl e → e ≤ 120 → MK ad f f' → f' (ad 10 0) 86 = nI e → R none (mm M f' g)) → (∀ b k f' u4 u5, tstL t L lv m all i = .inr (b, k) → MK ad f f' → PS ad f' k 0 → i ≤ k → k ≤ L → sk t L k = k → Go d 251 0 0 109 [.ref (ad 10 0), .int (if b = true then 1 else 0), .long v0, .retAddr 1, u4, u5] [] (mm M f' g) R) → Go d 251 0 0 31 [.ref (ad 10 0), .int (if all = true then 1 else 0), .long v0, .retAddr 1, u4, u5] [] (mm M f g) R := by
  intro m
  induction m with
  | zero => intro all i f R u4 u5 h1 h2; omega
  | succ m ih =>
    intro all i f R u4 u5 hi hm hX hP hE hV
    obtain ⟨ha, hf, hdp⟩ := hP
    have hL0 := hX.1.2.2.2.2.2.2.1
    obtain ⟨q, hq⟩ : ∃ q, sk t L i = q := ⟨_, rfl⟩
    have hqq : sk t L q = q := by rw [← hq]; exact sk_sk hi
    have hqL : q ≤ L := by rw [← hq]; exact (sk_ge hi).2
    have hqi : i ≤ q := by rw [← hq]; exact (sk_ge hi).1
    rw [tstL, hq] at hE hV
    show Go d 251 0 0 31 [.ref (ad 10 0), .int (if all = true then 1 else 0), .long v0, .retAddr 1, u4, u5] [] (mm M f g) R
    refine go_blk 3 [some (.int (-1))] (pc' := 36) (vs' := [.ref (ad 10 0), .int (if all = true then 1 else 0), .long v0, .retAddr 1, u4, u5]) (st' := [.int (-1), .int (-1)]) (M' := mm M f g) (ps := [ob (mm M f g) (ad 10 0) 12, (Value.int (f (ad 10 0) 86)) = .int (-1)]) rfl ⟨hX.m.1, congrArg Value.int hf, trivial⟩ ?_
    refine go_icmp rfl (fun (z : ¬ ((-1) : Int32) = (-1)) => absurd z (show ¬ (¬ ((-1) : Int32) = (-1)) from (by decide))) (fun _ => ?_)
    refine go_blk 1 [] (pc' := 40) (vs' := [.ref (ad 10 0), .int (if all = true then 1 else 0), .long v0, .retAddr 1, u4, u5]) (st' := [.ref (ad 10 0)]) (M' := mm M f g) (ps := []) rfl trivial ?_
    refine go_callV rfl rfl rfl (by omega) rfl (by decide) (by decide) hX.m.1 ?_
    refine s_Mo_lookQ (i := i) (q := q) hX hi ha hq (fun hj1 => ⟨ne_i, ?_⟩) (fun hj1 => ⟨ne_i, ?_⟩)
    · -- ('i', 't q')
      have hin : q < L := hj1
      show Go d 251 0 0 43 [.ref (ad 10 0), .int (if all = true then 1 else 0), .long v0, .retAddr 1, u4, u5] [.int (t q)] (mm M (up2 f (ad 10 0) 85 (nI q)) g) R
      refine go_blk 1 [] (pc' := 45) (vs' := [.ref (ad 10 0), .int (if all = true then 1 else 0), .long v0, .retAddr 1, u4, u5]) (st' := [.int 38, .int (t q)]) (M' := mm M (up2 f (ad 10 0) 85 (nI q)) g) (ps := []) rfl trivial ?_
      refine go_icmp rfl (fun (c2 : ¬ (t q) = 38) => ?_) (fun (c2 : ¬ (¬ (t q) = 38)) => ?_)
      · -- ¬ (t q) = 38
        exact hV all q _ _ _ (if_neg (fun z => c2 z.2)) (MK.refl.up (by omega)) ⟨(up2_s _ _ _ _), (((up2_n _ _ (fun z => absurd z.2 (by decide))).trans (rfl)).trans hf), (((up2_n _ _ (fun z => absurd z.2 (by decide))).trans (rfl)).trans hdp)⟩ hqi hqL hqq
      · -- ¬ (¬ (t q) = 38)
        refine go_blk 7 [some (.int (nI q))] (pc' := 59) (vs' := [.ref (ad 10 0), .int (if all = true then 1 else 0), .long v0, .retAddr 1, u4, u5]) (st' := [.ref (ad 10 0)]) (M' := mm M (up2 (up2 f (ad 10 0) 85 (nI q)) (ad 10 0) 85 ((nI q) + 1)) g) (ps := [(.ref (ad 10 0) : Value).category = 1, ob (mm M (up2 f (ad 10 0) 85 (nI q)) g) (ad 10 0) 12, (Value.int ((up2 f (ad 10 0) 85 (nI q)) (ad 10 0) 85)) = .int (nI q), ob (mm M (up2 f (ad 10 0) 85 (nI q)) g) (ad 10 0) 12]) rfl ⟨rfl, hX.m.1, congrArg Value.int (up2_s _ _ _ _), hX.m.1, trivial⟩ ?_
        refine go_callV rfl rfl rfl (by omega) rfl (by decide) (by decide) hX.m.1 ?_
        refine sumsC 6 0 _ rfl (by omega) _ _ (q + 1) (by omega) (hX.keep ((MK.refl.up (by omega)).up (by omega))) ⟨((up2_s _ _ _ _).trans (nI_add q 1)), (((up2_n _ _ (fun z => absurd z.2 (by decide))).trans ((up2_n _ _ (fun z => absurd z.2 (by decide))).trans (rfl))).trans hf), (((up2_n _ _ (fun z => absurd z.2 (by decide))).trans ((up2_n _ _ (fun z => absurd z.2 (by decide))).trans (rfl))).trans hdp)⟩ (fun e3 w3 f3 hr3 hl3 hk3 hf3 => ⟨ne_l, ?_⟩) (fun v3 k3 f3 hr3 hk3 hp3 => ⟨ne_l, ?_⟩)
        · -- ('j', 'w#')
          show Go d 251 0 0 62 [.ref (ad 10 0), .int (if all = true then 1 else 0), .long v0, .retAddr 1, u4, u5] [.long w3] (mm M f3 g) R
          refine go_blk 4 [some (.int (nI e3))] (pc' := 69) (vs' := [.ref (ad 10 0), .int (if all = true then 1 else 0), .long v0, .retAddr 1, .long w3, .retAddr 1]) (st' := [.int (-1), .int (nI e3)]) (M' := mm M f3 g) (ps := [ob (mm M f3 g) (ad 10 0) 12, (Value.int (f3 (ad 10 0) 86)) = .int (nI e3)]) rfl ⟨hX.m.1, congrArg Value.int hf3, trivial⟩ ?_
          refine go_icmp rfl (fun _ => ?_) (fun (z : ¬ (¬ (nI e3) = (-1))) => absurd (show ¬ (nI e3) = (-1) from (nI_m1 (n := e3) (by omega))) z)
          refine go_blk 3 [some (.int (nI e3))] (pc' := 92) (vs' := [.ref (ad 10 0), .int (if all = true then 1 else 0), .long v0, .retAddr 1, .long w3, .retAddr 1]) (st' := [.int (-1), .int (nI e3)]) (M' := mm M f3 g) (ps := [ob (mm M f3 g) (ad 10 0) 12, (Value.int (f3 (ad 10 0) 86)) = .int (nI e3)]) rfl ⟨hX.m.1, congrArg Value.int hf3, trivial⟩ ?_
          refine go_icmp rfl (fun _ => ?_) (fun (z : ¬ (¬ (nI e3) = (-1))) => absurd (show ¬ (nI e3) = (-1) from (nI_m1 (n := e3) (by omega))) z)
          refine go_blk 1 [] (pc' := 31) (vs' := [.ref (ad 10 0), .int (if all = true then 1 else 0), .long v0, .retAddr 1, .long w3, .retAddr 1]) (st' := []) (M' := mm M f3 g) (ps := []) rfl trivial ?_
          exact lpF_clauseA hX.m hf3 hl3 (hE e3 _ (by rw [if_pos ⟨hin, (Classical.not_not.mp c2)⟩, hr3]) hl3 (((MK.refl.up (by omega)).up (by omega)).trans hk3) hf3)
        · -- ('j', 'v#')
          obtain ⟨ha3, hf3, hdp3⟩ := hp3
          have hX3 := hX.keep (((MK.refl.up (by omega)).up (by omega)).trans hk3)
          obtain ⟨hk13, hk23, hkk3⟩ := sum_g (r := 6) (dp := 0) rfl (q + 1) (by omega) v3 k3 hr3
          show Go d 251 0 0 62 [.ref (ad 10 0), .int (if all = true then 1 else 0), .long v0, .retAddr 1, u4, u5] [.long v3] (mm M f3 g) R
          refine go_blk 4 [some (.int (-1))] (pc' := 69) (vs' := [.ref (ad 10 0), .int (if all = true then 1 else 0), .long v0, .retAddr 1, .long v3, .retAddr 1]) (st' := [.int (-1), .int (-1)]) (M' := mm M f3 g) (ps := [ob (mm M f3 g) (ad 10 0) 12, (Value.int (f3 (ad 10 0) 86)) = .int (-1)]) rfl ⟨hX.m.1, congrArg Value.int hf3, trivial⟩ ?_
          refine go_icmp rfl (fun (z : ¬ ((-1) : Int32) = (-1)) => absurd z (show ¬ (¬ ((-1) : Int32) = (-1)) from (by decide))) (fun _ => ?_)
          refine go_blk 1 [] (pc' := 73) (vs' := [.ref (ad 10 0), .int (if all = true then 1 else 0), .long v0, .retAddr 1, .long v3, .retAddr 1]) (st' := [.ref (ad 10 0)]) (M' := mm M f3 g) (ps := []) rfl trivial ?_
          refine go_callV rfl rfl rfl (by omega) rfl (by decide) (by decide) hX.m.1 ?_
          refine s_Mo_lookS (i := k3) hX3 hk23 hkk3 ha3 (fun hj4 => ⟨ne_i, ?_⟩) (fun hj4 => ⟨ne_i, ?_⟩)
          · -- ('i', 't k3')
            have hink := hj4
            show Go d 251 0 0 76 [.ref (ad 10 0), .int (if all = true then 1 else 0), .long v0, .retAddr 1, .long v3, .retAddr 1] [.int (t k3)] (mm M f3 g) R
            refine go_callS rfl (by decide) rfl rfl (by omega) rfl (by decide) (by decide) ?_
            refine s_Mo_isSign (by omega) (fun hs5 => ⟨ne_i, ?_⟩) (fun hs5 => ⟨ne_i, ?_⟩)
            · -- ('i', '1')
              have hsg := hs5
              show Go d 251 0 0 79 [.ref (ad 10 0), .int (if all = true then 1 else 0), .long v0, .retAddr 1, .long v3, .retAddr 1] [.int 1] (mm M f3 g) R
              refine go_if rfl (fun _ => ?_) (fun (z : ¬ (¬ (1 : Int32) = 0)) => absurd (show ¬ (1 : Int32) = 0 from (by decide)) z)
              refine go_blk 3 [some (.int (-1))] (pc' := 92) (vs' := [.ref (ad 10 0), .int (if all = true then 1 else 0), .long v0, .retAddr 1, .long v3, .retAddr 1]) (st' := [.int (-1), .int (-1)]) (M' := mm M f3 g) (ps := [ob (mm M f3 g) (ad 10 0) 12, (Value.int (f3 (ad 10 0) 86)) = .int (-1)]) rfl ⟨hX.m.1, congrArg Value.int hf3, trivial⟩ ?_
              refine go_icmp rfl (fun (z : ¬ ((-1) : Int32) = (-1)) => absurd z (show ¬ (¬ ((-1) : Int32) = (-1)) from (by decide))) (fun _ => ?_)
              refine go_blk 2 [] (pc' := 98) (vs' := [.ref (ad 10 0), .int (if all = true then 1 else 0), .long v0, .retAddr 1, .long v3, .retAddr 1]) (st' := [.long v3, .ref (ad 10 0)]) (M' := mm M f3 g) (ps := []) rfl trivial ?_
              refine go_callV rfl rfl rfl (by omega) rfl (by decide) (by decide) hX.m.1 ?_
              refine s_Mo_holds (k := k3) (by omega) hX3 ⟨ha3, hf3, hdp3⟩ hink hkk3 hsg (fun e6 b6 f6 hr6 hl6 hk6 hf6 hb6 => ⟨ne_i, ?_⟩) (fun w6 k6 f6 hr6 hk6 hp6 => ⟨ne_i, ?_⟩)
              · -- ('i', 'b#')
                show Go d 251 0 0 101 [.ref (ad 10 0), .int (if all = true then 1 else 0), .long v0, .retAddr 1, .long v3, .retAddr 1] [.int b6] (mm M f6 g) R
                refine go_if rfl (fun (c7 : ¬ b6 = 0) => ?_) (fun (c7 : ¬ (¬ b6 = 0)) => ?_)
                · -- ¬ b6 = 0
                  refine go_blk 1 [] (pc' := 31) (vs' := [.ref (ad 10 0), .int (if all = true then 1 else 0), .long v0, .retAddr 1, .long v3, .retAddr 1]) (st' := []) (M' := mm M f6 g) (ps := []) rfl trivial ?_
                  exact lpF_clauseA hX.m hf6 hl6 (hE e6 _ (by rw [if_pos ⟨hin, (Classical.not_not.mp c2)⟩, hr3]; simp only []; rw [hkk3, if_pos ⟨hink, hsg⟩, hr6]) hl6 ((((MK.refl.up (by omega)).up (by omega)).trans hk3).trans hk6) hf6)
                · -- ¬ (¬ b6 = 0)
                  refine go_blk 3 [] (pc' := 31) (vs' := [.ref (ad 10 0), .int 0, .long v0, .retAddr 1, .long v3, .retAddr 1]) (st' := []) (M' := mm M f6 g) (ps := []) rfl trivial ?_
                  exact lpF_clauseA hX.m hf6 hl6 (hE e6 _ (by rw [if_pos ⟨hin, (Classical.not_not.mp c2)⟩, hr3]; simp only []; rw [hkk3, if_pos ⟨hink, hsg⟩, hr6]) hl6 ((((MK.refl.up (by omega)).up (by omega)).trans hk3).trans hk6) hf6)
              · -- ('i', 'if cmpV (t k3) v3 w# = true then 1 else 0')
                show Go d 251 0 0 101 [.ref (ad 10 0), .int (if all = true then 1 else 0), .long v0, .retAddr 1, .long v3, .retAddr 1] [.int (if cmpV (t k3) v3 w6 = true then 1 else 0)] (mm M f6 g) R
                refine go_if rfl (fun (c8 : ¬ (if cmpV (t k3) v3 w6 = true then 1 else 0) = 0) => ?_) (fun (c8 : ¬ (¬ (if cmpV (t k3) v3 w6 = true then 1 else 0) = 0)) => ?_)
                · -- ¬ (if cmpV (t k3) v3 w6 = true then 1 else 0) = 0
                  refine go_blk 1 [] (pc' := 31) (vs' := [.ref (ad 10 0), .int (if all = true then 1 else 0), .long v0, .retAddr 1, .long v3, .retAddr 1]) (st' := []) (M' := mm M f6 g) (ps := []) rfl trivial ?_
                  obtain ⟨hz16, hz26, hz36⟩ := sum_g (r := 6) (dp := 0) rfl (k3 + 1) (by omega) w6 k6 hr6
                  have e1 : ((if all = true then 1 else 0) : Int32) = (if (all && cmpV (t k3) v3 w6) = true then 1 else 0) := by
                    cases hcv : cmpV (t k3) v3 w6 <;> cases all <;> simp [hcv] at c8 ⊢
                  rw [e1]
                  exact ih _ k6 f6 R _ _ hz26 (by omega) (hX.keep ((((MK.refl.up (by omega)).up (by omega)).trans hk3).trans hk6)) hp6 (fun e f' z l k1 k2 => hE e f' (by rw [if_pos ⟨hin, (Classical.not_not.mp c2)⟩, hr3]; simp only []; rw [hkk3, if_pos ⟨hink, hsg⟩, hr6]; exact z) l (((((MK.refl.up (by omega)).up (by omega)).trans hk3).trans hk6).trans k1) k2) (fun b k f' u4 u5 z k1 k2 k3 k4 k5 => hV b k f' u4 u5 (by rw [if_pos ⟨hin, (Classical.not_not.mp c2)⟩, hr3]; simp only []; rw [hkk3, if_pos ⟨hink, hsg⟩, hr6]; exact z) (((((MK.refl.up (by omega)).up (by omega)).trans hk3).trans hk6).trans k1) k2 (by omega) k4 k5)
                · -- ¬ (¬ (if cmpV (t k3) v3 w6 = true then 1 else 0) = 0)
                  refine go_blk 3 [] (pc' := 31) (vs' := [.ref (ad 10 0), .int 0, .long v0, .retAddr 1, .long v3, .retAddr 1]) (st' := []) (M' := mm M f6 g) (ps := []) rfl trivial ?_
                  obtain ⟨hz16, hz26, hz36⟩ := sum_g (r := 6) (dp := 0) rfl (k3 + 1) (by omega) w6 k6 hr6
                  have e1 : ((0 : Int32) : Int32) = (if (all && cmpV (t k3) v3 w6) = true then 1 else 0) := by
                    cases hcv : cmpV (t k3) v3 w6 <;> cases all <;> simp [hcv] at c8 ⊢
                  rw [e1]
                  exact ih _ k6 f6 R _ _ hz26 (by omega) (hX.keep ((((MK.refl.up (by omega)).up (by omega)).trans hk3).trans hk6)) hp6 (fun e f' z l k1 k2 => hE e f' (by rw [if_pos ⟨hin, (Classical.not_not.mp c2)⟩, hr3]; simp only []; rw [hkk3, if_pos ⟨hink, hsg⟩, hr6]; exact z) l (((((MK.refl.up (by omega)).up (by omega)).trans hk3).trans hk6).trans k1) k2) (fun b k f' u4 u5 z k1 k2 k3 k4 k5 => hV b k f' u4 u5 (by rw [if_pos ⟨hin, (Classical.not_not.mp c2)⟩, hr3]; simp only []; rw [hkk3, if_pos ⟨hink, hsg⟩, hr6]; exact z) (((((MK.refl.up (by omega)).up (by omega)).trans hk3).trans hk6).trans k1) k2 (by omega) k4 k5)
            · -- ('i', '0')
              have hns : ¬ (k3 < L ∧ isSg (t k3) = true) := fun z => hs5 z.2
              show Go d 251 0 0 79 [.ref (ad 10 0), .int (if all = true then 1 else 0), .long v0, .retAddr 1, .long v3, .retAddr 1] [.int 0] (mm M f3 g) R
              refine go_if rfl (fun (z : ¬ (0 : Int32) = 0) => absurd z (show ¬ (¬ (0 : Int32) = 0) from (by decide))) (fun _ => ?_)
              refine go_blk 1 [] (pc' := 83) (vs' := [.ref (ad 10 0), .int (if all = true then 1 else 0), .long v0, .retAddr 1, .long v3, .retAddr 1]) (st' := [.ref (ad 10 0)]) (M' := mm M f3 g) (ps := []) rfl trivial ?_
              refine go_callV rfl rfl rfl (by omega) rfl (by decide) (by decide) hX.m.1 ?_
              show Go (d - 1) 242 0 0 0 [.ref (ad 10 0)] [] (mm M f3 g) _
              refine go_blk 3 [some (.int (-1))] (pc' := 5) (vs' := [.ref (ad 10 0)]) (st' := [.int (-1), .int (-1)]) (M' := mm M f3 g) (ps := [ob (mm M f3 g) (ad 10 0) 12, (Value.int (f3 (ad 10 0) 86)) = .int (-1)]) rfl ⟨hX.m.1, congrArg Value.int hf3, trivial⟩ ?_
              refine go_icmp rfl (fun (z : ¬ ((-1) : Int32) = (-1)) => absurd z (show ¬ (¬ ((-1) : Int32) = (-1)) from (by decide))) (fun _ => ?_)
              refine go_blk 5 [some (.int (nI k3))] (pc' := 17) (vs' := [.ref (ad 10 0)]) (st' := [.long 0]) (M' := mm M (up2 f3 (ad 10 0) 86 (nI k3)) g) (ps := [ob (mm M f3 g) (ad 10 0) 12, (Value.int (f3 (ad 10 0) 85)) = .int (nI k3), ob (mm M f3 g) (ad 10 0) 12]) rfl ⟨hX.m.1, congrArg Value.int ha3, hX.m.1, trivial⟩ ?_
              refine go_lret rfl rfl ?_
              refine ⟨ne_l, ?_⟩
              show Go d 251 0 0 86 [.ref (ad 10 0), .int (if all = true then 1 else 0), .long v0, .retAddr 1, .long v3, .retAddr 1] [.long 0] (mm M (up2 f3 (ad 10 0) 86 (nI k3)) g) R
              refine go_blk 4 [some (.int (nI k3))] (pc' := 92) (vs' := [.ref (ad 10 0), .int (if all = true then 1 else 0), .long v0, .retAddr 1, .long v3, .retAddr 1]) (st' := [.int (-1), .int (nI k3)]) (M' := mm M (up2 f3 (ad 10 0) 86 (nI k3)) g) (ps := [(.long 0 : Value).category = 2, ob (mm M (up2 f3 (ad 10 0) 86 (nI k3)) g) (ad 10 0) 12, (Value.int ((up2 f3 (ad 10 0) 86 (nI k3)) (ad 10 0) 86)) = .int (nI k3)]) rfl ⟨rfl, hX.m.1, congrArg Value.int (up2_s _ _ _ _), trivial⟩ ?_
              refine go_icmp rfl (fun _ => ?_) (fun (z : ¬ (¬ (nI k3) = (-1))) => absurd (show ¬ (nI k3) = (-1) from (nI_m1 (n := k3) (by omega))) z)
              refine go_blk 1 [] (pc' := 31) (vs' := [.ref (ad 10 0), .int (if all = true then 1 else 0), .long v0, .retAddr 1, .long v3, .retAddr 1]) (st' := []) (M' := mm M (up2 f3 (ad 10 0) 86 (nI k3)) g) (ps := []) rfl trivial ?_
              exact lpF_clauseA (e := k3) hX.m (up2_s _ _ _ _) (by omega) (hE k3 _ (by rw [if_pos ⟨hin, (Classical.not_not.mp c2)⟩, hr3]; simp only []; rw [hkk3, if_neg hns]) (by omega) ((((MK.refl.up (by omega)).up (by omega)).trans hk3).up (by omega)) (up2_s _ _ _ _))
          · -- ('i', '(-1)')
            have hns : ¬ (k3 < L ∧ isSg (t k3) = true) := fun z => hj4 z.1
            show Go d 251 0 0 76 [.ref (ad 10 0), .int (if all = true then 1 else 0), .long v0, .retAddr 1, .long v3, .retAddr 1] [.int (-1)] (mm M f3 g) R
            refine go_callS rfl (by decide) rfl rfl (by omega) rfl (by decide) (by decide) ?_
            refine s_Mo_isSign (by omega) (fun hs9 => ⟨ne_i, ?_⟩) (fun hs9 => ⟨ne_i, ?_⟩)
            · -- ('i', '1')
              exact absurd hs9 (by decide)
            · -- ('i', '0')
              show Go d 251 0 0 79 [.ref (ad 10 0), .int (if all = true then 1 else 0), .long v0, .retAddr 1, .long v3, .retAddr 1] [.int 0] (mm M f3 g) R
              refine go_if rfl (fun (z : ¬ (0 : Int32) = 0) => absurd z (show ¬ (¬ (0 : Int32) = 0) from (by decide))) (fun _ => ?_)
              refine go_blk 1 [] (pc' := 83) (vs' := [.ref (ad 10 0), .int (if all = true then 1 else 0), .long v0, .retAddr 1, .long v3, .retAddr 1]) (st' := [.ref (ad 10 0)]) (M' := mm M f3 g) (ps := []) rfl trivial ?_
              refine go_callV rfl rfl rfl (by omega) rfl (by decide) (by decide) hX.m.1 ?_
              show Go (d - 1) 242 0 0 0 [.ref (ad 10 0)] [] (mm M f3 g) _
              refine go_blk 3 [some (.int (-1))] (pc' := 5) (vs' := [.ref (ad 10 0)]) (st' := [.int (-1), .int (-1)]) (M' := mm M f3 g) (ps := [ob (mm M f3 g) (ad 10 0) 12, (Value.int (f3 (ad 10 0) 86)) = .int (-1)]) rfl ⟨hX.m.1, congrArg Value.int hf3, trivial⟩ ?_
              refine go_icmp rfl (fun (z : ¬ ((-1) : Int32) = (-1)) => absurd z (show ¬ (¬ ((-1) : Int32) = (-1)) from (by decide))) (fun _ => ?_)
              refine go_blk 5 [some (.int (nI k3))] (pc' := 17) (vs' := [.ref (ad 10 0)]) (st' := [.long 0]) (M' := mm M (up2 f3 (ad 10 0) 86 (nI k3)) g) (ps := [ob (mm M f3 g) (ad 10 0) 12, (Value.int (f3 (ad 10 0) 85)) = .int (nI k3), ob (mm M f3 g) (ad 10 0) 12]) rfl ⟨hX.m.1, congrArg Value.int ha3, hX.m.1, trivial⟩ ?_
              refine go_lret rfl rfl ?_
              refine ⟨ne_l, ?_⟩
              show Go d 251 0 0 86 [.ref (ad 10 0), .int (if all = true then 1 else 0), .long v0, .retAddr 1, .long v3, .retAddr 1] [.long 0] (mm M (up2 f3 (ad 10 0) 86 (nI k3)) g) R
              refine go_blk 4 [some (.int (nI k3))] (pc' := 92) (vs' := [.ref (ad 10 0), .int (if all = true then 1 else 0), .long v0, .retAddr 1, .long v3, .retAddr 1]) (st' := [.int (-1), .int (nI k3)]) (M' := mm M (up2 f3 (ad 10 0) 86 (nI k3)) g) (ps := [(.long 0 : Value).category = 2, ob (mm M (up2 f3 (ad 10 0) 86 (nI k3)) g) (ad 10 0) 12, (Value.int ((up2 f3 (ad 10 0) 86 (nI k3)) (ad 10 0) 86)) = .int (nI k3)]) rfl ⟨rfl, hX.m.1, congrArg Value.int (up2_s _ _ _ _), trivial⟩ ?_
              refine go_icmp rfl (fun _ => ?_) (fun (z : ¬ (¬ (nI k3) = (-1))) => absurd (show ¬ (nI k3) = (-1) from (nI_m1 (n := k3) (by omega))) z)
              refine go_blk 1 [] (pc' := 31) (vs' := [.ref (ad 10 0), .int (if all = true then 1 else 0), .long v0, .retAddr 1, .long v3, .retAddr 1]) (st' := []) (M' := mm M (up2 f3 (ad 10 0) 86 (nI k3)) g) (ps := []) rfl trivial ?_
              exact lpF_clauseA (e := k3) hX.m (up2_s _ _ _ _) (by omega) (hE k3 _ (by rw [if_pos ⟨hin, (Classical.not_not.mp c2)⟩, hr3]; simp only []; rw [hkk3, if_neg hns]) (by omega) ((((MK.refl.up (by omega)).up (by omega)).trans hk3).up (by omega)) (up2_s _ _ _ _))
    · -- ('i', '(-1)')
      have hin : ¬ q < L := hj1
      show Go d 251 0 0 43 [.ref (ad 10 0), .int (if all = true then 1 else 0), .long v0, .retAddr 1, u4, u5] [.int (-1)] (mm M (up2 f (ad 10 0) 85 (nI q)) g) R
      refine go_blk 1 [] (pc' := 45) (vs' := [.ref (ad 10 0), .int (if all = true then 1 else 0), .long v0, .retAddr 1, u4, u5]) (st' := [.int 38, .int (-1)]) (M' := mm M (up2 f (ad 10 0) 85 (nI q)) g) (ps := []) rfl trivial ?_
      refine go_icmp rfl (fun _ => ?_) (fun (z : ¬ (¬ ((-1) : Int32) = 38)) => absurd (show ¬ ((-1) : Int32) = 38 from (by decide)) z)
      exact hV all q _ _ _ (if_neg (fun z => hin z.1)) (MK.refl.up (by omega)) ⟨(up2_s _ _ _ _), (((up2_n _ _ (fun z => absurd z.2 (by decide))).trans (rfl)).trans hf), (((up2_n _ _ (fun z => absurd z.2 (by decide))).trans (rfl)).trans hdp)⟩ hqi hqL hqq

