/-! texts: the model's clause and text -/
theorem MX.ne1 {M : Mem} {ad : Nat → Nat → Nat} {A fr L : Nat} {t : Nat → Int32} {lv : Int32 → Int64} {j : Nat} {f : Nat → Nat → Int32} (h : MX M ad A fr L t lv j f) {k : Nat} (hk : k < L) : ¬ t k = -1 := by
  obtain ⟨-, m, hm, e⟩ := h.2.2.2.2.1 k hk
  rw [e]; exact nI_m1 (by omega)
theorem if01 {b : Bool} (h : ¬ (if b = true then (1 : Int32) else 0) = 0) : b = true := by cases b; exact absurd rfl h; rfl
theorem if00 {b : Bool} (h : (if b = true then (1 : Int32) else 0) = 0) : b = false := by cases b; rfl; exact absurd h (by decide)
theorem GK.refl {ad : Nat → Nat → Nat} {g : Nat → Nat → Int64} : GK ad g g := fun _ _ _ => rfl
theorem GK.trans {ad : Nat → Nat → Nat} {g g1 g2 : Nat → Nat → Int64} (h1 : GK ad g g1) (h2 : GK ad g1 g2) : GK ad g g2 := fun b k h => (h2 b k h).trans (h1 b k h)
theorem GK.up {ad : Nat → Nat → Nat} {g : Nat → Nat → Int64} {v : Int64} : GK ad g (up2 g (ad 10 0) 90 v) := fun b k h => up2_n _ _ h
def GT (ad : Nat → Nat → Nat) (f f' : Nat → Nat → Int32) : Prop := ∀ b k, ¬ (b = ad 10 0 ∧ 83 ≤ k ∧ k ≤ 89) → f' b k = f b k
theorem Mx.s82 {M : Mem} {ad : Nat → Nat → Nat} {v : Option Nat} (h : Mx M ad) : Mx (sR M (ad 10 0) 82 v) ad := by
  refine ⟨h.1, fun q hq => ?_⟩
  have l := (show ∀ q ∈ moL, ¬ q.1 = 82 by decide) q hq
  exact ⟨(up2_n _ _ (fun z => l z.2)).trans (h.2 q hq).1, (h.2 q hq).2⟩

set_option maxRecDepth 100000 in
theorem s_Mo_clause {d : Nat} {M : Mem} {g : Nat → Nat → Int64} {ad : Nat → Nat → Nat} {A fr L j : Nat} {t : Nat → Int32} {lv : Int32 → Int64} {f : Nat → Nat → Int32} {R : Option Value → Mem → Prop} {i : Nat} {o : Option Int64} (hd : 44 ≤ d) (hX : MX M ad A fr L t lv j f) (hi : i ≤ L) (hP : PS ad f i 0) (hO : PD ad f g o) (hE : ∀ e f', clsM t L lv i = .inl e → e ≤ 120 → MK ad f f' → f' (ad 10 0) 86 = nI e → R none (mm M f' g)) (hV : ∀ b v k f' g', clsM t L lv i = .inr (b, v, k) → MK2 ad f f' → GK ad g g' → PS ad f' k 0 → PD ad f' g' (orO o b v) → R none (mm M f' g')) : Call d 251 [.ref (ad 10 0)] (mm M f g) R := by
  have hL0 := hX.1.2.2.2.2.2.2.1
  unfold clsM at hE hV
  rcases o with _ | pv
  · obtain ⟨hO1, hO2⟩ := hO
    show Go d 251 0 0 0 [.ref (ad 10 0), .retAddr 0, .retAddr 0, .retAddr 0, .retAddr 0, .retAddr 0] [] (mm M f g) R
    refine go_blk 3 [] (pc' := 3) (vs' := [.ref (ad 10 0), .int 1, .retAddr 0, .retAddr 0, .retAddr 0, .retAddr 0]) (st' := [.ref (ad 10 0)]) (M' := mm M f g) (ps := []) rfl trivial ?_
    refine go_callV rfl rfl rfl (by omega) rfl (by decide) (by decide) hX.m.1 ?_
    refine sumsC 6 0 _ rfl (by omega) _ _ i hi hX hP (fun e1 w1 f1 hr1 hl1 hk1 hf1 => ⟨ne_l, ?_⟩) (fun v1 k1 f1 hr1 hk1 hp1 => ⟨ne_l, ?_⟩)
    · -- ('j', 'w#')
      show Go d 251 0 0 6 [.ref (ad 10 0), .int 1, .retAddr 0, .retAddr 0, .retAddr 0, .retAddr 0] [.long w1] (mm M f1 g) R
      refine go_blk 4 [some (.int (nI e1))] (pc' := 12) (vs' := [.ref (ad 10 0), .int 1, .long w1, .retAddr 1, .retAddr 0, .retAddr 0]) (st' := [.int (-1), .int (nI e1)]) (M' := mm M f1 g) (ps := [ob (mm M f1 g) (ad 10 0) 12, (Value.int (f1 (ad 10 0) 86)) = .int (nI e1)]) rfl ⟨hX.m.1, congrArg Value.int hf1, trivial⟩ ?_
      refine go_icmp rfl (fun _ => ?_) (fun (z : ¬ (¬ (nI e1) = (-1))) => absurd (show ¬ (nI e1) = (-1) from (nI_m1 (n := e1) (by omega))) z)
      rw [hr1] at hE
      exact lpF_clauseB hX.m hf1 hl1 (hE e1 _ rfl hl1 hk1 hf1)
    · -- ('j', 'v#')
      obtain ⟨ha1, hf1, hdp1⟩ := hp1
      have hX1 := hX.keep hk1
      obtain ⟨hk11, hk21, hkk1⟩ := sum_g (r := 6) (dp := 0) rfl i hi v1 k1 hr1
      rw [hr1] at hE hV
      simp only [] at hE hV
      rw [hkk1] at hE hV
      show Go d 251 0 0 6 [.ref (ad 10 0), .int 1, .retAddr 0, .retAddr 0, .retAddr 0, .retAddr 0] [.long v1] (mm M f1 g) R
      refine go_blk 4 [some (.int (-1))] (pc' := 12) (vs' := [.ref (ad 10 0), .int 1, .long v1, .retAddr 1, .retAddr 0, .retAddr 0]) (st' := [.int (-1), .int (-1)]) (M' := mm M f1 g) (ps := [ob (mm M f1 g) (ad 10 0) 12, (Value.int (f1 (ad 10 0) 86)) = .int (-1)]) rfl ⟨hX.m.1, congrArg Value.int hf1, trivial⟩ ?_
      refine go_icmp rfl (fun (z : ¬ ((-1) : Int32) = (-1)) => absurd z (show ¬ (¬ ((-1) : Int32) = (-1)) from (by decide))) (fun _ => ?_)
      refine go_blk 1 [] (pc' := 16) (vs' := [.ref (ad 10 0), .int 1, .long v1, .retAddr 1, .retAddr 0, .retAddr 0]) (st' := [.ref (ad 10 0)]) (M' := mm M f1 g) (ps := []) rfl trivial ?_
      refine go_callV rfl rfl rfl (by omega) rfl (by decide) (by decide) hX.m.1 ?_
      refine s_Mo_lookS (i := k1) hX1 hk21 hkk1 ha1 (fun hj2 => ⟨ne_i, ?_⟩) (fun hj2 => ⟨ne_i, ?_⟩)
      · -- ('i', 't k1')
        have hin := hj2
        show Go d 251 0 0 19 [.ref (ad 10 0), .int 1, .long v1, .retAddr 1, .retAddr 0, .retAddr 0] [.int (t k1)] (mm M f1 g) R
        refine go_callS rfl (by decide) rfl rfl (by omega) rfl (by decide) (by decide) ?_
        refine s_Mo_isSign (by omega) (fun hs3 => ⟨ne_i, ?_⟩) (fun hs3 => ⟨ne_i, ?_⟩)
        · -- ('i', '1')
          have hsg := hs3
          rw [if_pos ⟨hin, hsg⟩] at hE hV
          show Go d 251 0 0 22 [.ref (ad 10 0), .int 1, .long v1, .retAddr 1, .retAddr 0, .retAddr 0] [.int 1] (mm M f1 g) R
          refine go_if rfl (fun (z : (1 : Int32) = 0) => absurd z (show ¬ ((1 : Int32) = 0) from (by decide))) (fun _ => ?_)
          refine go_blk 2 [] (pc' := 27) (vs' := [.ref (ad 10 0), .int 1, .long v1, .retAddr 1, .retAddr 0, .retAddr 0]) (st' := [.long v1, .ref (ad 10 0)]) (M' := mm M f1 g) (ps := []) rfl trivial ?_
          refine go_callV rfl rfl rfl (by omega) rfl (by decide) (by decide) hX.m.1 ?_
          refine s_Mo_holds (k := k1) (by omega) hX1 ⟨ha1, hf1, hdp1⟩ hin hkk1 hsg (fun e4 b4 f4 hr4 hl4 hk4 hf4 hb4 => ⟨ne_i, ?_⟩) (fun w4 k4 f4 hr4 hk4 hp4 => ⟨ne_i, ?_⟩)
          · -- ('i', 'b#')
            show Go d 251 0 0 30 [.ref (ad 10 0), .int 1, .long v1, .retAddr 1, .retAddr 0, .retAddr 0] [.int b4] (mm M f4 g) R
            refine go_blk 1 [] (pc' := 31) (vs' := [.ref (ad 10 0), .int b4, .long v1, .retAddr 1, .retAddr 0, .retAddr 0]) (st' := []) (M' := mm M f4 g) (ps := []) rfl trivial ?_
            rw [hr4] at hE
            exact lpF_clauseA hX.m hf4 hl4 (hE e4 _ rfl hl4 (hk1.trans hk4) hf4)
          · -- ('i', 'if cmpV (t k1) v1 w# = true then 1 else 0')
            obtain ⟨hz14, hz24, hz34⟩ := sum_g (r := 6) (dp := 0) rfl (k1 + 1) (by omega) w4 k4 hr4
            rw [hr4] at hE hV
            simp only [] at hE hV
            show Go d 251 0 0 30 [.ref (ad 10 0), .int 1, .long v1, .retAddr 1, .retAddr 0, .retAddr 0] [.int (if cmpV (t k1) v1 w4 = true then 1 else 0)] (mm M f4 g) R
            refine go_blk 1 [] (pc' := 31) (vs' := [.ref (ad 10 0), .int (if cmpV (t k1) v1 w4 = true then 1 else 0), .long v1, .retAddr 1, .retAddr 0, .retAddr 0]) (st' := []) (M' := mm M f4 g) (ps := []) rfl trivial ?_
            refine lp_clause (by omega) (L + 1) (cmpV (t k1) v1 w4) k4 f4 R _ _ hz24 (by omega) (hX.keep (hk1.trans hk4)) hp4 (fun e f' z l k1 k2 => hE e f' (by rw [z]) l ((hk1.trans hk4).trans k1) k2) (fun b5 q5 f5 u45 u55 hr5 hk5 hp5 hl5 hL5 hjj5 => ?_)
            obtain ⟨ha5, hf5, hdp5⟩ := hp5
            rw [hr5] at hE hV
            simp only [] at hE hV
            rw [hjj5] at hE hV
            show Go d 251 0 0 109 [.ref (ad 10 0), .int (if b5 = true then 1 else 0), .long v1, .retAddr 1, u45, u55] [] (mm M f5 g) R
            refine go_blk 3 [some (.int (-1))] (pc' := 114) (vs' := [.ref (ad 10 0), .int (if b5 = true then 1 else 0), .long v1, .retAddr 1, u45, u55]) (st' := [.int (-1), .int (-1)]) (M' := mm M f5 g) (ps := [ob (mm M f5 g) (ad 10 0) 12, (Value.int (f5 (ad 10 0) 86)) = .int (-1)]) rfl ⟨hX.m.1, congrArg Value.int hf5, trivial⟩ ?_
            refine go_icmp rfl (fun _ => ?_) (fun (z : ¬ (((-1) : Int32) = (-1))) => absurd (show ((-1) : Int32) = (-1) from (by decide)) z)
            refine go_blk 1 [] (pc' := 119) (vs' := [.ref (ad 10 0), .int (if b5 = true then 1 else 0), .long v1, .retAddr 1, u45, u55]) (st' := [.ref (ad 10 0)]) (M' := mm M f5 g) (ps := []) rfl trivial ?_
            refine go_callV rfl rfl rfl (by omega) rfl (by decide) (by decide) hX.m.1 ?_
            refine s_Mo_lookS (i := q5) (hX.keep ((hk1.trans hk4).trans hk5)) (by omega) hjj5 ha5 (fun hj6 => ⟨ne_i, ?_⟩) (fun hj6 => ⟨ne_i, ?_⟩)
            · -- ('i', 't q5')
              have hinj := hj6
              show Go d 251 0 0 122 [.ref (ad 10 0), .int (if b5 = true then 1 else 0), .long v1, .retAddr 1, u45, u55] [.int (t q5)] (mm M f5 g) R
              refine go_blk 1 [] (pc' := 124) (vs' := [.ref (ad 10 0), .int (if b5 = true then 1 else 0), .long v1, .retAddr 1, u45, u55]) (st' := [.int 63, .int (t q5)]) (M' := mm M f5 g) (ps := []) rfl trivial ?_
              refine go_icmp rfl (fun (c7 : (t q5) = 63) => ?_) (fun (c7 : ¬ ((t q5) = 63)) => ?_)
              · -- (t q5) = 63
                have hc63 : t q5 = 63 := c7
                refine go_blk 7 [some (.int (nI q5))] (pc' := 144) (vs' := [.ref (ad 10 0), .int (if b5 = true then 1 else 0), .long v1, .retAddr 1, u45, u55]) (st' := [.ref (ad 10 0)]) (M' := mm M (up2 f5 (ad 10 0) 85 ((nI q5) + 1)) g) (ps := [(.ref (ad 10 0) : Value).category = 1, ob (mm M f5 g) (ad 10 0) 12, (Value.int (f5 (ad 10 0) 85)) = .int (nI q5), ob (mm M f5 g) (ad 10 0) 12]) rfl ⟨rfl, hX.m.1, congrArg Value.int ha5, hX.m.1, trivial⟩ ?_
                refine go_callV rfl rfl rfl (by omega) rfl (by decide) (by decide) hX.m.1 ?_
                refine sumsC 6 0 _ rfl (by omega) _ _ (q5 + 1) (by omega) (hX.keep (((hk1.trans hk4).trans hk5).up (by omega))) ⟨(up2_s _ _ _ _).trans (nI_add q5 1), (up2_n _ _ (fun z => absurd z.2 (by decide))).trans hf5, (up2_n _ _ (fun z => absurd z.2 (by decide))).trans hdp5⟩ (fun e8 w8 f8 hr8 hl8 hk8 hf8 => ⟨ne_l, ?_⟩) (fun v8 k8 f8 hr8 hk8 hp8 => ⟨ne_l, ?_⟩)
                · -- ('j', 'w#')
                  show Go d 251 0 0 147 [.ref (ad 10 0), .int (if b5 = true then 1 else 0), .long v1, .retAddr 1, u45, u55] [.long w8] (mm M f8 g) R
                  refine go_blk 1 [] (pc' := 148) (vs' := [.ref (ad 10 0), .int (if b5 = true then 1 else 0), .long w8, .retAddr 1, u45, u55]) (st' := []) (M' := mm M f8 g) (ps := []) rfl trivial ?_
                  rw [if_pos ⟨hinj, hc63⟩, hr8] at hE
                  exact lpF_clauseB hX.m hf8 hl8 (hE e8 _ rfl hl8 ((((hk1.trans hk4).trans hk5).up (by omega)).trans hk8) hf8)
                · -- ('j', 'v#')
                  obtain ⟨ha8, hf8, hdp8⟩ := hp8
                  have hk898 : f8 (ad 10 0) 89 = 0 := (((((hk1.trans hk4).trans hk5).up (by omega)).trans hk8) _ _ (by omega)).trans hO1
                  show Go d 251 0 0 147 [.ref (ad 10 0), .int (if b5 = true then 1 else 0), .long v1, .retAddr 1, u45, u55] [.long v8] (mm M f8 g) R
                  refine go_blk 1 [] (pc' := 148) (vs' := [.ref (ad 10 0), .int (if b5 = true then 1 else 0), .long v8, .retAddr 1, u45, u55]) (st' := []) (M' := mm M f8 g) (ps := []) rfl trivial ?_
                  show Go d 251 0 0 148 [.ref (ad 10 0), .int (if b5 = true then 1 else 0), .long v8, .retAddr 1, u45, u55] [] (mm M f8 g) R
                  refine go_blk 3 [some (.int (-1))] (pc' := 153) (vs' := [.ref (ad 10 0), .int (if b5 = true then 1 else 0), .long v8, .retAddr 1, u45, u55]) (st' := [.int (-1), .int (-1)]) (M' := mm M f8 g) (ps := [ob (mm M f8 g) (ad 10 0) 12, (Value.int (f8 (ad 10 0) 86)) = .int (-1)]) rfl ⟨hX.m.1, congrArg Value.int hf8, trivial⟩ ?_
                  refine go_icmp rfl (fun (z : ¬ ((-1) : Int32) = (-1)) => absurd z (show ¬ (¬ ((-1) : Int32) = (-1)) from (by decide))) (fun _ => ?_)
                  refine go_blk 2 [some (.int 0)] (pc' := 160) (vs' := [.ref (ad 10 0), .int (if b5 = true then 1 else 0), .long v8, .retAddr 1, u45, u55]) (st' := [.int 0]) (M' := mm M f8 g) (ps := [ob (mm M f8 g) (ad 10 0) 12, (Value.int (f8 (ad 10 0) 89)) = .int 0]) rfl ⟨hX.m.1, congrArg Value.int hk898, trivial⟩ ?_
                  refine go_if rfl (fun (z : ¬ (0 : Int32) = 0) => absurd z (show ¬ (¬ (0 : Int32) = 0) from (by decide))) (fun _ => ?_)
                  refine go_blk 1 [] (pc' := 164) (vs' := [.ref (ad 10 0), .int (if b5 = true then 1 else 0), .long v8, .retAddr 1, u45, u55]) (st' := [.int (if b5 = true then 1 else 0)]) (M' := mm M f8 g) (ps := []) rfl trivial ?_
                  refine go_if rfl (fun (c9 : ¬ (if b5 = true then 1 else 0) = 0) => ?_) (fun (c9 : ¬ (¬ (if b5 = true then 1 else 0) = 0)) => ?_)
                  · -- ¬ (if b5 = true then 1 else 0) = 0
                    refine go_blk 6 [] (pc' := 178) (vs' := [.ref (ad 10 0), .int (if b5 = true then 1 else 0), .long v8, .retAddr 1, u45, u55]) (st' := []) (M' := mm M (up2 f8 (ad 10 0) 89 1) (up2 g (ad 10 0) 90 v8)) (ps := [ob (mm M f8 g) (ad 10 0) 12, 1 = 0 ∨ 1 = 1, ob (mm M (up2 f8 (ad 10 0) 89 1) g) (ad 10 0) 12]) rfl ⟨hX.m.1, (Or.inr rfl), hX.m.1, trivial⟩ ?_
                    refine go_vret rfl rfl ?_
                    have hb0 := if01 c9
                    refine hV b5 v8 k8 _ _ (by rw [if_pos ⟨hinj, hc63⟩, hr8]) ((MK2.of ((((hk1.trans hk4).trans hk5).up (by omega)).trans hk8)).up (Or.inr rfl)) GK.up ⟨(up2_n _ _ (fun z => absurd z.2 (by decide))).trans ha8, (up2_n _ _ (fun z => absurd z.2 (by decide))).trans hf8, (up2_n _ _ (fun z => absurd z.2 (by decide))).trans hdp8⟩ ?_
                    rw [hb0]; exact ⟨up2_s _ _ _ _, up2_s _ _ _ _⟩
                  · -- ¬ (¬ (if b5 = true then 1 else 0) = 0)
                    refine go_vret rfl rfl ?_
                    have hb0 := if00 (Classical.not_not.mp c9)
                    refine hV b5 v8 k8 _ _ (by rw [if_pos ⟨hinj, hc63⟩, hr8]) (MK2.of ((((hk1.trans hk4).trans hk5).up (by omega)).trans hk8)) GK.refl ⟨ha8, hf8, hdp8⟩ ?_
                    rw [hb0]; exact ⟨hk898, hO2⟩
              · -- ¬ ((t q5) = 63)
                have hn63 : ¬ (q5 < L ∧ t q5 = 63) := fun z => c7 z.2
                refine go_blk 1 [] (pc' := 128) (vs' := [.ref (ad 10 0), .int (if b5 = true then 1 else 0), .long v1, .retAddr 1, u45, u55]) (st' := [.ref (ad 10 0)]) (M' := mm M f5 g) (ps := []) rfl trivial ?_
                refine go_callV rfl rfl rfl (by omega) rfl (by decide) (by decide) hX.m.1 ?_
                show Go (d - 1) 242 0 0 0 [.ref (ad 10 0)] [] (mm M f5 g) _
                refine go_blk 3 [some (.int (-1))] (pc' := 5) (vs' := [.ref (ad 10 0)]) (st' := [.int (-1), .int (-1)]) (M' := mm M f5 g) (ps := [ob (mm M f5 g) (ad 10 0) 12, (Value.int (f5 (ad 10 0) 86)) = .int (-1)]) rfl ⟨hX.m.1, congrArg Value.int hf5, trivial⟩ ?_
                refine go_icmp rfl (fun (z : ¬ ((-1) : Int32) = (-1)) => absurd z (show ¬ (¬ ((-1) : Int32) = (-1)) from (by decide))) (fun _ => ?_)
                refine go_blk 5 [some (.int (nI q5))] (pc' := 17) (vs' := [.ref (ad 10 0)]) (st' := [.long 0]) (M' := mm M (up2 f5 (ad 10 0) 86 (nI q5)) g) (ps := [ob (mm M f5 g) (ad 10 0) 12, (Value.int (f5 (ad 10 0) 85)) = .int (nI q5), ob (mm M f5 g) (ad 10 0) 12]) rfl ⟨hX.m.1, congrArg Value.int ha5, hX.m.1, trivial⟩ ?_
                refine go_lret rfl rfl ?_
                refine ⟨ne_l, ?_⟩
                show Go d 251 0 0 131 [.ref (ad 10 0), .int (if b5 = true then 1 else 0), .long v1, .retAddr 1, u45, u55] [.long 0] (mm M (up2 f5 (ad 10 0) 86 (nI q5)) g) R
                refine go_blk 1 [] (pc' := 132) (vs' := [.ref (ad 10 0), .int (if b5 = true then 1 else 0), .long v1, .retAddr 1, u45, u55]) (st' := []) (M' := mm M (up2 f5 (ad 10 0) 86 (nI q5)) g) (ps := [(.long 0 : Value).category = 2]) rfl ⟨rfl, trivial⟩ ?_
                refine go_vret rfl rfl ?_
                exact hE q5 _ (by rw [if_neg hn63]) (by omega) (((hk1.trans hk4).trans hk5).up (by omega)) (up2_s _ _ _ _)
            · -- ('i', '(-1)')
              have hn63 : ¬ (q5 < L ∧ t q5 = 63) := fun z => hj6 z.1
              show Go d 251 0 0 122 [.ref (ad 10 0), .int (if b5 = true then 1 else 0), .long v1, .retAddr 1, u45, u55] [.int (-1)] (mm M f5 g) R
              refine go_blk 1 [] (pc' := 124) (vs' := [.ref (ad 10 0), .int (if b5 = true then 1 else 0), .long v1, .retAddr 1, u45, u55]) (st' := [.int 63, .int (-1)]) (M' := mm M f5 g) (ps := []) rfl trivial ?_
              refine go_icmp rfl (fun (z : ((-1) : Int32) = 63) => absurd z (show ¬ (((-1) : Int32) = 63) from (by decide))) (fun _ => ?_)
              refine go_blk 1 [] (pc' := 128) (vs' := [.ref (ad 10 0), .int (if b5 = true then 1 else 0), .long v1, .retAddr 1, u45, u55]) (st' := [.ref (ad 10 0)]) (M' := mm M f5 g) (ps := []) rfl trivial ?_
              refine go_callV rfl rfl rfl (by omega) rfl (by decide) (by decide) hX.m.1 ?_
              show Go (d - 1) 242 0 0 0 [.ref (ad 10 0)] [] (mm M f5 g) _
              refine go_blk 3 [some (.int (-1))] (pc' := 5) (vs' := [.ref (ad 10 0)]) (st' := [.int (-1), .int (-1)]) (M' := mm M f5 g) (ps := [ob (mm M f5 g) (ad 10 0) 12, (Value.int (f5 (ad 10 0) 86)) = .int (-1)]) rfl ⟨hX.m.1, congrArg Value.int hf5, trivial⟩ ?_
              refine go_icmp rfl (fun (z : ¬ ((-1) : Int32) = (-1)) => absurd z (show ¬ (¬ ((-1) : Int32) = (-1)) from (by decide))) (fun _ => ?_)
              refine go_blk 5 [some (.int (nI q5))] (pc' := 17) (vs' := [.ref (ad 10 0)]) (st' := [.long 0]) (M' := mm M (up2 f5 (ad 10 0) 86 (nI q5)) g) (ps := [ob (mm M f5 g) (ad 10 0) 12, (Value.int (f5 (ad 10 0) 85)) = .int (nI q5), ob (mm M f5 g) (ad 10 0) 12]) rfl ⟨hX.m.1, congrArg Value.int ha5, hX.m.1, trivial⟩ ?_
              refine go_lret rfl rfl ?_
              refine ⟨ne_l, ?_⟩
              show Go d 251 0 0 131 [.ref (ad 10 0), .int (if b5 = true then 1 else 0), .long v1, .retAddr 1, u45, u55] [.long 0] (mm M (up2 f5 (ad 10 0) 86 (nI q5)) g) R
              refine go_blk 1 [] (pc' := 132) (vs' := [.ref (ad 10 0), .int (if b5 = true then 1 else 0), .long v1, .retAddr 1, u45, u55]) (st' := []) (M' := mm M (up2 f5 (ad 10 0) 86 (nI q5)) g) (ps := [(.long 0 : Value).category = 2]) rfl ⟨rfl, trivial⟩ ?_
              refine go_vret rfl rfl ?_
              exact hE q5 _ (by rw [if_neg hn63]) (by omega) (((hk1.trans hk4).trans hk5).up (by omega)) (up2_s _ _ _ _)
        · -- ('i', '0')
          have hns : ¬ (k1 < L ∧ isSg (t k1) = true) := fun z => hs3 z.2
          show Go d 251 0 0 22 [.ref (ad 10 0), .int 1, .long v1, .retAddr 1, .retAddr 0, .retAddr 0] [.int 0] (mm M f1 g) R
          refine go_if rfl (fun _ => ?_) (fun (z : ¬ ((0 : Int32) = 0)) => absurd (show (0 : Int32) = 0 from (by decide)) z)
          refine go_blk 3 [some (.int (-1))] (pc' := 153) (vs' := [.ref (ad 10 0), .int 1, .long v1, .retAddr 1, .retAddr 0, .retAddr 0]) (st' := [.int (-1), .int (-1)]) (M' := mm M f1 g) (ps := [ob (mm M f1 g) (ad 10 0) 12, (Value.int (f1 (ad 10 0) 86)) = .int (-1)]) rfl ⟨hX.m.1, congrArg Value.int hf1, trivial⟩ ?_
          refine go_icmp rfl (fun (z : ¬ ((-1) : Int32) = (-1)) => absurd z (show ¬ (¬ ((-1) : Int32) = (-1)) from (by decide))) (fun _ => ?_)
          refine go_blk 2 [some (.int 0)] (pc' := 160) (vs' := [.ref (ad 10 0), .int 1, .long v1, .retAddr 1, .retAddr 0, .retAddr 0]) (st' := [.int 0]) (M' := mm M f1 g) (ps := [ob (mm M f1 g) (ad 10 0) 12, (Value.int (f1 (ad 10 0) 89)) = .int 0]) rfl ⟨hX.m.1, congrArg Value.int ((hk1 _ _ (by omega)).trans hO1), trivial⟩ ?_
          refine go_if rfl (fun (z : ¬ (0 : Int32) = 0) => absurd z (show ¬ (¬ (0 : Int32) = 0) from (by decide))) (fun _ => ?_)
          refine go_blk 1 [] (pc' := 164) (vs' := [.ref (ad 10 0), .int 1, .long v1, .retAddr 1, .retAddr 0, .retAddr 0]) (st' := [.int 1]) (M' := mm M f1 g) (ps := []) rfl trivial ?_
          refine go_if rfl (fun _ => ?_) (fun (z : ¬ (¬ (1 : Int32) = 0)) => absurd (show ¬ (1 : Int32) = 0 from (by decide)) z)
          refine go_blk 6 [] (pc' := 178) (vs' := [.ref (ad 10 0), .int 1, .long v1, .retAddr 1, .retAddr 0, .retAddr 0]) (st' := []) (M' := mm M (up2 f1 (ad 10 0) 89 1) (up2 g (ad 10 0) 90 v1)) (ps := [ob (mm M f1 g) (ad 10 0) 12, 1 = 0 ∨ 1 = 1, ob (mm M (up2 f1 (ad 10 0) 89 1) g) (ad 10 0) 12]) rfl ⟨hX.m.1, (Or.inr rfl), hX.m.1, trivial⟩ ?_
          refine go_vret rfl rfl ?_
          have hb0 : true = true := rfl
          refine hV true v1 k1 _ _ (by rw [if_neg hns]) ((MK2.of hk1).up (Or.inr rfl)) GK.up ⟨(up2_n _ _ (fun z => absurd z.2 (by decide))).trans ha1, (up2_n _ _ (fun z => absurd z.2 (by decide))).trans hf1, (up2_n _ _ (fun z => absurd z.2 (by decide))).trans hdp1⟩ ?_
          exact ⟨up2_s _ _ _ _, up2_s _ _ _ _⟩
      · -- ('i', '(-1)')
        have hns : ¬ (k1 < L ∧ isSg (t k1) = true) := fun z => hj2 z.1
        show Go d 251 0 0 19 [.ref (ad 10 0), .int 1, .long v1, .retAddr 1, .retAddr 0, .retAddr 0] [.int (-1)] (mm M f1 g) R
        refine go_callS rfl (by decide) rfl rfl (by omega) rfl (by decide) (by decide) ?_
        refine s_Mo_isSign (by omega) (fun hs10 => ⟨ne_i, ?_⟩) (fun hs10 => ⟨ne_i, ?_⟩)
        · -- ('i', '1')
          exact absurd hs10 (by decide)
        · -- ('i', '0')
          show Go d 251 0 0 22 [.ref (ad 10 0), .int 1, .long v1, .retAddr 1, .retAddr 0, .retAddr 0] [.int 0] (mm M f1 g) R
          refine go_if rfl (fun _ => ?_) (fun (z : ¬ ((0 : Int32) = 0)) => absurd (show (0 : Int32) = 0 from (by decide)) z)
          refine go_blk 3 [some (.int (-1))] (pc' := 153) (vs' := [.ref (ad 10 0), .int 1, .long v1, .retAddr 1, .retAddr 0, .retAddr 0]) (st' := [.int (-1), .int (-1)]) (M' := mm M f1 g) (ps := [ob (mm M f1 g) (ad 10 0) 12, (Value.int (f1 (ad 10 0) 86)) = .int (-1)]) rfl ⟨hX.m.1, congrArg Value.int hf1, trivial⟩ ?_
          refine go_icmp rfl (fun (z : ¬ ((-1) : Int32) = (-1)) => absurd z (show ¬ (¬ ((-1) : Int32) = (-1)) from (by decide))) (fun _ => ?_)
          refine go_blk 2 [some (.int 0)] (pc' := 160) (vs' := [.ref (ad 10 0), .int 1, .long v1, .retAddr 1, .retAddr 0, .retAddr 0]) (st' := [.int 0]) (M' := mm M f1 g) (ps := [ob (mm M f1 g) (ad 10 0) 12, (Value.int (f1 (ad 10 0) 89)) = .int 0]) rfl ⟨hX.m.1, congrArg Value.int ((hk1 _ _ (by omega)).trans hO1), trivial⟩ ?_
          refine go_if rfl (fun (z : ¬ (0 : Int32) = 0) => absurd z (show ¬ (¬ (0 : Int32) = 0) from (by decide))) (fun _ => ?_)
          refine go_blk 1 [] (pc' := 164) (vs' := [.ref (ad 10 0), .int 1, .long v1, .retAddr 1, .retAddr 0, .retAddr 0]) (st' := [.int 1]) (M' := mm M f1 g) (ps := []) rfl trivial ?_
          refine go_if rfl (fun _ => ?_) (fun (z : ¬ (¬ (1 : Int32) = 0)) => absurd (show ¬ (1 : Int32) = 0 from (by decide)) z)
          refine go_blk 6 [] (pc' := 178) (vs' := [.ref (ad 10 0), .int 1, .long v1, .retAddr 1, .retAddr 0, .retAddr 0]) (st' := []) (M' := mm M (up2 f1 (ad 10 0) 89 1) (up2 g (ad 10 0) 90 v1)) (ps := [ob (mm M f1 g) (ad 10 0) 12, 1 = 0 ∨ 1 = 1, ob (mm M (up2 f1 (ad 10 0) 89 1) g) (ad 10 0) 12]) rfl ⟨hX.m.1, (Or.inr rfl), hX.m.1, trivial⟩ ?_
          refine go_vret rfl rfl ?_
          have hb0 : true = true := rfl
          refine hV true v1 k1 _ _ (by rw [if_neg hns]) ((MK2.of hk1).up (Or.inr rfl)) GK.up ⟨(up2_n _ _ (fun z => absurd z.2 (by decide))).trans ha1, (up2_n _ _ (fun z => absurd z.2 (by decide))).trans hf1, (up2_n _ _ (fun z => absurd z.2 (by decide))).trans hdp1⟩ ?_
          exact ⟨up2_s _ _ _ _, up2_s _ _ _ _⟩
  · obtain ⟨hO1, hO2⟩ := hO
    show Go d 251 0 0 0 [.ref (ad 10 0), .retAddr 0, .retAddr 0, .retAddr 0, .retAddr 0, .retAddr 0] [] (mm M f g) R
    refine go_blk 3 [] (pc' := 3) (vs' := [.ref (ad 10 0), .int 1, .retAddr 0, .retAddr 0, .retAddr 0, .retAddr 0]) (st' := [.ref (ad 10 0)]) (M' := mm M f g) (ps := []) rfl trivial ?_
    refine go_callV rfl rfl rfl (by omega) rfl (by decide) (by decide) hX.m.1 ?_
    refine sumsC 6 0 _ rfl (by omega) _ _ i hi hX hP (fun e1 w1 f1 hr1 hl1 hk1 hf1 => ⟨ne_l, ?_⟩) (fun v1 k1 f1 hr1 hk1 hp1 => ⟨ne_l, ?_⟩)
    · -- ('j', 'w#')
      show Go d 251 0 0 6 [.ref (ad 10 0), .int 1, .retAddr 0, .retAddr 0, .retAddr 0, .retAddr 0] [.long w1] (mm M f1 g) R
      refine go_blk 4 [some (.int (nI e1))] (pc' := 12) (vs' := [.ref (ad 10 0), .int 1, .long w1, .retAddr 1, .retAddr 0, .retAddr 0]) (st' := [.int (-1), .int (nI e1)]) (M' := mm M f1 g) (ps := [ob (mm M f1 g) (ad 10 0) 12, (Value.int (f1 (ad 10 0) 86)) = .int (nI e1)]) rfl ⟨hX.m.1, congrArg Value.int hf1, trivial⟩ ?_
      refine go_icmp rfl (fun _ => ?_) (fun (z : ¬ (¬ (nI e1) = (-1))) => absurd (show ¬ (nI e1) = (-1) from (nI_m1 (n := e1) (by omega))) z)
      rw [hr1] at hE
      exact lpF_clauseB hX.m hf1 hl1 (hE e1 _ rfl hl1 hk1 hf1)
    · -- ('j', 'v#')
      obtain ⟨ha1, hf1, hdp1⟩ := hp1
      have hX1 := hX.keep hk1
      obtain ⟨hk11, hk21, hkk1⟩ := sum_g (r := 6) (dp := 0) rfl i hi v1 k1 hr1
      rw [hr1] at hE hV
      simp only [] at hE hV
      rw [hkk1] at hE hV
      show Go d 251 0 0 6 [.ref (ad 10 0), .int 1, .retAddr 0, .retAddr 0, .retAddr 0, .retAddr 0] [.long v1] (mm M f1 g) R
      refine go_blk 4 [some (.int (-1))] (pc' := 12) (vs' := [.ref (ad 10 0), .int 1, .long v1, .retAddr 1, .retAddr 0, .retAddr 0]) (st' := [.int (-1), .int (-1)]) (M' := mm M f1 g) (ps := [ob (mm M f1 g) (ad 10 0) 12, (Value.int (f1 (ad 10 0) 86)) = .int (-1)]) rfl ⟨hX.m.1, congrArg Value.int hf1, trivial⟩ ?_
      refine go_icmp rfl (fun (z : ¬ ((-1) : Int32) = (-1)) => absurd z (show ¬ (¬ ((-1) : Int32) = (-1)) from (by decide))) (fun _ => ?_)
      refine go_blk 1 [] (pc' := 16) (vs' := [.ref (ad 10 0), .int 1, .long v1, .retAddr 1, .retAddr 0, .retAddr 0]) (st' := [.ref (ad 10 0)]) (M' := mm M f1 g) (ps := []) rfl trivial ?_
      refine go_callV rfl rfl rfl (by omega) rfl (by decide) (by decide) hX.m.1 ?_
      refine s_Mo_lookS (i := k1) hX1 hk21 hkk1 ha1 (fun hj2 => ⟨ne_i, ?_⟩) (fun hj2 => ⟨ne_i, ?_⟩)
      · -- ('i', 't k1')
        have hin := hj2
        show Go d 251 0 0 19 [.ref (ad 10 0), .int 1, .long v1, .retAddr 1, .retAddr 0, .retAddr 0] [.int (t k1)] (mm M f1 g) R
        refine go_callS rfl (by decide) rfl rfl (by omega) rfl (by decide) (by decide) ?_
        refine s_Mo_isSign (by omega) (fun hs3 => ⟨ne_i, ?_⟩) (fun hs3 => ⟨ne_i, ?_⟩)
        · -- ('i', '1')
          have hsg := hs3
          rw [if_pos ⟨hin, hsg⟩] at hE hV
          show Go d 251 0 0 22 [.ref (ad 10 0), .int 1, .long v1, .retAddr 1, .retAddr 0, .retAddr 0] [.int 1] (mm M f1 g) R
          refine go_if rfl (fun (z : (1 : Int32) = 0) => absurd z (show ¬ ((1 : Int32) = 0) from (by decide))) (fun _ => ?_)
          refine go_blk 2 [] (pc' := 27) (vs' := [.ref (ad 10 0), .int 1, .long v1, .retAddr 1, .retAddr 0, .retAddr 0]) (st' := [.long v1, .ref (ad 10 0)]) (M' := mm M f1 g) (ps := []) rfl trivial ?_
          refine go_callV rfl rfl rfl (by omega) rfl (by decide) (by decide) hX.m.1 ?_
          refine s_Mo_holds (k := k1) (by omega) hX1 ⟨ha1, hf1, hdp1⟩ hin hkk1 hsg (fun e4 b4 f4 hr4 hl4 hk4 hf4 hb4 => ⟨ne_i, ?_⟩) (fun w4 k4 f4 hr4 hk4 hp4 => ⟨ne_i, ?_⟩)
          · -- ('i', 'b#')
            show Go d 251 0 0 30 [.ref (ad 10 0), .int 1, .long v1, .retAddr 1, .retAddr 0, .retAddr 0] [.int b4] (mm M f4 g) R
            refine go_blk 1 [] (pc' := 31) (vs' := [.ref (ad 10 0), .int b4, .long v1, .retAddr 1, .retAddr 0, .retAddr 0]) (st' := []) (M' := mm M f4 g) (ps := []) rfl trivial ?_
            rw [hr4] at hE
            exact lpF_clauseA hX.m hf4 hl4 (hE e4 _ rfl hl4 (hk1.trans hk4) hf4)
          · -- ('i', 'if cmpV (t k1) v1 w# = true then 1 else 0')
            obtain ⟨hz14, hz24, hz34⟩ := sum_g (r := 6) (dp := 0) rfl (k1 + 1) (by omega) w4 k4 hr4
            rw [hr4] at hE hV
            simp only [] at hE hV
            show Go d 251 0 0 30 [.ref (ad 10 0), .int 1, .long v1, .retAddr 1, .retAddr 0, .retAddr 0] [.int (if cmpV (t k1) v1 w4 = true then 1 else 0)] (mm M f4 g) R
            refine go_blk 1 [] (pc' := 31) (vs' := [.ref (ad 10 0), .int (if cmpV (t k1) v1 w4 = true then 1 else 0), .long v1, .retAddr 1, .retAddr 0, .retAddr 0]) (st' := []) (M' := mm M f4 g) (ps := []) rfl trivial ?_
            refine lp_clause (by omega) (L + 1) (cmpV (t k1) v1 w4) k4 f4 R _ _ hz24 (by omega) (hX.keep (hk1.trans hk4)) hp4 (fun e f' z l k1 k2 => hE e f' (by rw [z]) l ((hk1.trans hk4).trans k1) k2) (fun b5 q5 f5 u45 u55 hr5 hk5 hp5 hl5 hL5 hjj5 => ?_)
            obtain ⟨ha5, hf5, hdp5⟩ := hp5
            rw [hr5] at hE hV
            simp only [] at hE hV
            rw [hjj5] at hE hV
            show Go d 251 0 0 109 [.ref (ad 10 0), .int (if b5 = true then 1 else 0), .long v1, .retAddr 1, u45, u55] [] (mm M f5 g) R
            refine go_blk 3 [some (.int (-1))] (pc' := 114) (vs' := [.ref (ad 10 0), .int (if b5 = true then 1 else 0), .long v1, .retAddr 1, u45, u55]) (st' := [.int (-1), .int (-1)]) (M' := mm M f5 g) (ps := [ob (mm M f5 g) (ad 10 0) 12, (Value.int (f5 (ad 10 0) 86)) = .int (-1)]) rfl ⟨hX.m.1, congrArg Value.int hf5, trivial⟩ ?_
            refine go_icmp rfl (fun _ => ?_) (fun (z : ¬ (((-1) : Int32) = (-1))) => absurd (show ((-1) : Int32) = (-1) from (by decide)) z)
            refine go_blk 1 [] (pc' := 119) (vs' := [.ref (ad 10 0), .int (if b5 = true then 1 else 0), .long v1, .retAddr 1, u45, u55]) (st' := [.ref (ad 10 0)]) (M' := mm M f5 g) (ps := []) rfl trivial ?_
            refine go_callV rfl rfl rfl (by omega) rfl (by decide) (by decide) hX.m.1 ?_
            refine s_Mo_lookS (i := q5) (hX.keep ((hk1.trans hk4).trans hk5)) (by omega) hjj5 ha5 (fun hj6 => ⟨ne_i, ?_⟩) (fun hj6 => ⟨ne_i, ?_⟩)
            · -- ('i', 't q5')
              have hinj := hj6
              show Go d 251 0 0 122 [.ref (ad 10 0), .int (if b5 = true then 1 else 0), .long v1, .retAddr 1, u45, u55] [.int (t q5)] (mm M f5 g) R
              refine go_blk 1 [] (pc' := 124) (vs' := [.ref (ad 10 0), .int (if b5 = true then 1 else 0), .long v1, .retAddr 1, u45, u55]) (st' := [.int 63, .int (t q5)]) (M' := mm M f5 g) (ps := []) rfl trivial ?_
              refine go_icmp rfl (fun (c7 : (t q5) = 63) => ?_) (fun (c7 : ¬ ((t q5) = 63)) => ?_)
              · -- (t q5) = 63
                have hc63 : t q5 = 63 := c7
                refine go_blk 7 [some (.int (nI q5))] (pc' := 144) (vs' := [.ref (ad 10 0), .int (if b5 = true then 1 else 0), .long v1, .retAddr 1, u45, u55]) (st' := [.ref (ad 10 0)]) (M' := mm M (up2 f5 (ad 10 0) 85 ((nI q5) + 1)) g) (ps := [(.ref (ad 10 0) : Value).category = 1, ob (mm M f5 g) (ad 10 0) 12, (Value.int (f5 (ad 10 0) 85)) = .int (nI q5), ob (mm M f5 g) (ad 10 0) 12]) rfl ⟨rfl, hX.m.1, congrArg Value.int ha5, hX.m.1, trivial⟩ ?_
                refine go_callV rfl rfl rfl (by omega) rfl (by decide) (by decide) hX.m.1 ?_
                refine sumsC 6 0 _ rfl (by omega) _ _ (q5 + 1) (by omega) (hX.keep (((hk1.trans hk4).trans hk5).up (by omega))) ⟨(up2_s _ _ _ _).trans (nI_add q5 1), (up2_n _ _ (fun z => absurd z.2 (by decide))).trans hf5, (up2_n _ _ (fun z => absurd z.2 (by decide))).trans hdp5⟩ (fun e8 w8 f8 hr8 hl8 hk8 hf8 => ⟨ne_l, ?_⟩) (fun v8 k8 f8 hr8 hk8 hp8 => ⟨ne_l, ?_⟩)
                · -- ('j', 'w#')
                  show Go d 251 0 0 147 [.ref (ad 10 0), .int (if b5 = true then 1 else 0), .long v1, .retAddr 1, u45, u55] [.long w8] (mm M f8 g) R
                  refine go_blk 1 [] (pc' := 148) (vs' := [.ref (ad 10 0), .int (if b5 = true then 1 else 0), .long w8, .retAddr 1, u45, u55]) (st' := []) (M' := mm M f8 g) (ps := []) rfl trivial ?_
                  rw [if_pos ⟨hinj, hc63⟩, hr8] at hE
                  exact lpF_clauseB hX.m hf8 hl8 (hE e8 _ rfl hl8 ((((hk1.trans hk4).trans hk5).up (by omega)).trans hk8) hf8)
                · -- ('j', 'v#')
                  obtain ⟨ha8, hf8, hdp8⟩ := hp8
                  have hk898 : f8 (ad 10 0) 89 = 1 := (((((hk1.trans hk4).trans hk5).up (by omega)).trans hk8) _ _ (by omega)).trans hO1
                  show Go d 251 0 0 147 [.ref (ad 10 0), .int (if b5 = true then 1 else 0), .long v1, .retAddr 1, u45, u55] [.long v8] (mm M f8 g) R
                  refine go_blk 1 [] (pc' := 148) (vs' := [.ref (ad 10 0), .int (if b5 = true then 1 else 0), .long v8, .retAddr 1, u45, u55]) (st' := []) (M' := mm M f8 g) (ps := []) rfl trivial ?_
                  show Go d 251 0 0 148 [.ref (ad 10 0), .int (if b5 = true then 1 else 0), .long v8, .retAddr 1, u45, u55] [] (mm M f8 g) R
                  refine go_blk 3 [some (.int (-1))] (pc' := 153) (vs' := [.ref (ad 10 0), .int (if b5 = true then 1 else 0), .long v8, .retAddr 1, u45, u55]) (st' := [.int (-1), .int (-1)]) (M' := mm M f8 g) (ps := [ob (mm M f8 g) (ad 10 0) 12, (Value.int (f8 (ad 10 0) 86)) = .int (-1)]) rfl ⟨hX.m.1, congrArg Value.int hf8, trivial⟩ ?_
                  refine go_icmp rfl (fun (z : ¬ ((-1) : Int32) = (-1)) => absurd z (show ¬ (¬ ((-1) : Int32) = (-1)) from (by decide))) (fun _ => ?_)
                  refine go_blk 2 [some (.int 1)] (pc' := 160) (vs' := [.ref (ad 10 0), .int (if b5 = true then 1 else 0), .long v8, .retAddr 1, u45, u55]) (st' := [.int 1]) (M' := mm M f8 g) (ps := [ob (mm M f8 g) (ad 10 0) 12, (Value.int (f8 (ad 10 0) 89)) = .int 1]) rfl ⟨hX.m.1, congrArg Value.int hk898, trivial⟩ ?_
                  refine go_if rfl (fun _ => ?_) (fun (z : ¬ (¬ (1 : Int32) = 0)) => absurd (show ¬ (1 : Int32) = 0 from (by decide)) z)
                  refine go_vret rfl rfl ?_
                  exact hV b5 v8 k8 _ _ (by rw [if_pos ⟨hinj, hc63⟩, hr8]) (MK2.of ((((hk1.trans hk4).trans hk5).up (by omega)).trans hk8)) GK.refl ⟨ha8, hf8, hdp8⟩ ⟨hk898, hO2⟩
              · -- ¬ ((t q5) = 63)
                have hn63 : ¬ (q5 < L ∧ t q5 = 63) := fun z => c7 z.2
                refine go_blk 1 [] (pc' := 128) (vs' := [.ref (ad 10 0), .int (if b5 = true then 1 else 0), .long v1, .retAddr 1, u45, u55]) (st' := [.ref (ad 10 0)]) (M' := mm M f5 g) (ps := []) rfl trivial ?_
                refine go_callV rfl rfl rfl (by omega) rfl (by decide) (by decide) hX.m.1 ?_
                show Go (d - 1) 242 0 0 0 [.ref (ad 10 0)] [] (mm M f5 g) _
                refine go_blk 3 [some (.int (-1))] (pc' := 5) (vs' := [.ref (ad 10 0)]) (st' := [.int (-1), .int (-1)]) (M' := mm M f5 g) (ps := [ob (mm M f5 g) (ad 10 0) 12, (Value.int (f5 (ad 10 0) 86)) = .int (-1)]) rfl ⟨hX.m.1, congrArg Value.int hf5, trivial⟩ ?_
                refine go_icmp rfl (fun (z : ¬ ((-1) : Int32) = (-1)) => absurd z (show ¬ (¬ ((-1) : Int32) = (-1)) from (by decide))) (fun _ => ?_)
                refine go_blk 5 [some (.int (nI q5))] (pc' := 17) (vs' := [.ref (ad 10 0)]) (st' := [.long 0]) (M' := mm M (up2 f5 (ad 10 0) 86 (nI q5)) g) (ps := [ob (mm M f5 g) (ad 10 0) 12, (Value.int (f5 (ad 10 0) 85)) = .int (nI q5), ob (mm M f5 g) (ad 10 0) 12]) rfl ⟨hX.m.1, congrArg Value.int ha5, hX.m.1, trivial⟩ ?_
                refine go_lret rfl rfl ?_
                refine ⟨ne_l, ?_⟩
                show Go d 251 0 0 131 [.ref (ad 10 0), .int (if b5 = true then 1 else 0), .long v1, .retAddr 1, u45, u55] [.long 0] (mm M (up2 f5 (ad 10 0) 86 (nI q5)) g) R
                refine go_blk 1 [] (pc' := 132) (vs' := [.ref (ad 10 0), .int (if b5 = true then 1 else 0), .long v1, .retAddr 1, u45, u55]) (st' := []) (M' := mm M (up2 f5 (ad 10 0) 86 (nI q5)) g) (ps := [(.long 0 : Value).category = 2]) rfl ⟨rfl, trivial⟩ ?_
                refine go_vret rfl rfl ?_
                exact hE q5 _ (by rw [if_neg hn63]) (by omega) (((hk1.trans hk4).trans hk5).up (by omega)) (up2_s _ _ _ _)
            · -- ('i', '(-1)')
              have hn63 : ¬ (q5 < L ∧ t q5 = 63) := fun z => hj6 z.1
              show Go d 251 0 0 122 [.ref (ad 10 0), .int (if b5 = true then 1 else 0), .long v1, .retAddr 1, u45, u55] [.int (-1)] (mm M f5 g) R
              refine go_blk 1 [] (pc' := 124) (vs' := [.ref (ad 10 0), .int (if b5 = true then 1 else 0), .long v1, .retAddr 1, u45, u55]) (st' := [.int 63, .int (-1)]) (M' := mm M f5 g) (ps := []) rfl trivial ?_
              refine go_icmp rfl (fun (z : ((-1) : Int32) = 63) => absurd z (show ¬ (((-1) : Int32) = 63) from (by decide))) (fun _ => ?_)
              refine go_blk 1 [] (pc' := 128) (vs' := [.ref (ad 10 0), .int (if b5 = true then 1 else 0), .long v1, .retAddr 1, u45, u55]) (st' := [.ref (ad 10 0)]) (M' := mm M f5 g) (ps := []) rfl trivial ?_
              refine go_callV rfl rfl rfl (by omega) rfl (by decide) (by decide) hX.m.1 ?_
              show Go (d - 1) 242 0 0 0 [.ref (ad 10 0)] [] (mm M f5 g) _
              refine go_blk 3 [some (.int (-1))] (pc' := 5) (vs' := [.ref (ad 10 0)]) (st' := [.int (-1), .int (-1)]) (M' := mm M f5 g) (ps := [ob (mm M f5 g) (ad 10 0) 12, (Value.int (f5 (ad 10 0) 86)) = .int (-1)]) rfl ⟨hX.m.1, congrArg Value.int hf5, trivial⟩ ?_
              refine go_icmp rfl (fun (z : ¬ ((-1) : Int32) = (-1)) => absurd z (show ¬ (¬ ((-1) : Int32) = (-1)) from (by decide))) (fun _ => ?_)
              refine go_blk 5 [some (.int (nI q5))] (pc' := 17) (vs' := [.ref (ad 10 0)]) (st' := [.long 0]) (M' := mm M (up2 f5 (ad 10 0) 86 (nI q5)) g) (ps := [ob (mm M f5 g) (ad 10 0) 12, (Value.int (f5 (ad 10 0) 85)) = .int (nI q5), ob (mm M f5 g) (ad 10 0) 12]) rfl ⟨hX.m.1, congrArg Value.int ha5, hX.m.1, trivial⟩ ?_
              refine go_lret rfl rfl ?_
              refine ⟨ne_l, ?_⟩
              show Go d 251 0 0 131 [.ref (ad 10 0), .int (if b5 = true then 1 else 0), .long v1, .retAddr 1, u45, u55] [.long 0] (mm M (up2 f5 (ad 10 0) 86 (nI q5)) g) R
              refine go_blk 1 [] (pc' := 132) (vs' := [.ref (ad 10 0), .int (if b5 = true then 1 else 0), .long v1, .retAddr 1, u45, u55]) (st' := []) (M' := mm M (up2 f5 (ad 10 0) 86 (nI q5)) g) (ps := [(.long 0 : Value).category = 2]) rfl ⟨rfl, trivial⟩ ?_
              refine go_vret rfl rfl ?_
              exact hE q5 _ (by rw [if_neg hn63]) (by omega) (((hk1.trans hk4).trans hk5).up (by omega)) (up2_s _ _ _ _)
        · -- ('i', '0')
          have hns : ¬ (k1 < L ∧ isSg (t k1) = true) := fun z => hs3 z.2
          show Go d 251 0 0 22 [.ref (ad 10 0), .int 1, .long v1, .retAddr 1, .retAddr 0, .retAddr 0] [.int 0] (mm M f1 g) R
          refine go_if rfl (fun _ => ?_) (fun (z : ¬ ((0 : Int32) = 0)) => absurd (show (0 : Int32) = 0 from (by decide)) z)
          refine go_blk 3 [some (.int (-1))] (pc' := 153) (vs' := [.ref (ad 10 0), .int 1, .long v1, .retAddr 1, .retAddr 0, .retAddr 0]) (st' := [.int (-1), .int (-1)]) (M' := mm M f1 g) (ps := [ob (mm M f1 g) (ad 10 0) 12, (Value.int (f1 (ad 10 0) 86)) = .int (-1)]) rfl ⟨hX.m.1, congrArg Value.int hf1, trivial⟩ ?_
          refine go_icmp rfl (fun (z : ¬ ((-1) : Int32) = (-1)) => absurd z (show ¬ (¬ ((-1) : Int32) = (-1)) from (by decide))) (fun _ => ?_)
          refine go_blk 2 [some (.int 1)] (pc' := 160) (vs' := [.ref (ad 10 0), .int 1, .long v1, .retAddr 1, .retAddr 0, .retAddr 0]) (st' := [.int 1]) (M' := mm M f1 g) (ps := [ob (mm M f1 g) (ad 10 0) 12, (Value.int (f1 (ad 10 0) 89)) = .int 1]) rfl ⟨hX.m.1, congrArg Value.int ((hk1 _ _ (by omega)).trans hO1), trivial⟩ ?_
          refine go_if rfl (fun _ => ?_) (fun (z : ¬ (¬ (1 : Int32) = 0)) => absurd (show ¬ (1 : Int32) = 0 from (by decide)) z)
          refine go_vret rfl rfl ?_
          exact hV true v1 k1 _ _ (by rw [if_neg hns]) (MK2.of hk1) GK.refl ⟨ha1, hf1, hdp1⟩ ⟨((hk1 _ _ (by omega)).trans hO1), hO2⟩
      · -- ('i', '(-1)')
        have hns : ¬ (k1 < L ∧ isSg (t k1) = true) := fun z => hj2 z.1
        show Go d 251 0 0 19 [.ref (ad 10 0), .int 1, .long v1, .retAddr 1, .retAddr 0, .retAddr 0] [.int (-1)] (mm M f1 g) R
        refine go_callS rfl (by decide) rfl rfl (by omega) rfl (by decide) (by decide) ?_
        refine s_Mo_isSign (by omega) (fun hs9 => ⟨ne_i, ?_⟩) (fun hs9 => ⟨ne_i, ?_⟩)
        · -- ('i', '1')
          exact absurd hs9 (by decide)
        · -- ('i', '0')
          show Go d 251 0 0 22 [.ref (ad 10 0), .int 1, .long v1, .retAddr 1, .retAddr 0, .retAddr 0] [.int 0] (mm M f1 g) R
          refine go_if rfl (fun _ => ?_) (fun (z : ¬ ((0 : Int32) = 0)) => absurd (show (0 : Int32) = 0 from (by decide)) z)
          refine go_blk 3 [some (.int (-1))] (pc' := 153) (vs' := [.ref (ad 10 0), .int 1, .long v1, .retAddr 1, .retAddr 0, .retAddr 0]) (st' := [.int (-1), .int (-1)]) (M' := mm M f1 g) (ps := [ob (mm M f1 g) (ad 10 0) 12, (Value.int (f1 (ad 10 0) 86)) = .int (-1)]) rfl ⟨hX.m.1, congrArg Value.int hf1, trivial⟩ ?_
          refine go_icmp rfl (fun (z : ¬ ((-1) : Int32) = (-1)) => absurd z (show ¬ (¬ ((-1) : Int32) = (-1)) from (by decide))) (fun _ => ?_)
          refine go_blk 2 [some (.int 1)] (pc' := 160) (vs' := [.ref (ad 10 0), .int 1, .long v1, .retAddr 1, .retAddr 0, .retAddr 0]) (st' := [.int 1]) (M' := mm M f1 g) (ps := [ob (mm M f1 g) (ad 10 0) 12, (Value.int (f1 (ad 10 0) 89)) = .int 1]) rfl ⟨hX.m.1, congrArg Value.int ((hk1 _ _ (by omega)).trans hO1), trivial⟩ ?_
          refine go_if rfl (fun _ => ?_) (fun (z : ¬ (¬ (1 : Int32) = 0)) => absurd (show ¬ (1 : Int32) = 0 from (by decide)) z)
          refine go_vret rfl rfl ?_
          exact hV true v1 k1 _ _ (by rw [if_neg hns]) (MK2.of hk1) GK.refl ⟨ha1, hf1, hdp1⟩ ⟨((hk1 _ _ (by omega)).trans hO1), hO2⟩

