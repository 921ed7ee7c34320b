/-! moves: the model's findMoves -/
set_option maxHeartbeats 4000000 in
set_option maxRecDepth 100000 in
theorem s_Mo_findMoves {d : Nat} {M : Mem} {f : Nat → Nat → Int32} {g : Nat → Nat → Int64} {ad : Nat → Nat → Nat} {R : Option Value → Mem → Prop} {V : Nat → Nat → Int32} {x : Int32} {nc nb wk lo : Nat} (hd : 64 ≤ d) (hM : Mx M ad) (hi : Inj ad) (hnc : nc ≤ 7) (hnb : nb ≤ 60) (hwk : wk ≤ 52) (f17 : f (ad 10 0) 17 = nI nc) (f18 : f (ad 10 0) 18 = nI nb) (f19 : f (ad 10 0) 19 = nI wk) (ho : (f (ad 10 0) 21 = 0 ∧ lo = wk) ∨ (f (ad 10 0) 21 = 1 ∧ lo = wk + 1)) (hV : ∀ i k, ¬ i = 22 → ¬ i = 23 → ¬ i = 24 → f (ad 9 i) k = V i k) (hcot : ∀ b, b < nb → ∃ c, c < nc ∧ V 6 b = nI c)
    (h1 : ∀ w, lo ≤ w → w ≤ 51 → x = nI w → ∀ f' r, mvS (okQ V) (dsP V) nc (gsL (gsP V w) nb) (frP V nb w) 0 0 (fun _ => -1) none = some r → (∀ x k, ¬ (x = ad 10 0 ∧ (k = 0 ∨ (25 ≤ k ∧ k ≤ 27))) → ¬ x = ad 9 22 → ¬ x = ad 9 23 → ¬ x = ad 9 24 → f' x k = f x k) → f' (ad 10 0) 26 = nI r.1 → f' (ad 10 0) 27 = r.2.1 → (∀ k, k < nb → f' (ad 9 23) k = r.2.2 k) → R (some (.int 1)) (mm M f' g)) (h0 : ¬ (∃ w, lo ≤ w ∧ w ≤ 51 ∧ x = nI w) → ∀ f', (∀ x k, ¬ (x = ad 10 0 ∧ (k = 0 ∨ (25 ≤ k ∧ k ≤ 27))) → ¬ x = ad 9 22 → ¬ x = ad 9 23 → ¬ x = ad 9 24 → f' x k = f x k) → R (some (.int 0)) (mm M f' g)) : Call d 198 [.ref (ad 10 0), .int x] (mm M f g) R := by
  have n9 : ∀ i j, ¬ i = j → ¬ ad 9 i = ad 9 j := fun i j z y => z (hi _ _ _ _ y).2
  have n10 : ∀ j, ¬ ad 10 0 = ad 9 j := fun j y => absurd (hi _ _ _ _ y).1 (by decide)
  have n9' : ∀ j, ¬ ad 9 j = ad 10 0 := fun j y => absurd (hi _ _ _ _ y).1 (by decide)
  have u0 : ∀ k, ¬ k = 0 → (up2 f (ad 10 0) 0 0) (ad 10 0) k = f (ad 10 0) k := fun k z => up2_n _ _ (fun y => z y.2)
  show Go d 198 0 0 0 [.ref (ad 10 0), .int x, .retAddr 0] [] (mm M f g) R
  refine go_blk 5 [] (pc' := 7) (vs' := [.ref (ad 10 0), .int x, .retAddr 0]) (st' := [.int x, .ref (ad 10 0)]) (M' := mm M (up2 f (ad 10 0) 0 0) g) (ps := [ob (mm M f g) (ad 10 0) 12]) rfl ⟨hM.1, trivial⟩ ?_
  refine go_callV rfl rfl rfl (by omega) rfl (by decide) (by decide) hM.1 ?_
  refine s_Mo_isAheadK (wk := wk) (lo := lo) (by omega) hM ((u0 19 (by decide)).trans f19) hwk (by rw [u0 21 (by decide)]; exact ho) (fun w hl hj hx => ⟨ne_i, ?_⟩) (fun hno => ⟨ne_i, ?_⟩)
  · -- ('i', '1')
    subst hx
    show Go d 198 0 0 10 [.ref (ad 10 0), .int (nI w), .retAddr 0] [.int 1] (mm M (up2 f (ad 10 0) 0 0) g) R
    refine go_if rfl (fun _ => ?_) (fun (z : ¬ (¬ (1 : Int32) = 0)) => absurd (show ¬ (1 : Int32) = 0 from (by decide)) z)
    refine go_blk 5 [] (pc' := 22) (vs' := [.ref (ad 10 0), .int (nI w), .int 0]) (st' := []) (M' := mm M (up2 (up2 f (ad 10 0) 0 0) (ad 10 0) 25 (nI w)) g) (ps := [ob (mm M (up2 f (ad 10 0) 0 0) g) (ad 10 0) 12]) rfl ⟨hM.1, trivial⟩ ?_
    obtain ⟨f1, hf1⟩ : ∃ f1, up2 (up2 f (ad 10 0) 0 0) (ad 10 0) 25 (nI w) = f1 := ⟨_, rfl⟩
    have q1 : ∀ x k, ¬ (x = ad 10 0 ∧ (k = 0 ∨ k = 25)) → f1 x k = f x k := fun x k z => by rw [← hf1, up2_n _ _ (fun y => z ⟨y.1, Or.inr y.2⟩), up2_n _ _ (fun y => z ⟨y.1, Or.inl y.2⟩)]
    have q25 : f1 (ad 10 0) 25 = nI w := by rw [← hf1, up2_s]
    have v1 : ∀ i k, ¬ i = 22 → ¬ i = 23 → ¬ i = 24 → f1 (ad 9 i) k = V i k := fun i k z1 z2 z3 => (q1 _ _ (fun z => n9' i z.1)).trans (hV i k z1 z2 z3)
    have key : ∀ c, c ≤ nc → ∀ f2 : Nat → Nat → Int32, (∀ x k, ¬ x = ad 9 24 → f2 x k = f1 x k) → (∀ j, j < c → f2 (ad 9 24) j = if frP V nb w j = true then 0 else 1) → Go d 198 0 0 22 [.ref (ad 10 0), .int (nI w), .int (nI c)] [] (mm M f2 g) R := by
      refine up_ind (P := fun c => ∀ f2 : Nat → Nat → Int32, (∀ x k, ¬ x = ad 9 24 → f2 x k = f1 x k) → (∀ j, j < c → f2 (ad 9 24) j = if frP V nb w j = true then 0 else 1) → Go d 198 0 0 22 [.ref (ad 10 0), .int (nI w), .int (nI c)] [] (mm M f2 g) R) nc (fun f2 z1 z2 => ?_) (fun c hc ih f2 z1 z2 => ?_)
      ·
        show Go d 198 0 0 22 [.ref (ad 10 0), .int (nI w), .int (nI nc)] [] (mm M f2 g) R
        refine go_blk 3 [some (.int (nI nc))] (pc' := 27) (vs' := [.ref (ad 10 0), .int (nI w), .int (nI nc)]) (st' := [.int (nI nc), .int (nI nc)]) (M' := mm M f2 g) (ps := [ob (mm M f2 g) (ad 10 0) 12, (Value.int (f2 (ad 10 0) 17)) = .int (nI nc)]) rfl ⟨hM.1, congrArg Value.int ((z1 _ _ (n10 24)).trans ((q1 _ _ (by omega)).trans f17)), trivial⟩ ?_
        refine go_icmp rfl (fun _ => ?_) (fun (z : ¬ (nI nc ≤ (nI nc))) => absurd (show nI nc ≤ (nI nc) from Int32.le_refl _) z)
        refine go_blk 7 [] (pc' := 80) (vs' := [.ref (ad 10 0), .int (nI w), .int (nI nc)]) (st' := [.int 0, .int 0, .int 0, .ref (ad 10 0)]) (M' := mm M (up2 f2 (ad 10 0) 26 (-1)) g) (ps := [ob (mm M f2 g) (ad 10 0) 12]) rfl ⟨hM.1, trivial⟩ ?_
        refine go_callV rfl rfl rfl (by omega) rfl (by decide) (by decide) hM.1 ?_
        obtain ⟨F, hFe⟩ : ∃ F, up2 f2 (ad 10 0) 26 (-1) = F := ⟨_, rfl⟩
        rw [hFe]
        have a1 : ∀ x k, ¬ (x = ad 10 0 ∧ k = 26) → F x k = f2 x k := fun x k z => by rw [← hFe, up2_n _ _ z]
        have a9 : ∀ i k, F (ad 9 i) k = f2 (ad 9 i) k := fun i k => a1 _ _ (fun z => n9' i z.1)
        have v2 : ∀ i k, ¬ i = 22 → ¬ i = 23 → ¬ i = 24 → F (ad 9 i) k = V i k := fun i k y1 y2 y3 => (a9 i k).trans ((z1 _ _ (n9 i 24 y3)).trans (v1 i k y1 y2 y3))
        have a10 : ∀ k, ¬ k = 26 → F (ad 10 0) k = f1 (ad 10 0) k := fun k z => (a1 _ _ (fun y => z y.2)).trans (z1 _ _ (n10 24))
        have hmd : MD ad F F nb nc 0 (frP V nb w) (fun _ => -1) none := ⟨fun _ _ _ _ _ _ => rfl, fun c hc => (a9 24 c).trans (z2 c hc), fun k hk => absurd hk (by omega), by rw [← hFe, up2_s]; rfl, fun r hr => by cases hr⟩
        show Go (d - 1) 197 0 0 0 [.ref (ad 10 0), .int 0, .int 0, .int 0, .retAddr 0, .retAddr 0] [] (mm M F g) _
        refine go_blk 2 [] (pc' := 3) (vs' := [.ref (ad 10 0), .int 0, .int 0, .int 0, .int 0, .retAddr 0]) (st' := []) (M' := mm M F g) (ps := []) rfl trivial ?_
        refine lp_tryMoves (p := gsP V w) (ok := okQ V) (ds := dsP V) (w := w) (nc := nc) hM hi hnc hnb (by omega) ((a10 17 (by decide)).trans ((q1 _ _ (by omega)).trans f17)) ((a10 18 (by decide)).trans ((q1 _ _ (by omega)).trans f18)) ((a10 25 (by decide)).trans q25) (fun b hb => by rw [v2 6 b (by decide) (by decide) (by decide)]; exact hcot b hb) (fun b hb => ?_) (fun c b hc hb => ?_) (fun c b => ?_) nb 0 (by omega) (d - 1) F (frP V nb w) 0 0 (fun _ => -1) none _ 0 (.retAddr 0) (by omega) (by omega) (fun r hr => by cases hr) (fun _ _ => rfl) hmd (fun f' hf' => ⟨ne_v, ?_⟩)
        · rw [v2 15 b (by decide) (by decide) (by decide), v2 7 b (by decide) (by decide) (by decide), v2 5 _ (by decide) (by decide) (by decide), v2 6 b (by decide) (by decide) (by decide)]; exact gsP_of
        · rw [v2 8 b (by decide) (by decide) (by decide), v2 1 c (by decide) (by decide) (by decide), v2 4 c (by decide) (by decide) (by decide), v2 14 b (by decide) (by decide) (by decide)]
          unfold okQ
          simp only [Bool.and_eq_true, decide_eq_true_eq, Bool.or_eq_true, Bool.not_eq_true', beq_eq_false_iff_ne, beq_iff_eq, ne_eq]
        · rw [v2 2 c (by decide) (by decide) (by decide), v2 10 b (by decide) (by decide) (by decide)]; rfl
        show Go d 198 0 0 83 [.ref (ad 10 0), .int (nI w), .int (nI nc)] [] (mm M f' g) R
        refine go_blk 1 [] (pc' := 84) (vs' := [.ref (ad 10 0), .int (nI w), .int (nI nc)]) (st' := [.int 1]) (M' := mm M f' g) (ps := []) rfl trivial ?_
        refine go_zret rfl rfl (Or.inr rfl) ?_
        rw [gsT_0] at hf'
        obtain ⟨r, hr⟩ := mvS_some (ok := okQ V) (ds := dsP V) (nc := nc) (gsL (gsP V w) nb) (frP V nb w) 0 0 (fun _ => -1) none
        rw [hr] at hf'
        refine h1 w hl hj rfl f' r hr (fun x k y1 y2 y3 y4 => ?_) hf'.2.2.2.1 (hf'.2.2.2.2 r rfl).1 (hf'.2.2.2.2 r rfl).2
        rw [hf'.1 x k (fun y => y1 ⟨y.1, by omega⟩) y2 y3 y4, a1 x k (fun y => y1 ⟨y.1, by omega⟩), z1 x k y4, q1 x k (fun y => y1 ⟨y.1, by omega⟩)]
      ·
        have hfp := frP_of (V := V) (nb := nb) (w := w) (c := c)
        have fv : ∀ i k, ¬ i = 22 → ¬ i = 23 → ¬ i = 24 → f2 (ad 9 i) k = V i k := fun i k y1 y2 y3 => (z1 _ _ (n9 i 24 y3)).trans (v1 i k y1 y2 y3)
        show Go d 198 0 0 22 [.ref (ad 10 0), .int (nI w), .int (nI c)] [] (mm M f2 g) R
        refine go_blk 3 [some (.int (nI nc))] (pc' := 27) (vs' := [.ref (ad 10 0), .int (nI w), .int (nI c)]) (st' := [.int (nI nc), .int (nI c)]) (M' := mm M f2 g) (ps := [ob (mm M f2 g) (ad 10 0) 12, (Value.int (f2 (ad 10 0) 17)) = .int (nI nc)]) rfl ⟨hM.1, congrArg Value.int ((z1 _ _ (n10 24)).trans ((q1 _ _ (by omega)).trans f17)), trivial⟩ ?_
        refine go_icmp rfl (fun (z : nI nc ≤ (nI c)) => absurd z (show ¬ (nI nc ≤ (nI c)) from (Int32.not_le.mpr ((nI_lts (a := c) (b := nc) (by omega) (by omega)).mpr hc)))) (fun _ => ?_)
        refine go_blk 11 [some (.ref (ad 9 24)), some (.ref (ad 9 5)), some (.int (V 5 (7 * w + c)))] (pc' := 46) (vs' := [.ref (ad 10 0), .int (nI w), .int (nI c)]) (st' := [.int (V 5 (7 * w + c)), .int (nI c), .ref (ad 9 24)]) (M' := mm M f2 g) (ps := [ob (mm M f2 g) (ad 10 0) 12, mR (mm M f2 g) (ad 10 0) 24 = some (ad 9 24), va_rf (some (ad 9 24)) = .ref (ad 9 24), ob (mm M f2 g) (ad 10 0) 12, mR (mm M f2 g) (ad 10 0) 5 = some (ad 9 5), va_rf (some (ad 9 5)) = .ref (ad 9 5), ob (mm M f2 g) (ad 9 5) 13, 13 = 13 ∨ 13 = 14, vp_in ((7 * (nI w)) + (nI c)) (mN (mm M f2 g) (ad 9 5)), (Value.int (f2 (ad 9 5) (((7 * (nI w)) + (nI c)).toNatClampNeg))) = .int (V 5 (7 * w + c))]) rfl ⟨hM.1, (hM.r 24 13 7), rfl, hM.1, (hM.r 5 13 364), rfl, (hM.o 5 13 364), (by decide), (vp_eq (eq_add (eq_mul (show (7 : Int32) = nI 7 from rfl) rfl) rfl) (vpi (hM.n 5 13 364) (by omega))), congrArg Value.int ((congrArg (fun z => f2 (ad 9 5) z) (cl_of (eq_add (eq_mul (show (7 : Int32) = nI 7 from rfl) rfl) rfl) (by omega))).trans (fv 5 _ (by decide) (by decide) (by decide))), trivial⟩ ?_
        refine go_if rfl (fun (c1 : ¬ (V 5 (7 * w + c)) = 0) => ?_) (fun (c1 : ¬ (¬ (V 5 (7 * w + c)) = 0)) => ?_)
        · -- ¬ (V 5 (7 * w + c)) = 0
          refine go_blk 5 [] (pc' := 22) (vs' := [.ref (ad 10 0), .int (nI w), .int ((nI c) + 1)]) (st' := []) (M' := mm M (up2 f2 (ad 9 24) ((nI c).toNatClampNeg) 1) g) (ps := [ob (mm M f2 g) (ad 9 24) 13, vp_in (nI c) (mN (mm M f2 g) (ad 9 24))]) rfl ⟨(hM.o 24 13 7), (vpi (hM.n 24 13 7) (by omega)), trivial⟩ ?_
          rw [nI_clamp (n := c) (by omega)]
          rw [show nI c + 1 = nI (c + 1) from nI_add c 1]
          refine ih _ (fun x k z => (up2_n _ _ (fun y => z y.1)).trans (z1 x k z)) (fun j hj => ?_)
          by_cases q : j = c
          · subst q
            rw [up2_s]
            exact (by rw [if_neg (fun z => by first | exact absurd z (by assumption) | exact absurd (hfp.mp z).1 (by assumption))])
          · rw [up2_n _ _ (fun z => q z.2)]; exact z2 j (by omega)
        · -- ¬ (¬ (V 5 (7 * w + c)) = 0)
          refine go_blk 3 [] (pc' := 52) (vs' := [.ref (ad 10 0), .int (nI w), .int (nI c)]) (st' := [.int (nI w), .int (nI c), .ref (ad 10 0), .int (nI c), .ref (ad 9 24)]) (M' := mm M f2 g) (ps := []) rfl trivial ?_
          refine go_callV rfl rfl rfl (by omega) rfl (by decide) (by decide) hM.1 ?_
          refine s_Mo_inForce (by omega) hM ((z1 _ _ (n10 24)).trans ((q1 _ _ (by omega)).trans f18)) hnb (fun i2 hi2 hx2 hy2 => ⟨ne_i, ?_⟩) (fun hx2 => ⟨ne_i, ?_⟩)
          · -- ('i', 'nI i#')
            have hfn : ¬ frP V nb w c = true := fun z => (hfp.mp z).2 i2 hi2 (by rw [fv 15 _ (by decide) (by decide) (by decide), fv 6 _ (by decide) (by decide) (by decide), fv 7 _ (by decide) (by decide) (by decide)] at hx2; exact hx2)
            show Go d 198 0 0 55 [.ref (ad 10 0), .int (nI w), .int (nI c)] [.int (nI i2), .int (nI c), .ref (ad 9 24)] (mm M f2 g) R
            refine go_blk 1 [] (pc' := 56) (vs' := [.ref (ad 10 0), .int (nI w), .int (nI c)]) (st' := [.int (-1), .int (nI i2), .int (nI c), .ref (ad 9 24)]) (M' := mm M f2 g) (ps := []) rfl trivial ?_
            refine go_icmp rfl (fun (z : (nI i2) = (-1)) => absurd z (show ¬ ((nI i2) = (-1)) from (nI_m1 (n := i2) (by omega)))) (fun _ => ?_)
            refine go_blk 5 [] (pc' := 22) (vs' := [.ref (ad 10 0), .int (nI w), .int ((nI c) + 1)]) (st' := []) (M' := mm M (up2 f2 (ad 9 24) ((nI c).toNatClampNeg) 1) g) (ps := [ob (mm M f2 g) (ad 9 24) 13, vp_in (nI c) (mN (mm M f2 g) (ad 9 24))]) rfl ⟨(hM.o 24 13 7), (vpi (hM.n 24 13 7) (by omega)), trivial⟩ ?_
            rw [nI_clamp (n := c) (by omega)]
            rw [show nI c + 1 = nI (c + 1) from nI_add c 1]
            refine ih _ (fun x k z => (up2_n _ _ (fun y => z y.1)).trans (z1 x k z)) (fun j hj => ?_)
            by_cases q : j = c
            · subst q
              rw [up2_s]
              exact (by rw [if_neg (fun z => by first | exact absurd z (by assumption) | exact absurd (hfp.mp z).1 (by assumption))])
            · rw [up2_n _ _ (fun z => q z.2)]; exact z2 j (by omega)
          · -- ('i', '(-1)')
            have hfn : frP V nb w c = true := hfp.mpr ⟨(by first | assumption | exact Classical.not_not.mp (by assumption)), fun b hb z => hx2 b hb (by rw [fv 15 _ (by decide) (by decide) (by decide), fv 6 _ (by decide) (by decide) (by decide), fv 7 _ (by decide) (by decide) (by decide)]; exact z)⟩
            show Go d 198 0 0 55 [.ref (ad 10 0), .int (nI w), .int (nI c)] [.int (-1), .int (nI c), .ref (ad 9 24)] (mm M f2 g) R
            refine go_blk 1 [] (pc' := 56) (vs' := [.ref (ad 10 0), .int (nI w), .int (nI c)]) (st' := [.int (-1), .int (-1), .int (nI c), .ref (ad 9 24)]) (M' := mm M f2 g) (ps := []) rfl trivial ?_
            refine go_icmp rfl (fun _ => ?_) (fun (z : ¬ (((-1) : Int32) = (-1))) => absurd (show ((-1) : Int32) = (-1) from (by decide)) z)
            refine go_blk 4 [] (pc' := 22) (vs' := [.ref (ad 10 0), .int (nI w), .int ((nI c) + 1)]) (st' := []) (M' := mm M (up2 f2 (ad 9 24) ((nI c).toNatClampNeg) 0) g) (ps := [ob (mm M f2 g) (ad 9 24) 13, vp_in (nI c) (mN (mm M f2 g) (ad 9 24))]) rfl ⟨(hM.o 24 13 7), (vpi (hM.n 24 13 7) (by omega)), trivial⟩ ?_
            rw [nI_clamp (n := c) (by omega)]
            rw [show nI c + 1 = nI (c + 1) from nI_add c 1]
            refine ih _ (fun x k z => (up2_n _ _ (fun y => z y.1)).trans (z1 x k z)) (fun j hj => ?_)
            by_cases q : j = c
            · subst q
              rw [up2_s]
              exact (by rw [if_pos (by assumption)])
            · rw [up2_n _ _ (fun z => q z.2)]; exact z2 j (by omega)
    rw [hf1]
    exact key 0 (Nat.zero_le _) f1 (fun _ _ _ => rfl) (fun j hj => absurd hj (by omega))
  · -- ('i', '0')
    show Go d 198 0 0 10 [.ref (ad 10 0), .int x, .retAddr 0] [.int 0] (mm M (up2 f (ad 10 0) 0 0) g) R
    refine go_if rfl (fun (z : ¬ (0 : Int32) = 0) => absurd z (show ¬ (¬ (0 : Int32) = 0) from (by decide))) (fun _ => ?_)
    refine go_blk 1 [] (pc' := 14) (vs' := [.ref (ad 10 0), .int x, .retAddr 0]) (st' := [.int 0]) (M' := mm M (up2 f (ad 10 0) 0 0) g) (ps := []) rfl trivial ?_
    refine go_zret rfl rfl (Or.inl rfl) ?_
    exact h0 hno _ (fun x k z1 z2 z3 z4 => up2_n _ _ (fun z => z1 ⟨z.1, Or.inl z.2⟩))

