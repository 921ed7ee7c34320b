/-! tick: the invariant behind it -/
/-- the day, out of the invariant -/
theorem DW.of {M : Mem} {ad : Nat → Nat → Nat} {nc nb nt wk nw nx nl ne nk kd : Nat} (h : WI M ad nc nb nt wk nw nx nl ne nk kd true) : DW (fun i k => mI M (ad 9 i) k) nt nc wk (mI M (ad 10 0) 31) (loM (nw + 1) 0) := by
  obtain ⟨hi, hsh, ⟨iS, iC, iB, iR, iL, iT⟩, ⟨jO, jR, jB, jX, jL⟩, kO, kC, kD, kP, kX⟩ := h
  obtain ⟨d1, d2, d3⟩ := kD rfl
  have wk3 : wk < 52 := iS.2.2.2.2.2.1.2.2 rfl
  have nc3 : nc ≤ 7 := iS.1.2.2
  refine ⟨fun t ht => ?_, ⟨fun t ht => ?_, fun t t' n n' i i' ht ht' h1 h2 b1 b2 l1 l2 e => ?_⟩, fun c hc h32 => ?_, fun t ht => (iT.1 t ht).2.1, fun i j h1 h2 hij => (iR.1 i j h1 h2).2 hij, iR.2.2⟩
  · have := d1 t ht
    unfold loM
    rw [if_neg (by omega)]
    exact this
  · obtain ⟨-, -, -, n, n1, n2, n3⟩ := iT.1 t ht
    refine ⟨n, n1, n2, fun i hi => ?_⟩
    obtain ⟨c, c1, c2, c3, c4, -⟩ := d2 t n i ht n2 n1 hi
    exact ⟨c, c1, c2, c3, c4⟩
  · obtain ⟨c, c1, c2, c3, c4, c5⟩ := d2 t n i ht h1 b1 l1
    obtain ⟨q1, q2⟩ := c5 t' n' i' ht' h2 b2 l2 (e.symm.trans c2)
    exact ⟨q1.symm, q2.symm⟩
  · rcases jR.2.2 rfl c hc with ⟨b, hb, q1, q2, q3⟩ | ⟨q1, q2⟩
    · obtain ⟨-, ⟨-, -, -⟩, r1, r2, r3, r4, r5, r6, r7, r8, r9, r10⟩ := jO.1 b hb q1 _ q2
      exact ⟨⟨r3, r4, r2⟩, r5, r6, r7, r8, r10, fun z => d3 c hc h32 z⟩
    · exact absurd (h32.symm.trans q2) (by decide)
/-- whose job is cottage c's today -/
theorem jb_of {M : Mem} {ad : Nat → Nat → Nat} {nc nb nt wk nw nx nl ne nk kd : Nat} (h : WI M ad nc nb nt wk nw nx nl ne nk kd true) : ∃ jb : Nat → Nat, ∀ c, c < nc → mI M (ad 9 32) (7 * wk + c) = 1 → jb c < nb ∧ hJ (vw ad (mI M)) wk true (jb c) ∧ jAt (vw ad (mI M)) (jb c) (7 * wk + c) ∧ mR M (ad 0 5) c = some (ad 6 (jb c)) := by
  obtain ⟨hi, hsh, ⟨iS, iC, iB, iR, iL, iT⟩, ⟨jO, jR, jB, jX, jL⟩, kO, kC, kD, kP, kX⟩ := h
  have : ∀ c, ∃ b, c < nc → mI M (ad 9 32) (7 * wk + c) = 1 → b < nb ∧ hJ (vw ad (mI M)) wk true b ∧ jAt (vw ad (mI M)) b (7 * wk + c) ∧ mR M (ad 0 5) c = some (ad 6 b) := by
    intro c
    by_cases hc : c < nc
    · rcases jR.2.2 rfl c hc with ⟨b, hb, q1, q2, q3⟩ | ⟨q1, q2⟩
      · exact ⟨b, fun _ _ => ⟨hb, q1, q2, q3⟩⟩
      · exact ⟨0, fun _ z => absurd (z.symm.trans q2) (by decide)⟩
    · exact ⟨0, fun z => absurd z hc⟩
  exact ⟨fun c => Classical.choose (this c), fun c => Classical.choose_spec (this c)⟩
theorem EC.of {M : Mem} {ad : Nat → Nat → Nat} {nc nb nt wk nw nx nl ne nk kd : Nat} {jb : Nat → Nat} (h : WI M ad nc nb nt wk nw nx nl ne nk kd true) (hj : ∀ c, c < nc → mI M (ad 9 32) (7 * wk + c) = 1 → jb c < nb ∧ hJ (vw ad (mI M)) wk true (jb c) ∧ jAt (vw ad (mI M)) (jb c) (7 * wk + c) ∧ mR M (ad 0 5) c = some (ad 6 (jb c))) : EC M ad jb nt nc wk (mI M) (fun i k => mI M (ad 9 i) k) (mI M (ad 10 0) 31) ∧ RC ad jb nt nc wk (mI M) (mI M) (fun i k => mI M (ad 9 i) k) := by
  obtain ⟨hi, ⟨hF, hM, hC, hB, hT, hX⟩, ⟨iS, iC, iB, iR, iL, iT⟩, ⟨jO, jR, jB, jX, jL⟩, kO, kC, kD, kP, kX⟩ := h
  have wk3 : wk < 52 := iS.2.2.2.2.2.1.2.2 rfl
  have nc3 : nc ≤ 7 := iS.1.2.2
  have nt3 : nt ≤ 3 := iS.2.2.1.2.2
  refine ⟨⟨⟨hi, hF, hT, nt3, nc3, wk3⟩, fun c hc z => ?_, fun c c' hc hc' z z' e => ?_, fun a b ha hb => ?_, iR.2.1⟩, fun t ht => (iT.1 t ht).1, fun t i n ht z1 z2 z3 => ?_, fun c hc z => ?_, fun _ _ _ _ => rfl⟩
  · obtain ⟨q1, q2, q3, q4⟩ := hj c hc z
    exact ⟨q4, ((jR.1 _ q1).1 q2).2.1⟩
  · obtain ⟨-, -, q3, -⟩ := hj c hc z
    obtain ⟨-, -, r3, -⟩ := hj c' hc' z'
    rw [e] at q3
    have := jAt_uni q3 r3
    omega
  · exact (iR.1 a b ha hb).1
  · obtain ⟨-, -, -, m, m1, m2, m3⟩ := iT.1 t ht
    have : n = m := (nI_eqs (by omega) (by omega)).mp (z1.symm.trans m2)
    exact (m3 i (by omega)).1
  · obtain ⟨q1, q2, q3, q4⟩ := hj c hc z
    obtain ⟨⟨p1, p2, p3, p4, p5, p6, p7, p8, p9, p10, p11⟩, -⟩ := jO.1 _ q1 q2 _ q3
    obtain ⟨c', w', r1, r2, r3, r4, r5⟩ := q3
    have hcc : c' = c := by omega
    rw [hcc] at r3
    exact ⟨p1.trans r3, p3, p4, p5, p6, p7, p8, p9, p10⟩
set_option maxHeartbeats 4000000 in
theorem WI.tick {M : Mem} {ad : Nat → Nat → Nat} {nc nb nt wk nw nw' nx nl ne nk kd : Nat} {f : Nat → Nat → Int32} {D' : DS} {jb : Nat → Nat} {F : Nat → Nat → Int32} (h : WI M ad nc nb nt wk nw nx nl ne nk kd true) (hnw : nw' ≤ 1440)
    (hj : ∀ c, c < nc → mI M (ad 9 32) (7 * wk + c) = 1 → jb c < nb ∧ hJ (vw ad (mI M)) wk true (jb c) ∧ jAt (vw ad (mI M)) (jb c) (7 * wk + c) ∧ mR M (ad 0 5) c = some (ad 6 (jb c)))
    (hW : DW D' nt nc wk (mI M (ad 10 0) 31) (loM (nw' + 1) 0)) (hK : DK (fun i k => mI M (ad 9 i) k) D' nt nc wk)
    (hD : ∀ i k, 28 ≤ i → i ≤ 51 → f (ad 9 i) k = D' i k) (hr : RC ad jb nt nc wk F f D') (h9 : f (ad 0 0) 9 = nI nw' ∧ f (ad 10 0) 20 = nI nw' ∧ f (ad 0 7) 19 = 0)
    (e : ∀ t i k, irr t i k = false → ¬ ((t = 0 ∧ i = 0 ∧ k = 9) ∨ (t = 10 ∧ k = 20) ∨ (t = 0 ∧ i = 7 ∧ k = 19) ∨ (t = 9 ∧ 37 ≤ i ∧ i ≤ 51) ∨ (t = 3 ∧ i < nt ∧ 4 ≤ k) ∨ (t = 5 ∧ i < nt) ∨ (t = 6 ∧ (∃ c, c < nc ∧ mI M (ad 9 32) (7 * wk + c) = 1 ∧ i = jb c) ∧ 7 ≤ k ∧ k ≤ 10)) → vw ad f t i k = vw ad (mI M) t i k) :
    WI (mm M f (mJ M)) ad nc nb nt wk nw' nx nl ne nk kd true := by
  obtain ⟨hi, hsh, ⟨iS, iC, iB, iR, iL, iT⟩, ⟨jO, jR, jB, jX, jL⟩, kO, kC, kD, kP, kX⟩ := id h
  have wk3 : wk < 52 := iS.2.2.2.2.2.1.2.2 rfl
  have nc3 : nc ≤ 7 := iS.1.2.2
  have nt3 : nt ≤ 3 := iS.2.2.1.2.2
  have ir : ∀ t i k, ¬ ((t = 10 ∧ (k = 0 ∨ (25 ≤ k ∧ k ≤ 27) ∨ (58 ≤ k ∧ k ≤ 61) ∨ (82 ≤ k ∧ k ≤ 90))) ∨ (t = 9 ∧ (i = 22 ∨ i = 23 ∨ i = 24 ∨ (53 ≤ i ∧ i ≤ 57))) ∨ (t = 0 ∧ (i = 6 ∨ (11 ≤ i ∧ i ≤ 15) ∨ (18 ≤ i ∧ i ≤ 29))) ∨ (t = 7 ∧ 4 ≤ k) ∨ (t = 0 ∧ i = 10 ∧ k = 8)) → ¬ ((t = 0 ∧ i = 0 ∧ k = 9) ∨ (t = 10 ∧ k = 20) ∨ (t = 0 ∧ i = 7 ∧ k = 19) ∨ (t = 9 ∧ 37 ≤ i ∧ i ≤ 51) ∨ (t = 3 ∧ i < nt ∧ 4 ≤ k) ∨ (t = 5 ∧ i < nt) ∨ (t = 6 ∧ 7 ≤ k ∧ k ≤ 10)) → vw ad f t i k = vw ad (mI M) t i k := by
    intro t i k hn hm
    refine e t i k ?_ (fun z => hm (by rcases z with z | z | z | z | z | z | z; exact Or.inl z; exact Or.inr (Or.inl z); exact Or.inr (Or.inr (Or.inl z)); exact Or.inr (Or.inr (Or.inr (Or.inl z))); exact Or.inr (Or.inr (Or.inr (Or.inr (Or.inl z)))); exact Or.inr (Or.inr (Or.inr (Or.inr (Or.inr (Or.inl z))))); exact Or.inr (Or.inr (Or.inr (Or.inr (Or.inr (Or.inr ⟨z.1, z.2.2⟩)))))))
    clear hm
    simp only [irr, Bool.or_eq_false_iff, Bool.and_eq_false_iff, beq_eq_false_iff_ne, decide_eq_false_iff_not, ne_eq]
    omega
  have e6 : ∀ b k, (∀ c, c < nc → mI M (ad 9 32) (7 * wk + c) = 1 → ¬ b = jb c) → vw ad f 6 b k = vw ad (mI M) 6 b k := fun b k z => by
    refine e 6 b k ?_ (fun y => ?_)
    · simp [irr]
    · rcases y with y | y | y | y | y | y | y
      · omega
      · omega
      · omega
      · omega
      · omega
      · omega
      · obtain ⟨c, c1, c2, c3⟩ := y.2.1
        exact z c c1 c2 c3
  have eK1 : eK nb (vw ad (mI M)) (vw ad f) := fun i k z => ir 9 i k (by omega) (by omega)
  -- a booking with a job: today's, or an older one
  have tod : ∀ b, b < nb → hJ (vw ad (mI M)) wk true b → ∀ j, jAt (vw ad (mI M)) b j → (∃ c, c < nc ∧ mI M (ad 9 32) (7 * wk + c) = 1 ∧ b = jb c ∧ j = 7 * wk + c) ∨ (j < 7 * wk ∧ ∀ c, c < nc → mI M (ad 9 32) (7 * wk + c) = 1 → ¬ b = jb c) := by
    intro b hb hjb j hja
    obtain ⟨c, w, q1, q2, q3, q4, q5⟩ := id hja
    obtain ⟨-, w', r1, r2, r3⟩ := id hjb
    have ew : w = w' := (nI_eqs (by omega) (by omega)).mp (q4.symm.trans r1)
    obtain ⟨c', c1', c2'⟩ := (iB.1 b hb).2.1.1
    have ec : c = c' := (nI_eqs (by omega) (by omega)).mp (q3.symm.trans c2')
    rcases r3 with z | ⟨z, -⟩
    · refine Or.inr ⟨by omega, fun x hx h32 y => ?_⟩
      obtain ⟨-, -, s3, -⟩ := hj x hx h32
      rw [← y] at s3
      have := jAt_uni hja s3
      omega
    · have h32 : mI M (ad 9 32) (7 * wk + c) = 1 := by
        have := (jO.1 b hb hjb j hja).2.1.2.2
        rw [q5, show w + 1 = wk by omega] at this
        exact this
      obtain ⟨s1, s2, s3, s4⟩ := hj c (by omega) h32
      refine Or.inl ⟨c, by omega, h32, jAt_inj iB hb s1 hjb s2 (j := j) hja ?_, by rw [q5, show w + 1 = wk by omega]⟩
      rw [q5, show w + 1 = wk by omega]; exact s3
  have D32 : ∀ j, D' 32 j = mI M (ad 9 32) j := fun j => hK.1 32 j (by omega) (by omega) (by omega)
  have old : ∀ i j, 32 ≤ i → i ≤ 43 → (∀ c, c < nc → mI M (ad 9 32) (7 * wk + c) = 1 → ¬ j = 7 * wk + c) → vw ad f 9 i j = vw ad (mI M) 9 i j := by
    intro i j h1 h2 hn
    show f (ad 9 i) j = mI M (ad 9 i) j
    rw [hD i j (by omega) (by omega)]
    exact hK.1 i j (fun z => by obtain ⟨c, c1, c2, c3⟩ := z.2; exact hn c c1 c2 c3) (by omega) (by omega)
  have n41 : ∀ i j, (32 ≤ i ∧ i ≤ 36) ∨ (41 ≤ i ∧ i ≤ 43) → vw ad f 9 i j = vw ad (mI M) 9 i j := fun i j z => by
    show f (ad 9 i) j = mI M (ad 9 i) j
    rw [hD i j (by omega) (by omega)]
    exact hK.1 i j (by omega) (by omega) (by omega)
  refine ⟨hi, hsh, ⟨?_, iC.congr iS.1.2.2 (fun t i k h => ir t i k (by omega) (by omega)) (fun _ _ => rfl), iB.congr (fun t i k h => ir t i k (by omega) (by omega)), iR.congr (fun t i k h => ir t i k (by omega) (by omega)), iL.congr (fun t i k h => ir t i k (by omega) (by omega)), ?_⟩, ⟨?_, jR.congr2 eK1, jB.congr iS.2.1.2.2 (fun t i k h => ir t i k (by omega) (by omega)), jX.congr (fun t i k h => ir t i k (by omega) (by omega)), ?_⟩, ?_, kC.congr (fun t i k h => ir t i k (by omega) (by omega)) ⟨rfl, rfl⟩, ?_, Or.inl h9.2.2, kX.congr (fun t i k h => ?_)⟩
  · show ISc (vw ad f) nc nb nt wk nw' true
    obtain ⟨s1, s2, s3, s4, s5, s6, s7⟩ := iS
    unfold ISc
    rw [ir 0 0 1 (by omega) (by omega), ir 0 0 3 (by omega) (by omega), ir 0 0 5 (by omega) (by omega), ir 0 0 6 (by omega) (by omega), ir 0 0 7 (by omega) (by omega), ir 0 0 8 (by omega) (by omega), ir 10 0 17 (by omega) (by omega), ir 10 0 18 (by omega) (by omega), ir 10 0 19 (by omega) (by omega), ir 10 0 21 (by omega) (by omega), ir 10 0 30 (by omega) (by omega), ir 10 0 98 (by omega) (by omega)]
    exact ⟨s1, s2, s3, s4, ⟨h9.1, h9.2.1, hnw⟩, s6, s7⟩
  · show ITm (vw ad f) nt nc
    refine ⟨fun t ht => ?_, fun t h1 h2 => ?_⟩
    · obtain ⟨g1, g2, g3, -⟩ := iT.1 t ht
      obtain ⟨a0, a1, a4, a5, a6, a7, a8, a9, a10⟩ := hr.1 t ht
      have d9 : ∀ i, 28 ≤ i → i ≤ 51 → vw ad f 9 i t = D' i t := fun i z1 z2 => hD i t z1 z2
      rw [d9 28 (by omega) (by omega), d9 51 (by omega) (by omega), d9 47 (by omega) (by omega), d9 48 (by omega) (by omega), d9 44 (by omega) (by omega), d9 45 (by omega) (by omega), d9 46 (by omega) (by omega), d9 49 (by omega) (by omega)]
      obtain ⟨n, n1, n2, n3⟩ := hW.2.1.1 t ht
      refine ⟨⟨a0, a1, a4, a5, a6, a7, a8, a9, a10⟩, hW.2.2.2.1 t ht, fun k hk => ?_, n, n1, n2, fun i hi => ?_⟩
      · rw [ir 4 t k (by omega) (by omega), ir 9 97 _ (by omega) (by omega), ir 10 0 98 (by omega) (by omega)]
        exact g3 k hk
      · show f (ad 5 t) i = f (ad 9 50) (7 * t + i) ∧ ∃ c, c < nc ∧ f (ad 9 50) (7 * t + i) = nI c
        rw [hD 50 _ (by omega) (by omega)]
        obtain ⟨c, c1, c2, -⟩ := n3 i hi
        exact ⟨hr.2.1 t i n ht n2 n1 hi, c, c1, c2⟩
    · obtain ⟨g1, g2⟩ := iT.2 t h1 h2
      have d9 : ∀ i, (44 ≤ i ∧ i ≤ 49) ∨ i = 51 → vw ad f 9 i t = vw ad (mI M) 9 i t := fun i z => by
        show f (ad 9 i) t = mI M (ad 9 i) t
        rw [hD i t (by omega) (by omega)]
        exact hK.1 i t (by omega) (by omega) (by omega)
      rw [d9 44 (by omega), d9 45 (by omega), d9 46 (by omega), d9 47 (by omega), d9 48 (by omega), d9 49 (by omega), d9 51 (by omega)]
      exact ⟨g1, fun k hk => by rw [ir 9 97 _ (by omega) (by omega)]; exact g2 k hk⟩
  · show IJo (vw ad f) nb nt wk true
    have c9 : ∀ i b, b < nb → (i = 6 ∨ i = 7 ∨ i = 8 ∨ i = 14) → vw ad f 9 i b = vw ad (mI M) 9 i b := fun i b hb z => ir 9 i b (by omega) (by omega)
    refine ⟨fun b hb hjb j hja => ?_, fun j hj' => ?_⟩
    · have hjb0 := (hJ.congr2 eK1 hb).mp hjb
      have hja0 := (jAt.congr2 eK1 hb).mp hja
      obtain ⟨⟨p1, p2, p3, p4, p5, p6, p7, p8, p9, p10, p11⟩, ⟨q1, q2, q3⟩, r1, r2, r3, r4, r5, r6, r7, r8, r9, r10⟩ := jO.1 b hb hjb0 j hja0
      have k6 : ∀ k, k = 1 ∨ k = 2 ∨ k = 3 ∨ k = 4 ∨ k = 5 ∨ k = 6 ∨ k = 11 → vw ad f 6 b k = vw ad (mI M) 6 b k := fun k z => ir 6 b k (by omega) (by omega)
      rw [k6 1 (by omega), k6 2 (by omega), k6 3 (by omega), k6 4 (by omega), k6 5 (by omega), k6 6 (by omega), k6 11 (by omega), c9 6 b hb (by omega), c9 7 b hb (by omega), c9 8 b hb (by omega), c9 14 b hb (by omega), n41 32 j (by omega), n41 33 j (by omega), n41 34 j (by omega), n41 35 j (by omega), n41 36 j (by omega), n41 41 j (by omega), n41 42 j (by omega), n41 43 j (by omega)]
      rcases tod b hb hjb0 j hja0 with ⟨c, c1, c2, c3, c4⟩ | ⟨t1, t2⟩
      · have h32 : D' 32 (7 * wk + c) = 1 := (D32 _).trans c2
        obtain ⟨x1, x3, x4, x5, x6, x7, x8, x9, x10⟩ := hr.2.2.1 c c1 h32
        obtain ⟨y1, y2, y3, y4, y5, y6, y7⟩ := hW.2.2.1 c c1 h32
        have d9 : ∀ i, 28 ≤ i → i ≤ 51 → vw ad f 9 i j = D' i (7 * wk + c) := fun i z1 z2 => by rw [c4]; exact hD i _ z1 z2
        have f6 : ∀ k, vw ad f 6 b k = f (ad 6 (jb c)) k := fun k => by rw [c3]; rfl
        rw [f6 7, f6 8, f6 9, f6 10, d9 37 (by omega) (by omega), d9 38 (by omega) (by omega), d9 39 (by omega) (by omega), d9 40 (by omega) (by omega), x7, x8, x9, x10]
        exact ⟨⟨p1, p2, p3, p4, p5, p6, rfl, rfl, rfl, rfl, p11⟩, ⟨q1, q2, q3⟩, r1, r2, r3, r4, y2, y3, y4, y5, r9, y6⟩
      · have nj : ∀ c, c < nc → mI M (ad 9 32) (7 * wk + c) = 1 → ¬ j = 7 * wk + c := fun c _ _ => by omega
        rw [e6 b 7 t2, e6 b 8 t2, e6 b 9 t2, e6 b 10 t2, old 37 j (by omega) (by omega) nj, old 38 j (by omega) (by omega) nj, old 39 j (by omega) (by omega) nj, old 40 j (by omega) (by omega) nj]
        exact ⟨⟨p1, p2, p3, p4, p5, p6, p7, p8, p9, p10, p11⟩, ⟨q1, q2, q3⟩, r1, r2, r3, r4, r5, r6, r7, r8, r9, r10⟩
    · rcases jO.2 j hj' with ⟨b, hb, h1, h2⟩ | h1
      · exact Or.inl ⟨b, hb, (hJ.congr2 eK1 hb).mpr h1, (jAt.congr2 eK1 hb).mpr h2⟩
      · refine Or.inr ?_
        have nj : ∀ c, c < nc → mI M (ad 9 32) (7 * wk + c) = 1 → ¬ j = 7 * wk + c := fun c _ h32 z => by
          have := h1.1
          rw [z] at this
          exact absurd (h32.symm.trans this) (by decide)
        rw [old 32 j (by omega) (by omega) nj, old 39 j (by omega) (by omega) nj, old 40 j (by omega) (by omega) nj, old 41 j (by omega) (by omega) nj]
        exact h1
  · refine jL.congr2 eK1 (fun b k hb z => ?_) (fun t i k h => ir t i k (by omega) (by omega))
    rcases z with z | z | ⟨z, zr⟩
    · exact ir 6 b k (by omega) (by omega)
    · exact ir 6 b k (by omega) (by omega)
    · by_cases q : ∀ c, c < nc → mI M (ad 9 32) (7 * wk + c) = 1 → ¬ b = jb c
      · exact e6 b k q
      · obtain ⟨c, hc, h32, hbc⟩ : ∃ c, c < nc ∧ mI M (ad 9 32) (7 * wk + c) = 1 ∧ b = jb c := Classical.byContradiction fun y => q (fun c h1 h2 h3 => y ⟨c, h1, h2, h3⟩)
        obtain ⟨s1, s2, s3, s4⟩ := hj c hc h32
        obtain ⟨⟨-, -, -, -, -, -, -, p8, p9, -, -⟩, -⟩ := jO.1 _ s1 s2 _ s3
        have h32' : D' 32 (7 * wk + c) = 1 := (D32 _).trans h32
        obtain ⟨-, -, -, -, -, -, x8, x9, -⟩ := hr.2.2.1 c hc h32'
        rw [hbc] at zr ⊢
        have zr' : mI M (ad 9 38) (7 * wk + c) ≠ -1 := fun y => zr (p8.trans y)
        obtain ⟨k8, k9⟩ := hK.2 c hc zr'
        rcases z with z | z
        · subst z; exact (x8.trans k8).trans p8.symm
        · subst z; exact (x9.trans k9).trans p9.symm
  · show ILo (vw ad f) nb wk
    unfold ILo at *
    rw [ir 10 0 52 (by omega) (by omega), kO]
    refine congrArg nI (ctB_congr (fun b hb => ?_))
    rw [ir 9 16 b (by omega) (by omega), ir 9 7 b (by omega) (by omega)]
    by_cases h1 : vw ad (mI M) 9 16 b = 1
    · by_cases h2 : vw ad (mI M) 9 7 b + 1 < nI wk
      · obtain ⟨w, w1, w2, -⟩ := (iB.1 b hb).2.2.1
        obtain ⟨c, c1, c2⟩ := (iB.1 b hb).2.1.1
        rw [w2, show nI w + 1 = nI (w + 1) from nI_add w 1, nI_lts (by omega) (by omega)] at h2
        have hjb : hJ (vw ad (mI M)) wk true b := ⟨h1, w, w2, w1, Or.inl h2⟩
        rcases tod b hb hjb (7 * (w + 1) + c) ⟨c, w, by omega, w1, c2, w2, rfl⟩ with ⟨x, x1, x2, x3, x4⟩ | ⟨t1, t2⟩
        · omega
        · rw [e6 b 8 t2]
      · rw [decide_eq_false h2]; simp only [Bool.and_false, Bool.false_and]
    · rw [show (vw ad (mI M) 9 16 b == 1) = false from beq_eq_false_iff_ne.mpr h1]; simp only [Bool.and_false, Bool.false_and]
  · show IDy (vw ad f) nt nc wk nw' true
    intro _
    have d9 : ∀ i, 28 ≤ i → i ≤ 51 → vw ad f 9 i = D' i := fun i z1 z2 => funext fun k => hD i k z1 z2
    rw [d9 47 (by omega) (by omega), d9 48 (by omega) (by omega), d9 44 (by omega) (by omega), d9 45 (by omega) (by omega), d9 46 (by omega) (by omega), d9 32 (by omega) (by omega), d9 39 (by omega) (by omega), d9 38 (by omega) (by omega), d9 37 (by omega) (by omega), d9 51 (by omega) (by omega), d9 50 (by omega) (by omega)]
    refine ⟨fun t ht => ?_, fun t n i ht h1 h2 h3 => ?_, fun c hc h1 h2 => (hW.2.2.1 c hc h1).2.2.2.2.2.2 h2⟩
    · have := hW.1 t ht
      unfold loM at this
      rw [if_neg (by omega)] at this
      exact this
    · obtain ⟨m, m1, m2, m3⟩ := hW.2.1.1 t ht
      have em : n = m := (nI_eqs (by omega) (by omega)).mp (h1.symm.trans m2)
      obtain ⟨c, c1, c2, c3, c4⟩ := m3 i (by omega)
      refine ⟨c, c1, c2, c3, c4, fun t' n' i' ht' g1 g2 g3 g4 => ?_⟩
      obtain ⟨q1, q2⟩ := hW.2.1.2 t' t n' n i' i ht' ht g1 h1 g2 h2 g3 h3 (g4.trans c2.symm)
      exact ⟨q1, q2⟩
  · by_cases z : t = 9 ∧ i = 41
    · obtain ⟨rfl, rfl⟩ := z; exact n41 41 k (by omega)
    · exact ir t i k (by omega) (by omega)
