/-! calls: moved, move -/
/-- what is said of begun bookings and jobs: a booking that hasn't begun may stand elsewhere -/
def eM (nb : Nat) (φ φ' : VI) : Prop := (∀ i k, (k < nb ∧ (i = 7 ∨ i = 8 ∨ i = 14 ∨ i = 16)) ∨ (32 ≤ i ∧ i ≤ 43) → φ' 9 i k = φ 9 i k) ∧ ∀ k, k < nb → φ 9 16 k = 1 → φ' 9 6 k = φ 9 6 k
theorem hJ.congr3 {φ φ' : VI} {wk nb b : Nat} {op : Bool} (e : eM nb φ φ') (hb : b < nb) : hJ φ' wk op b ↔ hJ φ wk op b := by
  unfold hJ
  rw [e.1 16 b (by omega), e.1 7 b (by omega)]
theorem jAt.congr3 {φ φ' : VI} {nb b j : Nat} (e : eM nb φ φ') (hb : b < nb) (h16 : φ 9 16 b = 1) : jAt φ' b j ↔ jAt φ b j := by
  unfold jAt
  rw [e.2 b hb h16, e.1 7 b (by omega)]
theorem IJo.congr3 {φ φ' : VI} {nb nt wk : Nat} {op : Bool} (h : IJo φ nb nt wk op) (e : eM nb φ φ') (e6 : ∀ b k, b < nb → hJ φ wk op b → k < 12 → φ' 6 b k = φ 6 b k) : IJo φ' nb nt wk op := by
  refine ⟨fun b hb hj j hja => ?_, fun j hj => ?_⟩
  · have hj0 := (hJ.congr3 e hb).mp hj
    rw [e6 b 1 hb hj0 (by omega), e6 b 2 hb hj0 (by omega), e6 b 3 hb hj0 (by omega), e6 b 4 hb hj0 (by omega), e6 b 5 hb hj0 (by omega), e6 b 6 hb hj0 (by omega), e6 b 7 hb hj0 (by omega), e6 b 8 hb hj0 (by omega), e6 b 9 hb hj0 (by omega), e6 b 10 hb hj0 (by omega), e6 b 11 hb hj0 (by omega), e.2 b hb hj0.1, e.1 7 b (by omega), e.1 8 b (by omega), e.1 14 b (by omega), e.1 32 j (by omega), e.1 33 j (by omega), e.1 34 j (by omega), e.1 35 j (by omega), e.1 36 j (by omega), e.1 37 j (by omega), e.1 38 j (by omega), e.1 39 j (by omega), e.1 40 j (by omega), e.1 41 j (by omega), e.1 42 j (by omega), e.1 43 j (by omega)]
    exact h.1 b hb hj0 j ((jAt.congr3 e hb hj0.1).mp hja)
  · rw [e.1 32 j (by omega), e.1 39 j (by omega), e.1 40 j (by omega), e.1 41 j (by omega)]
    rcases h.2 j hj with ⟨b, hb, h1, h2⟩ | h1
    · exact Or.inl ⟨b, hb, (hJ.congr3 e hb).mpr h1, (jAt.congr3 e hb h1.1).mpr h2⟩
    · exact Or.inr h1
theorem IJr.congr3 {M : Mem} {ad : Nat → Nat → Nat} {φ φ' : VI} {nb nc wk : Nat} {op : Bool} {f : Nat → Nat → Int32} {g : Nat → Nat → Int64} (h : IJr M ad φ nb nc wk op) (e : eM nb φ φ') : IJr (mm M f g) ad φ' nb nc wk op := by
  refine ⟨fun b hb => ?_, fun w c hw hc => ?_, fun ho c hc => ?_⟩
  · rw [hJ.congr3 e hb]
    exact h.1 b hb
  · rcases h.2.1 w c hw hc with ⟨b, hb, h1, h2, h3, h4⟩ | ⟨h1, h2⟩
    · exact Or.inl ⟨b, hb, by rw [e.1 16 b (by omega)]; exact h1, by rw [e.2 b hb h1]; exact h2, by rw [e.1 7 b (by omega)]; exact h3, h4⟩
    · refine Or.inr ⟨h1, fun b hb => ?_⟩
      rw [e.1 16 b (by omega), e.1 7 b (by omega)]
      intro z1 z2 z3
      rw [e.2 b hb z1] at z2
      exact h2 b hb z1 z2 z3
  · rcases h.2.2 ho c hc with ⟨b, hb, h1, h2, h3⟩ | ⟨h1, h2⟩
    · exact Or.inl ⟨b, hb, (hJ.congr3 e hb).mpr h1, (jAt.congr3 e hb h1.1).mpr h2, h3⟩
    · exact Or.inr ⟨h1, by rw [e.1 32 _ (by omega)]; exact h2⟩
theorem IBo.congr3 {φ φ' : VI} {ne nk nb nc : Nat} (h : IBo φ ne nk nb nc) (hnb : nb ≤ 60) (eM1 : eM nb φ φ') (e : ∀ t i k, (t = 0 ∧ (i = 9 ∨ (32 ≤ i ∧ i ≤ 35))) ∨ (t = 10 ∧ i = 0 ∧ (k = 95 ∨ k = 96)) ∨ (t = 9 ∧ (91 ≤ i ∧ i ≤ 94)) ∨ (t = 2 ∧ i < nb ∧ k = 11) → φ' t i k = φ t i k) : IBo φ' ne nk nb nc := by
  have e16 : ∀ b, b < nb → φ' 9 16 b = φ 9 16 b := fun b hb => eM1.1 16 b (by omega)
  refine ⟨?_, fun th hth => ?_, fun i hi => ?_, fun b hb => ?_⟩
  · rw [e 0 9 2 (by omega), e 10 0 95 (by omega), e 0 9 4 (by omega), e 10 0 96 (by omega)]
    exact h.1
  · rw [e 0 35 th (by omega), e 9 94 th (by omega)]
    exact h.2.1 th hth
  · rw [e 0 32 i (by omega), e 9 91 i (by omega), e 9 92 i (by omega), e 0 33 i (by omega)]
    obtain ⟨h1, h2, h3⟩ := h.2.2.1 i hi
    refine ⟨h1, h2, ?_⟩
    rcases h3 with ⟨b, hb, g1, g2, g3, g4⟩ | ⟨g1, k, hk, g2, g3⟩
    · exact Or.inl ⟨b, hb, g1, by rw [e16 b hb]; exact g2, g3, by rw [e 2 b 11 (by omega)]; exact g4⟩
    · exact Or.inr ⟨g1, k, hk, g2, fun th hth => by rw [e 0 34 _ (by omega), e 9 93 _ (by omega)]; exact g3 th hth⟩
  · rw [e16 b hb, e 2 b 11 (by omega)]
    intro hbg
    rw [eM1.2 b hb hbg]
    obtain ⟨i, hi, g1, g2, g3, g4⟩ := h.2.2.2 b hb hbg
    refine ⟨i, hi, g1, by rw [e 9 92 i (by omega)]; exact g2, by rw [e 9 91 i (by omega)]; exact g3, fun i' hi' => ?_⟩
    rw [e 9 92 i' (by omega)]
    exact g4 i' hi'
theorem ILn.congr3 {M : Mem} {ad : Nat → Nat → Nat} {φ φ' : VI} {nl nb wk : Nat} {op : Bool} {f : Nat → Nat → Int32} {g : Nat → Nat → Int64} (h : ILn M ad φ nl nb wk op) (e : eM nb φ φ') (e6 : ∀ b k, b < nb → hJ φ wk op b → k < 12 → φ' 6 b k = φ 6 b k) (e0 : ∀ t i k, (t = 0 ∧ ((i = 10 ∧ (k = 6 ∨ k = 7)) ∨ i = 37 ∨ i = 39)) ∨ (t = 10 ∧ i = 0 ∧ (k = 73 ∨ k = 74)) ∨ (t = 9 ∧ i = 72) → φ' t i k = φ t i k) : ILn (mm M f g) ad φ' nl nb wk op := by
  refine ⟨?_, fun i hi => ?_⟩
  · rw [e0 0 10 6 (by omega), e0 10 0 73 (by omega), e0 0 10 7 (by omega), e0 10 0 74 (by omega)]
    exact h.1
  · obtain ⟨h1, h2, b, hb, h3, h4, h5, h6, h7, h8⟩ := h.2 i hi
    rw [e0 0 37 i (by omega), e0 0 39 i (by omega), e0 9 72 _ (by omega), e0 9 72 _ (by omega), e0 9 72 _ (by omega), e0 9 72 _ (by omega), e0 9 72 _ (by omega)]
    exact ⟨h1, h2, b, hb, (hJ.congr3 e hb).mpr h3, h4, by rw [e6 b 2 hb h3 (by omega)]; exact h5, by rw [e6 b 1 hb h3 (by omega)]; exact h6, by rw [e6 b 9 hb h3 (by omega)]; exact h7, by rw [e6 b 8 hb h3 (by omega)]; exact h8⟩
theorem IPl.congr3 {M : Mem} {ad : Nat → Nat → Nat} {φ φ' : VI} {ψ ψ' : VJ} {nb nt nc wk nw : Nat} {op : Bool} {f : Nat → Nat → Int32} {g : Nat → Nat → Int64} (h : IPl M ad φ ψ nb nt nc wk nw op) (e : eM nb φ φ') (e9 : ∀ i k, ppS i = true → φ' 9 i k = φ 9 i k) (e0 : φ' 10 0 31 = φ 10 0 31 ∧ φ' 0 7 19 = φ 0 7 19 ∧ φ' 0 7 2 = φ 0 7 2 ∧ φ' 0 7 4 = φ 0 7 4 ∧ ∀ t, φ' 0 30 t = φ 0 30 t) (ej : ψ' 0 7 17 = ψ 0 7 17) : IPl (mm M f g) ad φ' ψ' nb nt nc wk nw op := by
  unfold IPl at *
  rw [ppv_congr e9 e0.1, e0.2.1, e0.2.2.1, e0.2.2.2.1, ej]
  rcases h with h | ⟨h1, h2⟩
  · exact Or.inl h
  · refine Or.inr ⟨h1, fun ho => ?_⟩
    obtain ⟨g1, g2, g3⟩ := h2 ho
    refine ⟨g1, fun k c hk => ?_, fun q => ?_⟩
    · obtain ⟨b, hb, q1, q2, q3⟩ := g2 k c hk
      exact ⟨b, hb, (hJ.congr3 e hb).mpr q1, (jAt.congr3 e hb q1.1).mpr q2, q3⟩
    · obtain ⟨rows, q1, q2, q3⟩ := g3 q
      exact ⟨rows, q1, q2, fun t ht => by rw [e0.2.2.2.2 t]; exact q3 t ht⟩
theorem WI.moved {M : Mem} {ad : Nat → Nat → Nat} {nc nb nt wk nw nx nl ne nk kd w : Nat} {op : Bool} {f : Nat → Nat → Int32} {G : Nat → Int32} (h : WI M ad nc nb nt wk nw nx nl ne nk kd op) (hw : (op = true → wk < w) ∧ wk ≤ w ∧ w ≤ 51)
    (e : ∀ t i k, irr t i k = false → ¬ ((t = 2 ∧ i < nb ∧ (k = 0 ∨ k = 9)) ∨ (t = 9 ∧ (i = 6 ∨ i = 11) ∧ k < nb)) → vw ad f t i k = vw ad (mI M) t i k)
    (e6 : ∀ b, b < nb → f (ad 2 b) 0 = f (ad 9 6) b ∧ f (ad 9 6) b = (if G b = -1 then mI M (ad 9 6) b else G b) ∧ f (ad 2 b) 9 = f (ad 9 11) b)
    (hG : ∀ b, b < nb → G b = -1 ∨ (¬ mI M (ad 9 15) b = 0 ∧ mI M (ad 9 7) b = nI w ∧ ∃ c, c < nc ∧ G b = nI c ∧ ∀ a, a < nb → ¬ (¬ mI M (ad 9 15) a = 0 ∧ mI M (ad 9 6) a = nI c ∧ mI M (ad 9 7) a = nI w)))
    (hu : ∀ a b c, a < nb → b < nb → c < nc → G a = nI c → G b = nI c → a = b) : WI (mm M f (mJ M)) ad nc nb nt wk nw nx nl ne nk kd op := by
  obtain ⟨hi, hsh, ⟨iS, iC, iB, iR, iL, iT⟩, ⟨jO, jR, jB, jX, jL⟩, kO, kC, kD, kP, kX⟩ := h
  have ir : ∀ t i k, ¬ ((t = 10 ∧ (k = 0 ∨ (25 ≤ k ∧ k ≤ 27) ∨ (58 ≤ k ∧ k ≤ 61) ∨ (82 ≤ k ∧ k ≤ 90))) ∨ (t = 9 ∧ (i = 22 ∨ i = 23 ∨ i = 24 ∨ (53 ≤ i ∧ i ≤ 57))) ∨ (t = 0 ∧ (i = 6 ∨ (11 ≤ i ∧ i ≤ 15) ∨ (18 ≤ i ∧ i ≤ 29))) ∨ (t = 7 ∧ 4 ≤ k) ∨ (t = 0 ∧ i = 10 ∧ k = 8)) → ¬ ((t = 2 ∧ i < nb ∧ (k = 0 ∨ k = 9)) ∨ (t = 9 ∧ (i = 6 ∨ i = 11) ∧ k < nb)) → vw ad f t i k = vw ad (mI M) t i k := by
    intro t i k hn hm
    refine e t i k ?_ hm
    simp only [irr, Bool.or_eq_false_iff, Bool.and_eq_false_iff, beq_eq_false_iff_ne, decide_eq_false_iff_not, ne_eq]
    omega
  have i9 : ∀ i k, ¬ (i = 22 ∨ i = 23 ∨ i = 24 ∨ (53 ≤ i ∧ i ≤ 57)) → ¬ ((i = 6 ∨ i = 11) ∧ k < nb) → vw ad f 9 i k = vw ad (mI M) 9 i k := fun i k z1 z2 => ir 9 i k (by omega) (by omega)
  have nbg : ∀ b, b < nb → vw ad (mI M) 9 16 b = 1 → G b = -1 := by
    intro b hb h16
    rcases hG b hb with z | ⟨-, z2, -⟩
    · exact z
    · obtain ⟨w', w1, w2, w3⟩ := (iB.1 b hb).2.2.1
      have ew : w = w' := (nI_eqs (by omega) (by omega)).mp (z2.symm.trans w2)
      have := (w3 h16).2
      rcases this with y | y
      · have := hw.2.1; omega
      · have := hw.1 y.2; omega
  have eM1 : eM nb (vw ad (mI M)) (vw ad f) := ⟨fun i k z => i9 i k (by omega) (by omega), fun k hk h16 => by
    show f (ad 9 6) k = mI M (ad 9 6) k
    rw [(e6 k hk).2.1, if_pos (nbg k hk h16)]⟩
  have hS : ∀ i, ppS i = true → (i = 28 ∨ i = 29 ∨ (32 ≤ i ∧ i ≤ 36) ∨ i = 39 ∨ (44 ≤ i ∧ i ≤ 48) ∨ i = 50 ∨ i = 51) := fun i => ppS_sp
  refine ⟨hi, hsh, ⟨iS.congr (fun t k h => ir t 0 k (by omega) (by omega)), iC.congr iS.1.2.2 (fun t i k h => ir t i k (by omega) (by omega)) (fun _ _ => rfl), ?_, iR.congr (fun t i k h => ir t i k (by omega) (by omega)), iL.congr (fun t i k h => ir t i k (by omega) (by omega)), iT.congr (fun t i k h => ir t i k (by omega) (by omega))⟩, ⟨?_, ?_, ?_, ?_, ?_⟩, ?_, ?_, ?_, ?_, ?_⟩
  · show IBk (vw ad f) nb nc wk op
    have c15 : ∀ b, b < nb → vw ad f 9 15 b = vw ad (mI M) 9 15 b := fun b hb => i9 15 b (by omega) (by omega)
    have c7 : ∀ b, b < nb → vw ad f 9 7 b = vw ad (mI M) 9 7 b := fun b hb => i9 7 b (by omega) (by omega)
    refine ⟨fun b hb => ?_, fun a b ha hb => ?_⟩
    · obtain ⟨⟨p0, p1, p2, p3, p4, p5, p6, p7, p8, p9⟩, ⟨q1, q2⟩, r1, r2⟩ := iB.1 b hb
      have k2 : ∀ k, ¬ (k = 0 ∨ k = 9) → vw ad f 2 b k = vw ad (mI M) 2 b k := fun k z => ir 2 b k (by omega) (by omega)
      rw [k2 1 (by decide), k2 2 (by decide), k2 3 (by decide), k2 4 (by decide), k2 5 (by decide), k2 6 (by decide), k2 7 (by decide), k2 8 (by decide), k2 10 (by decide), c7 b hb, c15 b hb, i9 8 b (by omega) (by omega), i9 9 b (by omega) (by omega), i9 10 b (by omega) (by omega), i9 12 b (by omega) (by omega), i9 13 b (by omega) (by omega), i9 14 b (by omega) (by omega), i9 16 b (by omega) (by omega)]
      refine ⟨⟨(e6 b hb).1, p1, p2, p3, p4, p5, p6, p7, p8, (e6 b hb).2.2⟩, ⟨?_, q2⟩, r1, r2⟩
      show ∃ c, c < nc ∧ f (ad 9 6) b = nI c
      rw [(e6 b hb).2.1]
      by_cases z : G b = -1
      · rw [if_pos z]; exact q1
      · rw [if_neg z]
        rcases hG b hb with y | ⟨-, -, c, y1, y2, -⟩
        · exact absurd y z
        · exact ⟨c, y1, y2⟩
    · rw [c15 a ha, c15 b hb, c7 a ha, c7 b hb]
      intro z1 z2 z3 z4
      replace z3 : f (ad 9 6) a = f (ad 9 6) b := z3
      replace z1 : mI M (ad 9 15) a = 1 := z1
      replace z2 : mI M (ad 9 15) b = 1 := z2
      replace z4 : mI M (ad 9 7) a = mI M (ad 9 7) b := z4
      rw [(e6 a ha).2.1, (e6 b hb).2.1] at z3
      have nc3 : nc ≤ 7 := iS.1.2.2
      have no1 : ∀ x, mI M (ad 9 15) x = 1 → ¬ mI M (ad 9 15) x = 0 := fun x hx z => by rw [hx] at z; exact absurd z (by decide)
      rcases hG a ha with ya | ⟨-, ya2, ca, ya3, ya4, ya5⟩
      · rw [if_pos ya] at z3
        rcases hG b hb with yb | ⟨-, yb2, cb, yb3, yb4, yb5⟩
        · rw [if_pos yb] at z3
          exact iB.2 a b ha hb z1 z2 z3 z4
        · rw [if_neg (by rw [yb4]; exact nI_m1 (by omega)), yb4] at z3
          exact absurd ⟨no1 a z1, z3, z4.trans yb2⟩ (yb5 a ha)
      · rw [if_neg (by rw [ya4]; exact nI_m1 (by omega)), ya4] at z3
        rcases hG b hb with yb | ⟨-, yb2, cb, yb3, yb4, yb5⟩
        · rw [if_pos yb] at z3
          exact absurd ⟨no1 b z2, z3.symm, z4.symm.trans ya2⟩ (ya5 b hb)
        · rw [if_neg (by rw [yb4]; exact nI_m1 (by omega)), yb4] at z3
          exact hu a b ca ha hb ya3 ya4 (by rw [yb4, z3])
  · exact jO.congr3 eM1 (fun b k _ _ _ => ir 6 b k (by omega) (by omega))
  · exact jR.congr3 eM1
  · exact jB.congr3 iS.2.1.2.2 eM1 (fun t i k h => ir t i k (by omega) (by omega))
  · exact jX.congr (fun t i k h => ir t i k (by omega) (by omega))
  · exact jL.congr3 eM1 (fun b k _ _ _ => ir 6 b k (by omega) (by omega)) (fun t i k h => ir t i k (by omega) (by omega))
  · exact kO.congr iB iS.2.2.2.1.2.2 (fun t i k h => ir t i k (by omega) (by omega)) (fun b _ _ => ir 6 b 8 (by omega) (by omega))
  · exact kC.congr (fun t i k h => ir t i k (by omega) (by omega)) ⟨rfl, rfl⟩
  · exact kD.congr (fun i k h => i9 i k (by omega) (by omega))
  · exact kP.congr3 eM1 (fun i k h => i9 i k (by have := hS i h; omega) (by have := hS i h; omega)) ⟨ir 10 0 31 (by omega) (by omega), ir 0 7 19 (by omega) (by omega), ir 0 7 2 (by omega) (by omega), ir 0 7 4 (by omega) (by omega), fun t => ir 0 30 t (by omega) (by omega)⟩ rfl
  · exact kX.congr (fun t i k h => ir t i k (by omega) (by omega))

set_option maxRecDepth 100000 in
theorem s_Mv_goalOf {d b : Nat} {M : Mem} {F f : Nat → Nat → Int32} {g : Nat → Nat → Int64} {ad : Nat → Nat → Nat} {R : Option Value → Mem → Prop} {gs : List Nat} {nc nb : Nat} {fr : Nat → Bool} {acc : Nat → Int32} {rb : Nat × Int32 × (Nat → Int32)} (hG : MG M ad F gs nc nb) (hf : MC ad F f gs nc 0 fr acc (some rb)) (hbn : b < nb) (hno : b ∉ gs → rb.2.2 b = -1) (hR : R (some (.int (rb.2.2 b))) (mm M f g)) : Call d 43 [.ref (ad 0 6), .ref (ad 2 b)] (mm M f g) R := by
  obtain ⟨⟨hi, hF, hC, hB⟩, ⟨g2, g4, gnc, gl7, gnd, gnb⟩, gh, gg⟩ := hG
  have key : ∀ i, i ≤ gs.length → (∀ j, j < i → ¬ gs.getD j 0 = b) → Go d 43 0 0 2 [.ref (ad 0 6), .ref (ad 2 b), .int (nI i)] [] (mm M f g) R := by
    refine up_ind (P := fun i => (∀ j, j < i → ¬ gs.getD j 0 = b) → Go d 43 0 0 2 [.ref (ad 0 6), .ref (ad 2 b), .int (nI i)] [] (mm M f g) R) gs.length (fun h => ?_) (fun i hlt ih h => ?_)
    ·
      show Go d 43 0 0 2 [.ref (ad 0 6), .ref (ad 2 b), .int (nI gs.length)] [] (mm M f g) R
      refine go_blk 3 [some (.int (nI gs.length))] (pc' := 7) (vs' := [.ref (ad 0 6), .ref (ad 2 b), .int (nI gs.length)]) (st' := [.int (nI gs.length), .int (nI gs.length)]) (M' := mm M f g) (ps := [ob (mm M f g) (ad 0 6) 5, (Value.int (f (ad 0 6) 4)) = .int (nI gs.length)]) rfl ⟨(hF.o 6), congrArg Value.int ((hf.1 _ _ (fun z => absurd z.2 (by decide)) (fun z => absurd (hi _ _ _ _ z).2 (by decide)) (fun z => absurd (hi _ _ _ _ z).2 (by decide)) (fun z => absurd (hi _ _ _ _ z).2 (by decide))).trans g4), trivial⟩ ?_
      refine go_icmp rfl (fun _ => ?_) (fun (z : ¬ (nI gs.length ≤ (nI gs.length))) => absurd (show nI gs.length ≤ (nI gs.length) from Int32.le_refl _) z)
      refine go_blk 1 [] (pc' := 34) (vs' := [.ref (ad 0 6), .ref (ad 2 b), .int (nI gs.length)]) (st' := [.int (-1)]) (M' := mm M f g) (ps := []) rfl trivial ?_
      refine go_iret rfl rfl ?_
      rw [hno (fun z => by obtain ⟨k, z1, z2⟩ := mem_gtD z; exact h k z1 z2)] at hR
      exact hR
    · by_cases hq : gs.getD i 0 = b
      ·
        show Go d 43 0 0 2 [.ref (ad 0 6), .ref (ad 2 b), .int (nI i)] [] (mm M f g) R
        refine go_blk 3 [some (.int (nI gs.length))] (pc' := 7) (vs' := [.ref (ad 0 6), .ref (ad 2 b), .int (nI i)]) (st' := [.int (nI gs.length), .int (nI i)]) (M' := mm M f g) (ps := [ob (mm M f g) (ad 0 6) 5, (Value.int (f (ad 0 6) 4)) = .int (nI gs.length)]) rfl ⟨(hF.o 6), congrArg Value.int ((hf.1 _ _ (fun z => absurd z.2 (by decide)) (fun z => absurd (hi _ _ _ _ z).2 (by decide)) (fun z => absurd (hi _ _ _ _ z).2 (by decide)) (fun z => absurd (hi _ _ _ _ z).2 (by decide))).trans g4), trivial⟩ ?_
        refine go_icmp rfl (fun (z : nI gs.length ≤ (nI i)) => absurd z (show ¬ (nI gs.length ≤ (nI i)) from (Int32.not_le.mpr ((nI_lts (a := i) (b := gs.length) (by omega) (by omega)).mpr hlt)))) (fun _ => ?_)
        refine go_blk 5 [some (.ref (ad 0 13)), some (.ref (ad 2 (gs.getD i 0)))] (pc' := 17) (vs' := [.ref (ad 0 6), .ref (ad 2 b), .int (nI i)]) (st' := [.ref (ad 2 b), .ref (ad 2 (gs.getD i 0))]) (M' := mm M f g) (ps := [ob (mm M f g) (ad 0 6) 5, mR (mm M f g) (ad 0 6) 3 = some (ad 0 13), va_rf (some (ad 0 13)) = .ref (ad 0 13), ob (mm M f g) (ad 0 13) 17, 17 ≤ 17 ∧ 17 < 22, vp_in (nI i) (mN (mm M f g) (ad 0 13)), mR (mm M f g) (ad 0 13) ((nI i).toNatClampNeg) = some (ad 2 (gs.getD i 0)), va_rf (some (ad 2 (gs.getD i 0))) = .ref (ad 2 (gs.getD i 0))]) rfl ⟨(hF.o 6), (hF.r 6 3 13), rfl, (hF.o 13), (by decide), (vpi (hF.n 13) (show i < 7 by omega)), (cl_rf rfl (by omega) (gg i hlt)), rfl, trivial⟩ ?_
        refine go_acmp (rx := some (ad 2 (gs.getD i 0))) (ry := some (ad 2 b)) rfl (fun z => absurd (by rw [hq]) z) (fun _ => ?_)
        show Go d 43 0 0 20 [.ref (ad 0 6), .ref (ad 2 b), .int (nI i)] [] (mm M f g) R
        refine go_blk 4 [some (.ref (ad 0 15)), some (.int (f (ad 0 15) i))] (pc' := 26) (vs' := [.ref (ad 0 6), .ref (ad 2 b), .int (nI i)]) (st' := [.int (f (ad 0 15) i)]) (M' := mm M f g) (ps := [ob (mm M f g) (ad 0 6) 5, mR (mm M f g) (ad 0 6) 6 = some (ad 0 15), va_rf (some (ad 0 15)) = .ref (ad 0 15), ob (mm M f g) (ad 0 15) 15, vp_in (nI i) (mN (mm M f g) (ad 0 15)), (Value.int (f (ad 0 15) ((nI i).toNatClampNeg))) = .int (f (ad 0 15) i)]) rfl ⟨(hF.o 6), (hF.r 6 6 15), rfl, (hF.o 15), (vpi (hF.n 15) (show i < 7 by omega)), congrArg (fun z => Value.int (f (ad 0 15) z)) (nI_clamp (by omega)), trivial⟩ ?_
        refine go_iret rfl rfl ?_
        rw [hf.2.2.2.2.2 rb rfl i hlt, hq]
        exact hR
      ·
        show Go d 43 0 0 2 [.ref (ad 0 6), .ref (ad 2 b), .int (nI i)] [] (mm M f g) R
        refine go_blk 3 [some (.int (nI gs.length))] (pc' := 7) (vs' := [.ref (ad 0 6), .ref (ad 2 b), .int (nI i)]) (st' := [.int (nI gs.length), .int (nI i)]) (M' := mm M f g) (ps := [ob (mm M f g) (ad 0 6) 5, (Value.int (f (ad 0 6) 4)) = .int (nI gs.length)]) rfl ⟨(hF.o 6), congrArg Value.int ((hf.1 _ _ (fun z => absurd z.2 (by decide)) (fun z => absurd (hi _ _ _ _ z).2 (by decide)) (fun z => absurd (hi _ _ _ _ z).2 (by decide)) (fun z => absurd (hi _ _ _ _ z).2 (by decide))).trans g4), trivial⟩ ?_
        refine go_icmp rfl (fun (z : nI gs.length ≤ (nI i)) => absurd z (show ¬ (nI gs.length ≤ (nI i)) from (Int32.not_le.mpr ((nI_lts (a := i) (b := gs.length) (by omega) (by omega)).mpr hlt)))) (fun _ => ?_)
        refine go_blk 5 [some (.ref (ad 0 13)), some (.ref (ad 2 (gs.getD i 0)))] (pc' := 17) (vs' := [.ref (ad 0 6), .ref (ad 2 b), .int (nI i)]) (st' := [.ref (ad 2 b), .ref (ad 2 (gs.getD i 0))]) (M' := mm M f g) (ps := [ob (mm M f g) (ad 0 6) 5, mR (mm M f g) (ad 0 6) 3 = some (ad 0 13), va_rf (some (ad 0 13)) = .ref (ad 0 13), ob (mm M f g) (ad 0 13) 17, 17 ≤ 17 ∧ 17 < 22, vp_in (nI i) (mN (mm M f g) (ad 0 13)), mR (mm M f g) (ad 0 13) ((nI i).toNatClampNeg) = some (ad 2 (gs.getD i 0)), va_rf (some (ad 2 (gs.getD i 0))) = .ref (ad 2 (gs.getD i 0))]) rfl ⟨(hF.o 6), (hF.r 6 3 13), rfl, (hF.o 13), (by decide), (vpi (hF.n 13) (show i < 7 by omega)), (cl_rf rfl (by omega) (gg i hlt)), rfl, trivial⟩ ?_
        refine go_acmp (rx := some (ad 2 (gs.getD i 0))) (ry := some (ad 2 b)) rfl (fun _ => ?_) (fun z => absurd (hi _ _ _ _ (Option.some.inj z)).2 hq)
        show Go d 43 0 0 27 [.ref (ad 0 6), .ref (ad 2 b), .int (nI i)] [] (mm M f g) R
        refine go_blk 2 [] (pc' := 2) (vs' := [.ref (ad 0 6), .ref (ad 2 b), .int ((nI i) + 1)]) (st' := []) (M' := mm M f g) (ps := []) rfl trivial ?_
        rw [show nI i + 1 = nI (i + 1) from nI_add i 1]
        exact ih (fun j hj => by by_cases z : j = i; (rw [z]; exact hq); exact h j (by omega))
  show Go d 43 0 0 0 [.ref (ad 0 6), .ref (ad 2 b), .retAddr 0] [] (mm M f g) R
  refine go_blk 2 [] (pc' := 2) (vs' := [.ref (ad 0 6), .ref (ad 2 b), .int 0]) (st' := []) (M' := mm M f g) (ps := []) rfl trivial ?_
  exact key 0 (Nat.zero_le _) (fun j hj => absurd hj (by omega))

set_option maxRecDepth 100000 in
theorem s_Mv_carryOut {d : Nat} {M : Mem} {F f : Nat → Nat → Int32} {g : Nat → Nat → Int64} {ad : Nat → Nat → Nat} {R : Option Value → Mem → Prop} {gs : List Nat} {nc nb : Nat} {fr : Nat → Bool} {acc : Nat → Int32} {rb : Nat × Int32 × (Nat → Int32)} (hG : MG M ad F gs nc nb) (hf : MC ad F f gs nc 0 fr acc (some rb)) (hR : ∀ f', (∀ x k, (∀ b, b ∈ gs → ¬ (x = ad 2 b ∧ (k = 0 ∨ k = 9))) → f' x k = f x k) → (∀ b, b ∈ gs → f' (ad 2 b) 0 = (if rb.2.2 b = -1 then f (ad 2 b) 0 else rb.2.2 b) ∧ f' (ad 2 b) 9 = (if rb.2.2 b = -1 then f (ad 2 b) 9 else f (ad 2 b) 9 + 1)) → R none (mm M f' g)) : Call d 44 [.ref (ad 0 6)] (mm M f g) R := by
  obtain ⟨⟨hi, hF, hC, hB⟩, ⟨g2, g4, gnc, gl7, gnd, gnb⟩, gh, gg⟩ := hG
  have key : ∀ i, i ≤ gs.length → ∀ f', (∀ x k, (∀ b, b ∈ gs → ¬ (x = ad 2 b ∧ (k = 0 ∨ k = 9))) → f' x k = f x k) → (∀ j, j < gs.length → f' (ad 2 (gs.getD j 0)) 0 = (if rb.2.2 (gs.getD j 0) = -1 ∨ i ≤ j then f (ad 2 (gs.getD j 0)) 0 else rb.2.2 (gs.getD j 0)) ∧ f' (ad 2 (gs.getD j 0)) 9 = (if rb.2.2 (gs.getD j 0) = -1 ∨ i ≤ j then f (ad 2 (gs.getD j 0)) 9 else f (ad 2 (gs.getD j 0)) 9 + 1)) → Go d 44 0 0 2 [.ref (ad 0 6), .int (nI i)] [] (mm M f' g) R := by
    refine up_ind (P := fun i => ∀ f', (∀ x k, (∀ b, b ∈ gs → ¬ (x = ad 2 b ∧ (k = 0 ∨ k = 9))) → f' x k = f x k) → (∀ j, j < gs.length → f' (ad 2 (gs.getD j 0)) 0 = (if rb.2.2 (gs.getD j 0) = -1 ∨ i ≤ j then f (ad 2 (gs.getD j 0)) 0 else rb.2.2 (gs.getD j 0)) ∧ f' (ad 2 (gs.getD j 0)) 9 = (if rb.2.2 (gs.getD j 0) = -1 ∨ i ≤ j then f (ad 2 (gs.getD j 0)) 9 else f (ad 2 (gs.getD j 0)) 9 + 1)) → Go d 44 0 0 2 [.ref (ad 0 6), .int (nI i)] [] (mm M f' g) R) gs.length (fun f' h1 h2 => ?_) (fun i hlt ih f' h1 h2 => ?_)
    ·
      show Go d 44 0 0 2 [.ref (ad 0 6), .int (nI gs.length)] [] (mm M f' g) R
      refine go_blk 3 [some (.int (nI gs.length))] (pc' := 7) (vs' := [.ref (ad 0 6), .int (nI gs.length)]) (st' := [.int (nI gs.length), .int (nI gs.length)]) (M' := mm M f' g) (ps := [ob (mm M f' g) (ad 0 6) 5, (Value.int (f' (ad 0 6) 4)) = .int (nI gs.length)]) rfl ⟨(hF.o 6), congrArg Value.int ((h1 _ _ (fun b hb z => absurd (hi _ _ _ _ z.1).1 (by decide))).trans ((hf.1 _ _ (fun z => absurd z.2 (by decide)) (fun z => absurd (hi _ _ _ _ z).2 (by decide)) (fun z => absurd (hi _ _ _ _ z).2 (by decide)) (fun z => absurd (hi _ _ _ _ z).2 (by decide))).trans g4)), trivial⟩ ?_
      refine go_icmp rfl (fun _ => ?_) (fun (z : ¬ (nI gs.length ≤ (nI gs.length))) => absurd (show nI gs.length ≤ (nI gs.length) from Int32.le_refl _) z)
      refine go_vret rfl rfl ?_
      refine hR f' h1 (fun b hb => ?_)
      obtain ⟨j, hj, rfl⟩ := mem_gtD hb
      obtain ⟨z1, z2⟩ := h2 j hj
      rw [z1, z2]
      by_cases c : rb.2.2 (gs.getD j 0) = -1
      · rw [if_pos (Or.inl c), if_pos (Or.inl c), if_pos c, if_pos c]; exact ⟨rfl, rfl⟩
      · rw [if_neg (not_or.mpr ⟨c, by omega⟩), if_neg (not_or.mpr ⟨c, by omega⟩), if_neg c, if_neg c]; exact ⟨rfl, rfl⟩
    · have hg15 : f' (ad 0 15) i = rb.2.2 (gs.getD i 0) := (h1 _ _ (fun b hb z => absurd (hi _ _ _ _ z.1).1 (by decide))).trans (hf.2.2.2.2.2 rb rfl i hlt)
      obtain ⟨b, hb⟩ : ∃ b, gs.getD i 0 = b := ⟨_, rfl⟩
      have hbm : b ∈ gs := hb ▸ gtD_mem hlt
      have hbn := gnb b hbm
      have hgi := gg i hlt
      rw [hb] at hg15 hgi
      have hh := h2 i hlt
      rw [hb, if_pos (Or.inr (Nat.le_refl _)), if_pos (Or.inr (Nat.le_refl _))] at hh
      by_cases hq : rb.2.2 b = -1
      ·
        show Go d 44 0 0 2 [.ref (ad 0 6), .int (nI i)] [] (mm M f' g) R
        refine go_blk 3 [some (.int (nI gs.length))] (pc' := 7) (vs' := [.ref (ad 0 6), .int (nI i)]) (st' := [.int (nI gs.length), .int (nI i)]) (M' := mm M f' g) (ps := [ob (mm M f' g) (ad 0 6) 5, (Value.int (f' (ad 0 6) 4)) = .int (nI gs.length)]) rfl ⟨(hF.o 6), congrArg Value.int ((h1 _ _ (fun b hb z => absurd (hi _ _ _ _ z.1).1 (by decide))).trans ((hf.1 _ _ (fun z => absurd z.2 (by decide)) (fun z => absurd (hi _ _ _ _ z).2 (by decide)) (fun z => absurd (hi _ _ _ _ z).2 (by decide)) (fun z => absurd (hi _ _ _ _ z).2 (by decide))).trans g4)), trivial⟩ ?_
        refine go_icmp rfl (fun (z : nI gs.length ≤ (nI i)) => absurd z (show ¬ (nI gs.length ≤ (nI i)) from (Int32.not_le.mpr ((nI_lts (a := i) (b := gs.length) (by omega) (by omega)).mpr hlt)))) (fun _ => ?_)
        refine go_blk 5 [some (.ref (ad 0 15)), some (.int (rb.2.2 b))] (pc' := 17) (vs' := [.ref (ad 0 6), .int (nI i)]) (st' := [.int (-1), .int (rb.2.2 b)]) (M' := mm M f' g) (ps := [ob (mm M f' g) (ad 0 6) 5, mR (mm M f' g) (ad 0 6) 6 = some (ad 0 15), va_rf (some (ad 0 15)) = .ref (ad 0 15), ob (mm M f' g) (ad 0 15) 15, vp_in (nI i) (mN (mm M f' g) (ad 0 15)), (Value.int (f' (ad 0 15) ((nI i).toNatClampNeg))) = .int (rb.2.2 b)]) rfl ⟨(hF.o 6), (hF.r 6 6 15), rfl, (hF.o 15), (vpi (hF.n 15) (show i < 7 by omega)), congrArg Value.int ((congrArg (fun z => f' (ad 0 15) z) (nI_clamp (by omega))).trans hg15), trivial⟩ ?_
        refine go_icmp rfl (fun _ => ?_) (fun (z : ¬ ((rb.2.2 b) = (-1))) => absurd (show (rb.2.2 b) = (-1) from hq) z)
        refine go_blk 2 [] (pc' := 2) (vs' := [.ref (ad 0 6), .int ((nI i) + 1)]) (st' := []) (M' := mm M f' g) (ps := []) rfl trivial ?_
        rw [show nI i + 1 = nI (i + 1) from nI_add i 1]
        refine ih f' h1 (fun j hj => ?_)
        have z := h2 j hj
        by_cases c : j = i
        · rw [c, hb] at z ⊢
          rw [if_pos (Or.inl hq), if_pos (Or.inl hq)] at z ⊢
          exact z
        · have ei : (i + 1 ≤ j) = (i ≤ j) := propext (by omega)
          simp only [ei]; exact z
      ·
        show Go d 44 0 0 2 [.ref (ad 0 6), .int (nI i)] [] (mm M f' g) R
        refine go_blk 3 [some (.int (nI gs.length))] (pc' := 7) (vs' := [.ref (ad 0 6), .int (nI i)]) (st' := [.int (nI gs.length), .int (nI i)]) (M' := mm M f' g) (ps := [ob (mm M f' g) (ad 0 6) 5, (Value.int (f' (ad 0 6) 4)) = .int (nI gs.length)]) rfl ⟨(hF.o 6), congrArg Value.int ((h1 _ _ (fun b hb z => absurd (hi _ _ _ _ z.1).1 (by decide))).trans ((hf.1 _ _ (fun z => absurd z.2 (by decide)) (fun z => absurd (hi _ _ _ _ z).2 (by decide)) (fun z => absurd (hi _ _ _ _ z).2 (by decide)) (fun z => absurd (hi _ _ _ _ z).2 (by decide))).trans g4)), trivial⟩ ?_
        refine go_icmp rfl (fun (z : nI gs.length ≤ (nI i)) => absurd z (show ¬ (nI gs.length ≤ (nI i)) from (Int32.not_le.mpr ((nI_lts (a := i) (b := gs.length) (by omega) (by omega)).mpr hlt)))) (fun _ => ?_)
        refine go_blk 5 [some (.ref (ad 0 15)), some (.int (rb.2.2 b))] (pc' := 17) (vs' := [.ref (ad 0 6), .int (nI i)]) (st' := [.int (-1), .int (rb.2.2 b)]) (M' := mm M f' g) (ps := [ob (mm M f' g) (ad 0 6) 5, mR (mm M f' g) (ad 0 6) 6 = some (ad 0 15), va_rf (some (ad 0 15)) = .ref (ad 0 15), ob (mm M f' g) (ad 0 15) 15, vp_in (nI i) (mN (mm M f' g) (ad 0 15)), (Value.int (f' (ad 0 15) ((nI i).toNatClampNeg))) = .int (rb.2.2 b)]) rfl ⟨(hF.o 6), (hF.r 6 6 15), rfl, (hF.o 15), (vpi (hF.n 15) (show i < 7 by omega)), congrArg Value.int ((congrArg (fun z => f' (ad 0 15) z) (nI_clamp (by omega))).trans hg15), trivial⟩ ?_
        refine go_icmp rfl (fun (z : (rb.2.2 b) = (-1)) => absurd z (show ¬ ((rb.2.2 b) = (-1)) from hq)) (fun _ => ?_)
        refine go_blk 20 [some (.ref (ad 0 13)), some (.ref (ad 2 b)), some (.ref (ad 0 15)), some (.int (rb.2.2 b)), some (.ref (ad 0 13)), some (.ref (ad 2 b)), some (.int (f' (ad 2 b) 9))] (pc' := 2) (vs' := [.ref (ad 0 6), .int ((nI i) + 1)]) (st' := []) (M' := mm M (up2 (up2 f' (ad 2 b) 0 (rb.2.2 b)) (ad 2 b) 9 ((f' (ad 2 b) 9) + 1)) g) (ps := [ob (mm M f' g) (ad 0 6) 5, mR (mm M f' g) (ad 0 6) 3 = some (ad 0 13), va_rf (some (ad 0 13)) = .ref (ad 0 13), ob (mm M f' g) (ad 0 13) 17, 17 ≤ 17 ∧ 17 < 22, vp_in (nI i) (mN (mm M f' g) (ad 0 13)), mR (mm M f' g) (ad 0 13) ((nI i).toNatClampNeg) = some (ad 2 b), va_rf (some (ad 2 b)) = .ref (ad 2 b), ob (mm M f' g) (ad 0 6) 5, mR (mm M f' g) (ad 0 6) 6 = some (ad 0 15), va_rf (some (ad 0 15)) = .ref (ad 0 15), ob (mm M f' g) (ad 0 15) 15, vp_in (nI i) (mN (mm M f' g) (ad 0 15)), (Value.int (f' (ad 0 15) ((nI i).toNatClampNeg))) = .int (rb.2.2 b), ob (mm M f' g) (ad 2 b) 0, ob (mm M (up2 f' (ad 2 b) 0 (rb.2.2 b)) g) (ad 0 6) 5, mR (mm M (up2 f' (ad 2 b) 0 (rb.2.2 b)) g) (ad 0 6) 3 = some (ad 0 13), va_rf (some (ad 0 13)) = .ref (ad 0 13), ob (mm M (up2 f' (ad 2 b) 0 (rb.2.2 b)) g) (ad 0 13) 17, 17 ≤ 17 ∧ 17 < 22, vp_in (nI i) (mN (mm M (up2 f' (ad 2 b) 0 (rb.2.2 b)) g) (ad 0 13)), mR (mm M (up2 f' (ad 2 b) 0 (rb.2.2 b)) g) (ad 0 13) ((nI i).toNatClampNeg) = some (ad 2 b), va_rf (some (ad 2 b)) = .ref (ad 2 b), (.ref (ad 2 b) : Value).category = 1, ob (mm M (up2 f' (ad 2 b) 0 (rb.2.2 b)) g) (ad 2 b) 0, (Value.int ((up2 f' (ad 2 b) 0 (rb.2.2 b)) (ad 2 b) 9)) = .int (f' (ad 2 b) 9), ob (mm M (up2 f' (ad 2 b) 0 (rb.2.2 b)) g) (ad 2 b) 0]) rfl ⟨(hF.o 6), (hF.r 6 3 13), rfl, (hF.o 13), (by decide), (vpi (hF.n 13) (show i < 7 by omega)), (cl_rf rfl (by omega) hgi), rfl, (hF.o 6), (hF.r 6 6 15), rfl, (hF.o 15), (vpi (hF.n 15) (show i < 7 by omega)), congrArg Value.int ((congrArg (fun z => f' (ad 0 15) z) (nI_clamp (by omega))).trans hg15), (hB b hbn).2, (hF.o 6), (hF.r 6 3 13), rfl, (hF.o 13), (by decide), (vpi (hF.n 13) (show i < 7 by omega)), (cl_rf rfl (by omega) hgi), rfl, rfl, (hB b hbn).2, congrArg Value.int ((up2_n _ _ (fun z => absurd z.2 (by decide))).trans (rfl)), (hB b hbn).2, trivial⟩ ?_
        rw [show nI i + 1 = nI (i + 1) from nI_add i 1]
        refine ih _ (fun x k z => ?_) (fun j hj => ?_)
        · rw [up2_n _ _ (fun y => z b hbm ⟨y.1, Or.inr y.2⟩), up2_n _ _ (fun y => z b hbm ⟨y.1, Or.inl y.2⟩)]; exact h1 x k z
        · have z := h2 j hj
          by_cases c : j = i
          · rw [c, hb]
            rw [if_neg (not_or.mpr ⟨hq, by omega⟩), if_neg (not_or.mpr ⟨hq, by omega⟩), up2_s, up2_n _ _ (fun y => absurd y.2 (by decide)), up2_s]
            exact ⟨rfl, by rw [hh.2]⟩
          · have nb2 : ¬ ad 2 (gs.getD j 0) = ad 2 b := fun y => c (gtD_inj gnd hj hlt ((hi _ _ _ _ y).2.trans hb.symm))
            have ei : (i + 1 ≤ j) = (i ≤ j) := propext (by omega)
            simp only [ei]
            rw [up2_n _ _ (fun y => nb2 y.1), up2_n _ _ (fun y => nb2 y.1), up2_n _ _ (fun y => nb2 y.1), up2_n _ _ (fun y => nb2 y.1)]; exact z
  show Go d 44 0 0 0 [.ref (ad 0 6), .retAddr 0] [] (mm M f g) R
  refine go_blk 2 [] (pc' := 2) (vs' := [.ref (ad 0 6), .int 0]) (st' := []) (M' := mm M f g) (ps := []) rfl trivial ?_
  refine key 0 (Nat.zero_le _) f (fun _ _ _ => rfl) (fun j hj => ?_)
  rw [if_pos (Or.inr (Nat.zero_le _)), if_pos (Or.inr (Nat.zero_le _))]
  exact ⟨rfl, rfl⟩

set_option maxRecDepth 100000 in
theorem lp_Mo_move {d : Nat} {M : Mem} {f : Nat → Nat → Int32} {g : Nat → Nat → Int64} {ad : Nat → Nat → Nat} {R : Option Value → Mem → Prop} {nb : Nat} {G : Nat → Int32} {x1 : Value} (hM : Mx M ad) (hi : Inj ad) (hnb : nb ≤ 60) (hn : f (ad 10 0) 18 = nI nb) (hg : ∀ b, b < nb → f (ad 9 23) b = G b) (hR : ∀ f', (∀ x k, ¬ ((x = ad 9 6 ∨ x = ad 9 11) ∧ k < nb) → f' x k = f x k) → (∀ b, b < nb → f' (ad 9 6) b = (if G b = -1 then f (ad 9 6) b else G b) ∧ f' (ad 9 11) b = (if G b = -1 then f (ad 9 11) b else f (ad 9 11) b + 1)) → Go d 201 0 0 61 [.ref (ad 10 0), x1, .int (nI nb)] [] (mm M f' g) R) : ∀ i, i ≤ nb → ∀ f', (∀ x k, ¬ ((x = ad 9 6 ∨ x = ad 9 11) ∧ k < nb) → f' x k = f x k) → (∀ b, b < nb → f' (ad 9 6) b = (if G b = -1 ∨ i ≤ b then f (ad 9 6) b else G b) ∧ f' (ad 9 11) b = (if G b = -1 ∨ i ≤ b then f (ad 9 11) b else f (ad 9 11) b + 1)) → Go d 201 0 0 12 [.ref (ad 10 0), x1, .int (nI i)] [] (mm M f' g) R := by
  have n9 : ∀ i j, ¬ i = j → ¬ ad 9 i = ad 9 j := fun i j z y => z (hi _ _ _ _ y).2
  have n10 : ∀ j, ¬ ad 10 0 = ad 9 j := fun j y => absurd (hi _ _ _ _ y).1 (by decide)
  refine up_ind (P := fun i => ∀ f', (∀ x k, ¬ ((x = ad 9 6 ∨ x = ad 9 11) ∧ k < nb) → f' x k = f x k) → (∀ b, b < nb → f' (ad 9 6) b = (if G b = -1 ∨ i ≤ b then f (ad 9 6) b else G b) ∧ f' (ad 9 11) b = (if G b = -1 ∨ i ≤ b then f (ad 9 11) b else f (ad 9 11) b + 1)) → Go d 201 0 0 12 [.ref (ad 10 0), x1, .int (nI i)] [] (mm M f' g) R) nb (fun f' h1 h2 => ?_) (fun i hlt ih f' h1 h2 => ?_)
  ·
    show Go d 201 0 0 12 [.ref (ad 10 0), x1, .int (nI nb)] [] (mm M f' g) R
    refine go_blk 3 [some (.int (nI nb))] (pc' := 17) (vs' := [.ref (ad 10 0), x1, .int (nI nb)]) (st' := [.int (nI nb), .int (nI nb)]) (M' := mm M f' g) (ps := [ob (mm M f' g) (ad 10 0) 12, (Value.int (f' (ad 10 0) 18)) = .int (nI nb)]) rfl ⟨hM.1, congrArg Value.int ((h1 _ _ (fun z => by rcases z.1 with y | y; exact n10 6 y; exact n10 11 y)).trans hn), trivial⟩ ?_
    refine go_icmp rfl (fun _ => ?_) (fun (z : ¬ (nI nb ≤ (nI nb))) => absurd (show nI nb ≤ (nI nb) from Int32.le_refl _) z)
    refine hR f' h1 (fun b hb => ?_)
    obtain ⟨z1, z2⟩ := h2 b hb
    rw [z1, z2]
    by_cases c : G b = -1
    · rw [if_pos (Or.inl c), if_pos (Or.inl c), if_pos c, if_pos c]; exact ⟨rfl, rfl⟩
    · rw [if_neg (not_or.mpr ⟨c, by omega⟩), if_neg (not_or.mpr ⟨c, by omega⟩), if_neg c, if_neg c]; exact ⟨rfl, rfl⟩
  · have hg23 : f' (ad 9 23) i = G i := (h1 _ _ (fun z => by rcases z.1 with y | y; exact n9 23 6 (by decide) y; exact n9 23 11 (by decide) y)).trans (hg i hlt)
    have hh := h2 i hlt
    rw [if_pos (Or.inr (Nat.le_refl _)), if_pos (Or.inr (Nat.le_refl _))] at hh
    by_cases hq : G i = -1
    ·
      show Go d 201 0 0 12 [.ref (ad 10 0), x1, .int (nI i)] [] (mm M f' g) R
      refine go_blk 3 [some (.int (nI nb))] (pc' := 17) (vs' := [.ref (ad 10 0), x1, .int (nI i)]) (st' := [.int (nI nb), .int (nI i)]) (M' := mm M f' g) (ps := [ob (mm M f' g) (ad 10 0) 12, (Value.int (f' (ad 10 0) 18)) = .int (nI nb)]) rfl ⟨hM.1, congrArg Value.int ((h1 _ _ (fun z => by rcases z.1 with y | y; exact n10 6 y; exact n10 11 y)).trans hn), trivial⟩ ?_
      refine go_icmp rfl (fun (z : nI nb ≤ (nI i)) => absurd z (show ¬ (nI nb ≤ (nI i)) from (Int32.not_le.mpr ((nI_lts (a := i) (b := nb) (by omega) (by omega)).mpr hlt)))) (fun _ => ?_)
      refine go_blk 5 [some (.ref (ad 9 23)), some (.int (G i))] (pc' := 27) (vs' := [.ref (ad 10 0), x1, .int (nI i)]) (st' := [.int (-1), .int (G i)]) (M' := mm M f' g) (ps := [ob (mm M f' g) (ad 10 0) 12, mR (mm M f' g) (ad 10 0) 23 = some (ad 9 23), va_rf (some (ad 9 23)) = .ref (ad 9 23), ob (mm M f' g) (ad 9 23) 15, vp_in (nI i) (mN (mm M f' g) (ad 9 23)), (Value.int (f' (ad 9 23) ((nI i).toNatClampNeg))) = .int (G i)]) rfl ⟨hM.1, (hM.r 23 15 60), rfl, (hM.o 23 15 60), (vpi (hM.n 23 15 60) (by omega)), congrArg Value.int ((congrArg (fun z => f' (ad 9 23) z) (nI_clamp (by omega))).trans hg23), trivial⟩ ?_
      refine go_icmp rfl (fun (z : ¬ (G i) = (-1)) => absurd z (show ¬ (¬ (G i) = (-1)) from (not_not_intro hq))) (fun _ => ?_)
      refine go_blk 3 [] (pc' := 12) (vs' := [.ref (ad 10 0), x1, .int ((nI i) + 1)]) (st' := []) (M' := mm M f' g) (ps := []) rfl trivial ?_
      rw [show nI i + 1 = nI (i + 1) from nI_add i 1]
      refine ih f' h1 (fun j hj => ?_)
      have z := h2 j hj
      by_cases c : j = i
      · rw [c] at z ⊢
        rw [if_pos (Or.inl hq), if_pos (Or.inl hq)] at z ⊢
        exact z
      · have ei : (i + 1 ≤ j) = (i ≤ j) := propext (by omega)
        simp only [ei]; exact z
    ·
      show Go d 201 0 0 12 [.ref (ad 10 0), x1, .int (nI i)] [] (mm M f' g) R
      refine go_blk 3 [some (.int (nI nb))] (pc' := 17) (vs' := [.ref (ad 10 0), x1, .int (nI i)]) (st' := [.int (nI nb), .int (nI i)]) (M' := mm M f' g) (ps := [ob (mm M f' g) (ad 10 0) 12, (Value.int (f' (ad 10 0) 18)) = .int (nI nb)]) rfl ⟨hM.1, congrArg Value.int ((h1 _ _ (fun z => by rcases z.1 with y | y; exact n10 6 y; exact n10 11 y)).trans hn), trivial⟩ ?_
      refine go_icmp rfl (fun (z : nI nb ≤ (nI i)) => absurd z (show ¬ (nI nb ≤ (nI i)) from (Int32.not_le.mpr ((nI_lts (a := i) (b := nb) (by omega) (by omega)).mpr hlt)))) (fun _ => ?_)
      refine go_blk 5 [some (.ref (ad 9 23)), some (.int (G i))] (pc' := 27) (vs' := [.ref (ad 10 0), x1, .int (nI i)]) (st' := [.int (-1), .int (G i)]) (M' := mm M f' g) (ps := [ob (mm M f' g) (ad 10 0) 12, mR (mm M f' g) (ad 10 0) 23 = some (ad 9 23), va_rf (some (ad 9 23)) = .ref (ad 9 23), ob (mm M f' g) (ad 9 23) 15, vp_in (nI i) (mN (mm M f' g) (ad 9 23)), (Value.int (f' (ad 9 23) ((nI i).toNatClampNeg))) = .int (G i)]) rfl ⟨hM.1, (hM.r 23 15 60), rfl, (hM.o 23 15 60), (vpi (hM.n 23 15 60) (by omega)), congrArg Value.int ((congrArg (fun z => f' (ad 9 23) z) (nI_clamp (by omega))).trans hg23), trivial⟩ ?_
      refine go_icmp rfl (fun _ => ?_) (fun (z : ¬ (¬ (G i) = (-1))) => absurd (show ¬ (G i) = (-1) from hq) z)
      refine go_blk 18 [some (.ref (ad 9 6)), some (.ref (ad 9 23)), some (.int (G i)), some (.ref (ad 9 11)), some (.int (f' (ad 9 11) i))] (pc' := 12) (vs' := [.ref (ad 10 0), x1, .int ((nI i) + 1)]) (st' := []) (M' := mm M (up2 (up2 f' (ad 9 6) ((nI i).toNatClampNeg) (G i)) (ad 9 11) ((nI i).toNatClampNeg) ((f' (ad 9 11) i) + 1)) g) (ps := [ob (mm M f' g) (ad 10 0) 12, mR (mm M f' g) (ad 10 0) 6 = some (ad 9 6), va_rf (some (ad 9 6)) = .ref (ad 9 6), ob (mm M f' g) (ad 10 0) 12, mR (mm M f' g) (ad 10 0) 23 = some (ad 9 23), va_rf (some (ad 9 23)) = .ref (ad 9 23), ob (mm M f' g) (ad 9 23) 15, vp_in (nI i) (mN (mm M f' g) (ad 9 23)), (Value.int (f' (ad 9 23) ((nI i).toNatClampNeg))) = .int (G i), ob (mm M f' g) (ad 9 6) 15, vp_in (nI i) (mN (mm M f' g) (ad 9 6)), ob (mm M (up2 f' (ad 9 6) ((nI i).toNatClampNeg) (G i)) g) (ad 10 0) 12, mR (mm M (up2 f' (ad 9 6) ((nI i).toNatClampNeg) (G i)) g) (ad 10 0) 11 = some (ad 9 11), va_rf (some (ad 9 11)) = .ref (ad 9 11), (.int (nI i) : Value).category = 1, (.ref (ad 9 11) : Value).category = 1, ob (mm M (up2 f' (ad 9 6) ((nI i).toNatClampNeg) (G i)) g) (ad 9 11) 15, vp_in (nI i) (mN (mm M (up2 f' (ad 9 6) ((nI i).toNatClampNeg) (G i)) g) (ad 9 11)), (Value.int ((up2 f' (ad 9 6) ((nI i).toNatClampNeg) (G i)) (ad 9 11) ((nI i).toNatClampNeg))) = .int (f' (ad 9 11) i), ob (mm M (up2 f' (ad 9 6) ((nI i).toNatClampNeg) (G i)) g) (ad 9 11) 15, vp_in (nI i) (mN (mm M (up2 f' (ad 9 6) ((nI i).toNatClampNeg) (G i)) g) (ad 9 11))]) rfl ⟨hM.1, (hM.r 6 15 60), rfl, hM.1, (hM.r 23 15 60), rfl, (hM.o 23 15 60), (vpi (hM.n 23 15 60) (by omega)), congrArg Value.int ((congrArg (fun z => f' (ad 9 23) z) (nI_clamp (by omega))).trans hg23), (hM.o 6 15 60), (vpi (hM.n 6 15 60) (by omega)), hM.1, (hM.r 11 15 60), rfl, rfl, rfl, (hM.o 11 15 60), (vpi (hM.n 11 15 60) (by omega)), congrArg Value.int ((congrArg (fun z => (up2 f' (ad 9 6) ((nI i).toNatClampNeg) (G i)) (ad 9 11) z) (nI_clamp (by omega))).trans ((up2_n _ _ (fun z => absurd (hi _ _ _ _ z.1).2 (by decide))).trans (rfl))), (hM.o 11 15 60), (vpi (hM.n 11 15 60) (by omega)), trivial⟩ ?_
      rw [nI_clamp (n := i) (by omega)]
      rw [show nI i + 1 = nI (i + 1) from nI_add i 1]
      refine ih _ (fun x k z => ?_) (fun j hj => ?_)
      · rw [up2_n _ _ (fun y => z ⟨Or.inr y.1, by omega⟩), up2_n _ _ (fun y => z ⟨Or.inl y.1, by omega⟩)]; exact h1 x k z
      · have z := h2 j hj
        by_cases c : j = i
        · rw [c]
          rw [if_neg (not_or.mpr ⟨hq, by omega⟩), if_neg (not_or.mpr ⟨hq, by omega⟩), up2_s, up2_n _ _ (fun y => n9 6 11 (by decide) y.1), up2_s]
          exact ⟨rfl, by rw [hh.2]⟩
        · have ei : (i + 1 ≤ j) = (i ≤ j) := propext (by omega)
          simp only [ei]
          rw [up2_n _ _ (fun y => c y.2), up2_n _ _ (fun y => c y.2), up2_n _ _ (fun y => c y.2), up2_n _ _ (fun y => c y.2)]; exact z

