/-! openDay: the invariant behind it, bookings and jobs -/
section
variable {M : Mem} {ad : Nat → Nat → Nat} {nc nb nt wk nw nx nl ne nk kd : Nat} {Q W : Nat → Option Nat} {F : Nat → Nat → Int32} {r : Nat → Nat → Option Nat} {G : Nat → Nat → Int64}
theorem od_IBk (hW : WI M ad nc nb nt wk nw nx nl ne nk kd false) (h : OD M ad nc nb nt nx wk ne kd Q W F) (q : odQ M ad nc nb wk Q W F) : IBk (vw ad F) nb nc wk true := by
  obtain ⟨hi, -, ⟨iS, iC, iB, iR, iL, iT⟩, -⟩ := hW
  obtain ⟨c9, -, -, -, -, -, -, -, -, -, -, c2, -⟩ := od_c h
  obtain ⟨-, -, o3, -, o5, o6, -⟩ := h
  obtain ⟨q1, q2, w1, w2, g16, n16, hj, hjw⟩ := q
  have k9 : ∀ i k, 6 ≤ i → i ≤ 15 → ¬ i = 12 → vw ad F 9 i k = vw ad (mI M) 9 i k := fun i k z1 z2 z3 => c9 i k (by unfold u9; omega) (by omega)
  have k2 : ∀ b k, b < nb → k < 7 ∨ k = 8 ∨ k = 9 → vw ad F 2 b k = vw ad (mI M) 2 b k := fun b k hb z => c2 b k hb (by omega)
  refine ⟨fun b hb => ?_, fun a b ha hb => ?_⟩
  · rw [k2 b 0 hb (by omega), k2 b 1 hb (by omega), k2 b 2 hb (by omega), k2 b 3 hb (by omega), k2 b 4 hb (by omega), k2 b 5 hb (by omega), k2 b 6 hb (by omega), k2 b 8 hb (by omega), k2 b 9 hb (by omega), k9 6 b (by omega) (by omega) (by omega), k9 7 b (by omega) (by omega) (by omega), k9 8 b (by omega) (by omega) (by omega), k9 9 b (by omega) (by omega) (by omega), k9 10 b (by omega) (by omega) (by omega), k9 11 b (by omega) (by omega) (by omega), k9 13 b (by omega) (by omega) (by omega), k9 14 b (by omega) (by omega) (by omega), k9 15 b (by omega) (by omega) (by omega)]
    obtain ⟨⟨p0, p1, p2, p3, p4, p5, p6, p7, p8, p9⟩, ⟨s1, s2, s3, s4, s5, s6, s7⟩, ⟨w, x1, x2, x3⟩, x4⟩ := iB.1 b hb
    have e : (vw ad F 2 b 7 = vw ad F 9 16 b) ∧ (vw ad F 9 16 b = 1 → vw ad F 9 12 b = vw ad F 2 b 10) := by
      show F (ad 2 b) 7 = F (ad 9 16) b ∧ (F (ad 9 16) b = 1 → F (ad 9 12) b = F (ad 2 b) 10)
      by_cases z : ∃ c, c < nc ∧ Q c = some b
      · obtain ⟨c, z1, z2⟩ := z
        obtain ⟨y1, y2, y3, y4, y5⟩ := o3 c b z1 z2
        rw [y1.1, y3, y4, y1.2.2.1]
        exact ⟨rfl, fun _ => rfl⟩
      · have y1 := o5 b hb (fun c hc y => z ⟨c, hc, y⟩)
        have y2 := o6 b (fun c hc y => z ⟨c, hc, y⟩)
        rw [y1.1, y1.2.1, y2.1, y2.2]
        exact ⟨p7, x4⟩
    refine ⟨⟨p0, p1, p2, p3, p4, p5, p6, e.1, p8, p9⟩, ⟨s1, s2, s3, s4, s5, s6, (g16 b hb).1⟩, ⟨w, x1, x2, fun z => ?_⟩, e.2⟩
    rcases (g16 b hb).2.mp z with y | ⟨c, y1, y2⟩
    · refine ⟨(x3 y).1, Or.inl ?_⟩
      rcases (x3 y).2 with u | u
      · exact u
      · exact absurd u.2 (by decide)
    · obtain ⟨u1, u2, u3, u4, u5⟩ := q1 c b y2
      have x2' : mI M (ad 9 7) b = nI w := x2
      exact ⟨u3, Or.inr ⟨(nI_eqs (by omega) (by have := iS.2.2.2.1.2.2; omega)).mp (x2'.symm.trans u5), rfl⟩⟩
  · rw [k9 6 a (by omega) (by omega) (by omega), k9 6 b (by omega) (by omega) (by omega), k9 7 a (by omega) (by omega) (by omega), k9 7 b (by omega) (by omega) (by omega), k9 15 a (by omega) (by omega) (by omega), k9 15 b (by omega) (by omega) (by omega)]
    exact iB.2 a b ha hb
theorem od_row (hW : WI M ad nc nb nt wk nw nx nl ne nk kd false) (hwk : wk < 52) {c : Nat} (hc : c < 7) : mI M (ad 9 32) (7 * wk + c) = 0 ∧ mI M (ad 9 39) (7 * wk + c) = -1 ∧ mI M (ad 9 40) (7 * wk + c) = 0 ∧ mI M (ad 9 41) (7 * wk + c) = 0 := by
  obtain ⟨hi, -, -, ⟨jO, -⟩, -⟩ := hW
  rcases jO.2 (7 * wk + c) (by omega) with ⟨b, hb, ⟨z1, w, z2, z3, z4⟩, c', w', y1, y2, y3, y4, y5⟩ | z
  · have := (nI_eqs (a := w') (b := w) (by omega) (by omega)).mp (y4.symm.trans z2)
    rcases z4 with z4 | z4
    · omega
    · exact absurd z4.2 (by decide)
  · exact z
set_option maxHeartbeats 4000000 in
theorem od_IJo (hW : WI M ad nc nb nt wk nw nx nl ne nk kd false) (hwk : wk < 52) (h : OD M ad nc nb nt nx wk ne kd Q W F) (q : odQ M ad nc nb wk Q W F) : IJo (vw ad F) nb nt wk true := by
  have row := fun c (hc : c < 7) => od_row hW hwk hc
  obtain ⟨hi, -, ⟨iS, iC, iB, iR, iL, iT⟩, ⟨jO, -⟩, -⟩ := hW
  obtain ⟨c9, -, -, cj, -, -, -, -, -, -, -, -, -, -, c6, -⟩ := od_c h
  obtain ⟨-, -, -, -, -, -, o7, o8, -⟩ := h
  obtain ⟨q1, q2, w1, w2, g16, n16, hj, hjw⟩ := q
  have nc3 := iS.1.2.2
  have k9 : ∀ i k, (6 ≤ i ∧ i ≤ 8) ∨ i = 14 ∨ (39 ≤ i ∧ i ≤ 41) → vw ad F 9 i k = vw ad (mI M) 9 i k := fun i k z => c9 i k (by unfold u9; omega) (by omega)
  have jA : ∀ b j, jAt (vw ad F) b j ↔ jAt (vw ad (mI M)) b j := fun b j => by
    unfold jAt
    rw [k9 6 b (by omega), k9 7 b (by omega)]
  refine ⟨fun b hb hj' j hja => ?_, fun j hj364 => ?_⟩
  · have hja0 := (jA b j).mp hja
    rw [k9 6 b (by omega), k9 7 b (by omega), k9 8 b (by omega), k9 14 b (by omega), k9 39 j (by omega), k9 40 j (by omega), k9 41 j (by omega)]
    rcases (hj b hb).mp hj' with h0 | ⟨c, c1, c2⟩
    · have lo : j < 7 * wk := by
        obtain ⟨c', w', y1, y2, y3, y4, y5⟩ := hja0
        obtain ⟨z1, w, z2, z3, z4⟩ := h0
        have := (nI_eqs (a := w') (b := w) (by omega) (by omega)).mp (y4.symm.trans z2)
        rcases z4 with z4 | z4
        · omega
        · exact absurd z4.2 (by decide)
      have k6 : ∀ k, vw ad F 6 b k = vw ad (mI M) 6 b k := fun k => c6 b k hb h0
      have kj : ∀ i, (32 ≤ i ∧ i ≤ 38) ∨ i = 42 ∨ i = 43 → vw ad F 9 i j = vw ad (mI M) 9 i j := fun i z => cj i j z lo
      rw [k6 1, k6 2, k6 3, k6 4, k6 5, k6 6, k6 7, k6 8, k6 9, k6 10, k6 11, kj 32 (by omega), kj 33 (by omega), kj 34 (by omega), kj 35 (by omega), kj 36 (by omega), kj 37 (by omega), kj 38 (by omega), kj 42 (by omega), kj 43 (by omega)]
      exact jO.1 b hb h0 j hja0
    · obtain ⟨y1, y2, y3, w, y4, y5⟩ := w1 c b c2
      have ej : j = 7 * wk + c := by
        obtain ⟨c', w', x1, x2, x3, x4, x5⟩ := hja0
        have e1 := (nI_eqs (a := w') (b := w) (by omega) (by omega)).mp (x4.symm.trans y5)
        have e2 := (nI_eqs (a := c') (b := c) (by omega) (by omega)).mp (x3.symm.trans y3)
        omega
      subst ej
      obtain ⟨⟨v1, v2, v3, v4, v5, v6, v7, v8, v9, v10, v11⟩, m32, m33, m34, m35, m36, m37, m38, m42, m43⟩ := o7 c b c1 c2
      obtain ⟨t1, t2, t3, t4⟩ := row c (by omega)
      obtain ⟨-, ⟨-, s2, s3, -⟩, -⟩ := iB.1 b hb
      obtain ⟨-, -, -, m10, -⟩ := iC.1 c c1
      have t14 : vw ad (mI M) 9 14 b = mI M (ad 9 14) b := rfl
      have t8 : vw ad (mI M) 9 8 b = mI M (ad 9 8) b := rfl
      have t3' : vw ad (mI M) 9 3 c = mI M (ad 9 3) c := rfl
      rw [t14] at s3
      rw [t8] at s2
      rw [t3'] at m10
      have e43 : F (ad 9 43) (7 * wk + c) = mI M (ad 9 14) b := by
        rw [m43]
        rcases s3 with z | z <;> rw [z] <;> rfl
      have e34 : F (ad 9 34) (7 * wk + c) = 960 ∨ F (ad 9 34) (7 * wk + c) = 1440 := by
        rw [m34]; unfold jDue
        cases Q c with
        | none => exact Or.inr rfl
        | some _ => exact Or.inl rfl
      have e36 : rg 0 12 (F (ad 9 36) (7 * wk + c)) := by
        rw [m36]; unfold jLin
        cases hq : Q c with
        | none => exact ⟨0, by omega, by omega, rfl⟩
        | some a =>
          obtain ⟨k, k1, k2, k3⟩ := (iB.1 a (q1 c a hq).1).2.1.2.1
          exact ⟨k, by omega, k2, k3⟩
      have e35 : rg 1 400 (F (ad 9 35) (7 * wk + c)) := by
        rw [m35]
        obtain ⟨k, k1, k2, k3⟩ := m10
        obtain ⟨g, g1, g2, g3⟩ := s2
        rw [k3, g3, show (3 : Int32) * nI g = nI (3 * g) from (eq_mul (show (3 : Int32) = nI 3 from rfl) rfl), nI_add]
        rcases s3 with z | z
        · rw [z, if_pos rfl]
          exact ⟨k + 3 * g, by omega, by omega, Int32.add_zero _⟩
        · rw [z, if_neg (by decide)]
          exact ⟨k + 3 * g + 20, by omega, by omega, nI_add _ 20⟩
      have n7 : mI M (ad 9 7) b + 1 = nI wk := by
        rw [y5, show nI w + 1 = nI (w + 1) from nI_add w 1, y4]
      refine ⟨⟨?_, ?_, ?_, ?_, ?_, ?_, ?_, ?_, ?_, ?_, ?_⟩, ⟨m42, e43, m32⟩, e34, e36, ?_, e35, Or.inl m37, Or.inl m38, Or.inl t2, ?_, ?_, fun z => absurd m38 z⟩
      · exact v1.trans y3.symm
      · exact v2.trans n7.symm
      · exact v3.trans m34.symm
      · exact v4.trans m36.symm
      · exact v5.trans m33.symm
      · exact v6.trans m35.symm
      · exact v7.trans m37.symm
      · exact v8.trans m38.symm
      · exact v9.trans t2.symm
      · exact v10.trans t3.symm
      · exact v11.trans t4.symm
      · exact ⟨600, by omega, by omega, m33⟩
      · exact ⟨0, by omega, by omega, t3⟩
      · exact ⟨0, by omega, by omega, t4⟩
  · rw [k9 39 j (by omega), k9 40 j (by omega), k9 41 j (by omega)]
    rcases jO.2 j hj364 with ⟨b, hb, z1, z2⟩ | z
    · exact Or.inl ⟨b, hb, (hj b hb).mpr (Or.inl z1), (jA b j).mpr z2⟩
    · by_cases g : ∃ c b, c < nc ∧ W c = some b ∧ j = 7 * wk + c
      · obtain ⟨c, b, g1, g2, g3⟩ := g
        obtain ⟨y1, y2, y3, w, y4, y5⟩ := w1 c b g2
        exact Or.inl ⟨b, y1, (hj b y1).mpr (Or.inr ⟨c, g1, g2⟩), (jA b j).mpr ⟨c, w, by omega, by omega, y3, y5, by rw [y4]; exact g3⟩⟩
      · refine Or.inr ⟨?_, z.2⟩
        show F (ad 9 32) j = 0
        rw [o8 32 j (by unfold mjR; omega) (fun c b hc hb y => g ⟨c, b, hc, hb, y⟩)]
        exact z.1
set_option maxHeartbeats 4000000 in
theorem od_IJr (hW : WI M ad nc nb nt wk nw nx nl ne nk kd false) (hwk : wk < 52) (h : OD M ad nc nb nt nx wk ne kd Q W F) (q : odQ M ad nc nb wk Q W F) {f : Nat → Nat → Int32} (hjs : JSb M ad nc nb nt nx wk ne Q W nc M ad r f) : IJr (mm (mr M r) F G) ad (vw ad F) nb nc wk true := by
  have row := fun c (hc : c < 7) => od_row hW hwk hc
  obtain ⟨hi, -, ⟨iS, iC, iB, iR, iL, iT⟩, ⟨jO, jR, -⟩, -⟩ := hW
  obtain ⟨c9, -⟩ := od_c h
  obtain ⟨-, -, -, -, -, -, o7, o8, -⟩ := h
  obtain ⟨q1, q2, w1, w2, g16, n16, hj, hjw⟩ := q
  obtain ⟨hE, h1, h2, ⟨-, b2, b3, -⟩, hJ', hN, h12⟩ := hjs
  have nc3 := iS.1.2.2
  have k9 : ∀ i k, i = 6 ∨ i = 7 → vw ad F 9 i k = vw ad (mI M) 9 i k := fun i k z => c9 i k (by unfold u9; omega) (by omega)
  have jA : ∀ b j, jAt (vw ad F) b j ↔ jAt (vw ad (mI M)) b j := fun b j => by
    unfold jAt
    rw [k9 6 b (by omega), k9 7 b (by omega)]
  have bg : ∀ b w, b < nb → mI M (ad 9 16) b = 1 → mI M (ad 9 7) b = nI w → w < 60 → w < wk := fun b w hb z1 z2 z3 => by
    obtain ⟨-, -, ⟨w', x1, x2, x3⟩, -⟩ := iB.1 b hb
    have x2' : mI M (ad 9 7) b = nI w' := x2
    have := (nI_eqs (a := w') (b := w) (by omega) (by omega)).mp (x2'.symm.trans z2)
    rcases (x3 z1).2 with y | y
    · omega
    · exact absurd y.2 (by decide)
  refine ⟨fun b hb => ⟨fun hh => ?_, fun hh => ?_⟩, fun w c hw hc => ?_, fun _ c hc => ?_⟩
  · show r (ad 2 b) 12 = some (ad 6 b) ∧ ob M (ad 6 b) 3 ∧ r (ad 6 b) 0 = some (ad 2 b)
    rcases (hj b hb).mp hh with y | ⟨c, c1, c2⟩
    · obtain ⟨y1, y2, y3⟩ := (jR.1 b hb).1 y
      exact ⟨(h12 b hb (fun c' _ z => hjw c' b z y)).trans y1, y2, (h1 6 b 0 (Or.inr ⟨rfl, hb, y⟩) (by omega) (by omega) (by omega)).trans y3⟩
    · obtain ⟨y1, y2, y3, y4, -⟩ := hJ' c b c1 c2
      exact ⟨y3, y1, y4⟩
  · show r (ad 2 b) 12 = none
    rw [h12 b hb (fun c' hc' z => hh ((hj b hb).mpr (Or.inr ⟨c', hc', z⟩)))]
    exact (jR.1 b hb).2 (fun y => hh ((hj b hb).mpr (Or.inl y)))
  · show (∃ b, b < nb ∧ F (ad 9 16) b = 1 ∧ F (ad 9 6) b = nI c ∧ F (ad 9 7) b = nI w ∧ r (ad 0 4) (7 * w + c) = some (ad 2 b)) ∨ (r (ad 0 4) (7 * w + c) = none ∧ ∀ b, b < nb → F (ad 9 16) b = 1 → F (ad 9 6) b = nI c → F (ad 9 7) b = nI w → False)
    have k6 : ∀ b, F (ad 9 6) b = mI M (ad 9 6) b := fun b => k9 6 b (by omega)
    have k7 : ∀ b, F (ad 9 7) b = mI M (ad 9 7) b := fun b => k9 7 b (by omega)
    by_cases g : w = wk ∧ ∃ b, c < nc ∧ Q c = some b
    · obtain ⟨rfl, b, g1, g2⟩ := g
      obtain ⟨y1, y2, y3, y4, y5⟩ := q1 c b g2
      exact Or.inl ⟨b, y1, (g16 b y1).2.mpr (Or.inr ⟨c, g1, g2⟩), by rw [k6]; exact y4, by rw [k7]; exact y5, (b2 c b g1 g2).1⟩
    · have er : r (ad 0 4) (7 * w + c) = mR M (ad 0 4) (7 * w + c) := by
        by_cases lt : w < wk
        · exact h1 0 4 _ (Ux.k0 (by omega)) (by omega) (by omega) (by omega)
        · obtain ⟨c', hc'⟩ : ∃ c', 7 * w + c = 7 * wk + c' := ⟨7 * w + c - 7 * wk, by omega⟩
          rw [hc']
          refine b3 c' (by omega) ?_
          by_cases e : nc ≤ c'
          · exact Or.inl e
          · refine Or.inr ?_
            have e1 : w = wk := by omega
            have e2 : c' = c := by omega
            subst e2
            cases hq : Q c' with
            | none => rfl
            | some b => exact absurd ⟨e1, b, by omega, hq⟩ g
      have nn : ∀ b, b < nb → F (ad 9 16) b = 1 → F (ad 9 6) b = nI c → F (ad 9 7) b = nI w → mI M (ad 9 16) b = 1 := fun b hb z1 z2 z3 => by
        rcases (g16 b hb).2.mp z1 with y | ⟨c', y1, y2⟩
        · exact y
        · obtain ⟨u1, u2, u3, u4, u5⟩ := q1 c' b y2
          rw [k6] at z2
          rw [k7] at z3
          have e1 := (nI_eqs (a := c') (b := c) (by omega) (by omega)).mp (u4.symm.trans z2)
          have e2 := (nI_eqs (a := wk) (b := w) (by omega) (by omega)).mp (u5.symm.trans z3)
          subst e1 e2
          exact absurd ⟨rfl, b, y1, y2⟩ g
      rw [er]
      rcases jR.2.1 w c hw hc with ⟨b, hb, z1, z2, z3, z4⟩ | ⟨z1, z2⟩
      · exact Or.inl ⟨b, hb, (g16 b hb).2.mpr (Or.inl z1), by rw [k6]; exact z2, by rw [k7]; exact z3, z4⟩
      · refine Or.inr ⟨z1, fun b hb y1 y2 y3 => z2 b hb (nn b hb y1 y2 y3) (by show mI M (ad 9 6) b = nI c; rw [← k6]; exact y2) (by show mI M (ad 9 7) b = nI w; rw [← k7]; exact y3)⟩
  · show (∃ b, b < nb ∧ hJ (vw ad F) wk true b ∧ jAt (vw ad F) b (7 * wk + c) ∧ r (ad 0 5) c = some (ad 6 b)) ∨ (r (ad 0 5) c = none ∧ F (ad 9 32) (7 * wk + c) = 0)
    cases hw : W c with
    | none =>
      refine Or.inr ⟨hN c hc hw, ?_⟩
      rw [o8 32 _ (by unfold mjR; omega) (fun c' b' hc' hb' y => by
        have : c' = c := by omega
        rw [this, hw] at hb'
        cases hb')]
      exact (row c (by omega)).1
    | some b =>
      obtain ⟨y1, y2, y3, w, y4, y5⟩ := w1 c b hw
      exact Or.inl ⟨b, y1, (hj b y1).mpr (Or.inr ⟨c, hc, hw⟩), (jA b _).mpr ⟨c, w, by omega, by omega, y3, y5, by rw [y4]⟩, (hJ' c b hc hw).2.1⟩
end
