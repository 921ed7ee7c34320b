/-! a minute, as mathematics: a step keeps the day's order -/
theorem DK.refl {D : DS} {nt nc wk : Nat} : DK D D nt nc wk := ⟨fun _ _ _ _ _ => rfl, fun _ _ _ => ⟨rfl, rfl⟩⟩
theorem DK.trans {D0 D1 D2 : DS} {nt nc wk : Nat} (h1 : DK D0 D1 nt nc wk) (h2 : DK D1 D2 nt nc wk) : DK D0 D2 nt nc wk := by
  have e32 : ∀ j, D1 32 j = D0 32 j := fun j => h1.1 32 j (by omega) (by omega) (by omega)
  refine ⟨fun i k z1 z2 z3 => (h2.1 i k (fun y => z1 ⟨y.1, by obtain ⟨c, y1, y2, y3⟩ := y.2; rw [e32] at y2; exact ⟨c, y1, y2, y3⟩⟩) z2 z3).trans (h1.1 i k z1 z2 z3), fun c hc z => ?_⟩
  obtain ⟨a1, a2⟩ := h1.2 c hc z
  obtain ⟨b1, b2⟩ := h2.2 c hc (by rw [a1]; exact z)
  exact ⟨b1.trans a1, b2.trans a2⟩
/-- rows and constants where 28, 29, 32, 39, 50, 51 stay -/
theorem rwW.congr {D D' : DS} {nt nc wk : Nat} (h : rwW D nt nc wk) (e : ∀ i k, i = 32 ∨ i = 39 ∨ i = 50 ∨ i = 51 → D' i k = D i k) : rwW D' nt nc wk := by
  unfold rwW at *
  have e1 : ∀ i, i = 32 ∨ i = 39 ∨ i = 50 ∨ i = 51 → D' i = D i := fun i hi => funext fun k => e i k hi
  rw [e1 32 (by omega), e1 39 (by omega), e1 50 (by omega), e1 51 (by omega)]
  exact h
theorem cnW.congr {D D' : DS} {nt : Nat} {rs : Int32} (h : cnW D nt rs) (e : ∀ i k, i = 28 ∨ i = 29 → D' i k = D i k) : cnW D' nt rs := by
  unfold cnW at *
  have e1 : ∀ i, i = 28 ∨ i = 29 → D' i = D i := fun i hi => funext fun k => e i k hi
  rw [e1 28 (by omega), e1 29 (by omega)]
  exact h
set_option maxHeartbeats 2000000 in
theorem stD_ok {D D' : DS} {nt nc wk n t : Nat} {rs : Int32} {lo : Nat → Nat} (h : DW D nt nc wk rs lo) (ht : t < nt) (hlo : lo t = n) (hn : n ≤ 1440) (hnc : nc ≤ 7) (hnt : nt ≤ 3) (hs : stD D rs wk n t = some D') : DW D' nt nc wk rs lo ∧ muD D' n t < muD D n t ∧ DK D D' nt nc wk := by
  obtain ⟨hT, hR, hJ, hC⟩ := h
  obtain ⟨g1, g2, g3⟩ := hT t ht
  have nt1 : ∀ t', t' < nt → ¬ t' = t → ¬ nI t' = nI t := fun t' h1 h2 z => h2 ((nI_eqs (by omega) (by omega)).mp z)
  have a12 : ¬ (1 : Int32) = 2 := by decide
  rcases g3 with ⟨z1, z2, z3⟩ | ⟨c, c1, c2, c3, c4, c5, c6, c7⟩
  · -- about nothing
    unfold stD at hs
    rw [if_neg (by rw [z1]; decide), if_neg (by rw [z1]; decide), if_neg (by rw [z1]; decide)] at hs
    obtain ⟨m, m1, m2, m3⟩ := hR.1 t ht
    have m0 : ¬ D 51 t = 0 := fun z => by rw [if_pos z] at hs; cases hs
    rw [if_neg m0] at hs
    have mp : 0 < m := by
      rcases Nat.eq_zero_or_pos m with z | z
      · rw [z] at m2; exact absurd m2 m0
      · exact z
    obtain ⟨c, c1, c2, c3, c4⟩ := m3 0 mp
    rw [Nat.add_zero] at c2
    rw [c2, nI_clamp (by omega), m2, nI_clamp (by omega)] at hs
    obtain ⟨r, hr⟩ : ∃ r, m = r + 1 := ⟨m - 1, by omega⟩
    subst hr
    rw [show r + 1 - 1 = r by omega] at hs
    have hs' : D' = goD D rs wk n t c r := (Option.some.inj hs).symm
    obtain ⟨p, p1, p2, p3⟩ := g2
    have hmn := rg_mn (j := 7 * wk + c) (c := c) (a := p) (has := D 47 t) hC (by omega) (by omega)
    have hsb := rg_sb (j := 7 * wk + c) hC ht (hJ c c1 c3).1.2.2 g1
    obtain ⟨tk, htk⟩ : ∃ tk, mnD D rs (7 * wk + c) (D 48 t).toNatClampNeg c (D 47 t) = tk := ⟨_, rfl⟩
    obtain ⟨sb, hsbe⟩ : ∃ sb, sbD D t (7 * wk + c) (D 47 t) = sb := ⟨_, rfl⟩
    have hD : ∀ i k, D' i k = if i = 40 ∧ k = 7 * wk + c then tk else if i = 39 ∧ k = 7 * wk + c then nI t else if i = 49 ∧ k = t then D 49 t + tk else if i = 48 ∧ k = t then nI (c + 1) else if i = 47 ∧ k = t then sb else if i = 46 ∧ k = t then nI n + tk else if i = 45 ∧ k = t then nI c else if i = 44 ∧ k = t then 1 else if i = 50 ∧ 7 * t ≤ k ∧ k < 7 * t + r then D 50 (k + 1) else if i = 51 ∧ k = t then nI r else D i k := by
      intro i k
      rw [hs']
      unfold goD
      rw [htk, hsbe]
      simp only [up2, shD, show ¬ (50 : Nat) = 51 by decide, false_and, if_false]
    rw [p3, nI_clamp (by omega)] at htk
    rw [htk] at hmn
    rw [hsbe] at hsb
    have e9 : ∀ i k, ¬ (i = 39 ∨ i = 40 ∨ (44 ≤ i ∧ i ≤ 51)) → D' i k = D i k := fun i k z => by
      rw [hD, if_neg (by omega), if_neg (by omega), if_neg (by omega), if_neg (by omega), if_neg (by omega), if_neg (by omega), if_neg (by omega), if_neg (by omega), if_neg (by omega), if_neg (by omega)]
    have ej : ∀ i k, ¬ (k = 7 * wk + c) → (37 ≤ i ∧ i ≤ 40) → D' i k = D i k := fun i k z y => by
      rw [hD, if_neg (by omega), if_neg (by omega), if_neg (by omega), if_neg (by omega), if_neg (by omega), if_neg (by omega), if_neg (by omega), if_neg (by omega), if_neg (by omega), if_neg (by omega)]
    have et : ∀ i k, ¬ (k = t) → (44 ≤ i ∧ i ≤ 51 ∧ ¬ i = 50) → D' i k = D i k := fun i k z y => by
      rw [hD, if_neg (by omega), if_neg (by omega), if_neg (by omega), if_neg (by omega), if_neg (by omega), if_neg (by omega), if_neg (by omega), if_neg (by omega), if_neg (by omega), if_neg (by omega)]
    have e50 : ∀ k, D' 50 k = if 7 * t ≤ k ∧ k < 7 * t + r then D 50 (k + 1) else D 50 k := fun k => by
      rw [hD, if_neg (by omega), if_neg (by omega), if_neg (by omega), if_neg (by omega), if_neg (by omega), if_neg (by omega), if_neg (by omega), if_neg (by omega)]
      by_cases y : 7 * t ≤ k ∧ k < 7 * t + r
      · rw [if_pos ⟨rfl, y⟩, if_pos y]
      · rw [if_neg (fun x => y x.2), if_neg (by omega), if_neg y]
    have v51 : D' 51 t = nI r := by rw [hD, if_neg (by omega), if_neg (by omega), if_neg (by omega), if_neg (by omega), if_neg (by omega), if_neg (by omega), if_neg (by omega), if_neg (by omega), if_neg (by omega), if_pos ⟨rfl, rfl⟩]
    have v44 : D' 44 t = 1 := by rw [hD, if_neg (by omega), if_neg (by omega), if_neg (by omega), if_neg (by omega), if_neg (by omega), if_neg (by omega), if_neg (by omega), if_pos ⟨rfl, rfl⟩]
    have v45 : D' 45 t = nI c := by rw [hD, if_neg (by omega), if_neg (by omega), if_neg (by omega), if_neg (by omega), if_neg (by omega), if_neg (by omega), if_pos ⟨rfl, rfl⟩]
    have v46 : D' 46 t = nI n + tk := by rw [hD, if_neg (by omega), if_neg (by omega), if_neg (by omega), if_neg (by omega), if_neg (by omega), if_pos ⟨rfl, rfl⟩]
    have v47 : D' 47 t = sb := by rw [hD, if_neg (by omega), if_neg (by omega), if_neg (by omega), if_neg (by omega), if_pos ⟨rfl, rfl⟩]
    have v48 : D' 48 t = nI (c + 1) := by rw [hD, if_neg (by omega), if_neg (by omega), if_neg (by omega), if_pos ⟨rfl, rfl⟩]
    have v39 : D' 39 (7 * wk + c) = nI t := by rw [hD, if_neg (by omega), if_pos ⟨rfl, rfl⟩]
    have v40 : D' 40 (7 * wk + c) = tk := by rw [hD, if_pos ⟨rfl, rfl⟩]
    obtain ⟨q1, q2, q3, q4, q5, q6, q7⟩ := hJ c c1 c3
    obtain ⟨y37, y38⟩ := q7 c4
    obtain ⟨k, k1, k2, k3⟩ := hmn
    have n9 : ∀ x, ¬ nI x = -1 ∨ 2 ^ 31 ≤ x := fun x => by
      by_cases y : x < 2 ^ 31
      · exact Or.inl (nI_m1 y)
      · exact Or.inr (by omega)
    refine ⟨⟨fun t' ht' => ?_, ?_, fun c' hc' h32 => ?_, hC.congr (fun i k z => e9 i k (by omega))⟩, ?_, ?_⟩
    · by_cases htt : t' = t
      · rw [htt]
        refine ⟨by rw [v47]; exact hsb, by rw [v48]; exact ⟨c + 1, by omega, by omega, rfl⟩, Or.inr ⟨c, c1, v45, by rw [e9 32 _ (by omega)]; exact c3, v39, ?_, v48, Or.inl ⟨v44, ?_, n + k, by omega, by omega, by rw [v46, k3, nI_add]⟩⟩⟩
        · rw [e9 38 _ (by omega)]; exact y38
        · rw [e9 37 _ (by omega)]; exact y37
      · refine (hT t' ht').congr (Nat.le_refl _) (fun i z => et i t' htt (by omega)) (fun k => e9 32 k (by omega)) (fun c' hc' z => ?_)
        have hne : ¬ 7 * wk + c' = 7 * wk + c := fun y => by
          rw [y, c4] at z; exact absurd z.symm (nI_m1 (by omega))
        exact ⟨ej 37 _ hne (by omega), ej 38 _ hne (by omega), ej 39 _ hne (by omega)⟩
    · -- the rows
      have old : ∀ t' i, t' < nt → ∀ n', D' 51 t' = nI n' → n' ≤ 7 → i < n' → ∃ n'' i', D 51 t' = nI n'' ∧ n'' ≤ 7 ∧ i' < n'' ∧ D' 50 (7 * t' + i) = D 50 (7 * t' + i') ∧ i' = (if t' = t then i + 1 else i) := by
        intro t' i ht' n' h51 hn' hin
        by_cases htt : t' = t
        · rw [htt] at h51 ⊢
          rw [v51] at h51
          have er := (nI_eqs (by omega) (by omega)).mp h51
          refine ⟨r + 1, i + 1, m2, m1, by omega, ?_, by rw [if_pos rfl]⟩
          rw [e50, if_pos (by omega)]; rfl
        · rw [et 51 t' htt (by omega)] at h51
          refine ⟨n', i, h51, hn', hin, ?_, by rw [if_neg htt]⟩
          rw [e50, if_neg]
          intro y
          have : t' < t ∨ t < t' := by omega
          omega
      have new39 : ∀ t' i' n'', t' < nt → D 51 t' = nI n'' → n'' ≤ 7 → i' < n'' → ¬ (t' = t ∧ i' = 0) → ∀ c', D 50 (7 * t' + i') = nI c' → c' < nc → ¬ c' = c := by
        intro t' i' n'' ht' h51 hn'' hi' hne c' hc' hc7 z
        rw [z] at hc'
        have := hR.2 t' t n'' (r + 1) i' 0 ht' ht h51 m2 hn'' m1 hi' (by omega) (by rw [hc', Nat.add_zero, c2])
        exact hne this
      refine ⟨fun t' ht' => ?_, fun t1 t2 n1 n2 i1 i2 h1 h2 f1 f2 b1 b2 l1 l2 e => ?_⟩
      · by_cases htt : t' = t
        · rw [htt]
          refine ⟨r, by omega, v51, fun i hi => ?_⟩
          obtain ⟨n'', i', x1, x2, x3, x4, x5⟩ := old t i ht r v51 (by omega) hi
          rw [if_pos rfl] at x5
          have en : n'' = r + 1 := ((nI_eqs (by omega) (by omega)).mp (m2.symm.trans x1)).symm
          obtain ⟨c', w1, w2, w3, w4⟩ := m3 i' (by omega)
          refine ⟨c', w1, by rw [x4]; exact w2, by rw [e9 32 _ (by omega)]; exact w3, ?_⟩
          have hcc := new39 t i' n'' ht x1 x2 x3 (by omega) c' w2 w1
          rw [ej 39 _ (by omega) (by omega)]; exact w4
        · obtain ⟨n', w1, w2, w3⟩ := hR.1 t' ht'
          refine ⟨n', w1, by rw [et 51 t' htt (by omega)]; exact w2, fun i hi => ?_⟩
          obtain ⟨n'', i', x1, x2, x3, x4, x5⟩ := old t' i ht' n' (by rw [et 51 t' htt (by omega)]; exact w2) w1 hi
          rw [if_neg htt] at x5
          obtain ⟨c', u1, u2, u3, u4⟩ := w3 i hi
          refine ⟨c', u1, by rw [x4, x5]; exact u2, by rw [e9 32 _ (by omega)]; exact u3, ?_⟩
          have hcc := new39 t' i n' ht' w2 w1 hi (fun y => htt y.1) c' u2 u1
          rw [ej 39 _ (by omega) (by omega)]; exact u4
      · obtain ⟨n1', i1', x1, x2, x3, x4, x5⟩ := old t1 i1 h1 n1 f1 b1 l1
        obtain ⟨n2', i2', y1, y2, y3, y4, y5⟩ := old t2 i2 h2 n2 f2 b2 l2
        rw [x4, y4] at e
        have := hR.2 t1 t2 n1' n2' i1' i2' h1 h2 x1 y1 x2 y2 x3 y3 e
        obtain ⟨w1, w2⟩ := this
        subst w1
        refine ⟨rfl, ?_⟩
        by_cases htt : t1 = t
        · rw [if_pos htt] at x5 y5; omega
        · rw [if_neg htt] at x5 y5; omega
    · rw [e9 32 _ (by omega)] at h32
      obtain ⟨w1, w2, w3, w4, w5, w6, w7⟩ := hJ c' hc' h32
      rw [e9 33 _ (by omega), e9 35 _ (by omega), e9 36 _ (by omega), e9 37 _ (by omega), e9 38 _ (by omega)]
      by_cases hcc : c' = c
      · rw [hcc, v39, v40]
        rw [hcc] at w1 w2 w3
        refine ⟨w1, w2, w3, Or.inr ⟨t, ht, rfl⟩, ⟨k, k1, k2, k3⟩, fun z => absurd y38 z, fun z => absurd z (nI_m1 (by omega))⟩
      · rw [ej 39 _ (by omega) (by omega), ej 40 _ (by omega) (by omega)]
        exact ⟨w1, w2, w3, w4, w5, w6, w7⟩
    · unfold muD
      rw [v44, z1, if_neg (by decide), if_neg (by decide), if_pos rfl, if_neg (by decide), if_pos rfl]
      omega
    · refine ⟨fun i k z1 z2 z3 => ?_, fun c' hc' z => ?_⟩
      · rw [hD, if_neg (fun y => z1 ⟨by omega, c, c1, c3, y.2⟩), if_neg (fun y => z1 ⟨by omega, c, c1, c3, y.2⟩), if_neg (fun y => z2 ⟨by omega, by omega⟩), if_neg (fun y => z2 ⟨by omega, by omega⟩), if_neg (fun y => z2 ⟨by omega, by omega⟩), if_neg (fun y => z2 ⟨by omega, by omega⟩), if_neg (fun y => z2 ⟨by omega, by omega⟩), if_neg (fun y => z2 ⟨by omega, by omega⟩), if_neg (fun y => z3 ⟨y.1, by omega⟩), if_neg (fun y => z2 ⟨by omega, by omega⟩)]
      · have hcc : ¬ c' = c := fun y => z (by rw [y]; exact y38)
        exact ⟨ej 38 _ (by omega) (by omega), ej 39 _ (by omega) (by omega)⟩
  · -- about a cottage
    have hcl : (D 45 t).toNatClampNeg = c := by rw [c2, nI_clamp (by omega)]
    obtain ⟨q1, q2, q3, q4, q5, q6, q7⟩ := hJ c c1 c3
    have oth : ∀ D' : DS, (∀ i k, ¬ ((i = 44 ∨ i = 45 ∨ i = 46) ∧ k = t) → ¬ ((i = 37 ∨ i = 38) ∧ k = 7 * wk + c) → D' i k = D i k) → (tmW D' nc wk n t) → (m1or 0 1440 (D' 37 (7 * wk + c)) ∧ m1or 0 1440 (D' 38 (7 * wk + c)) ∧ (D' 38 (7 * wk + c) ≠ -1 → D' 37 (7 * wk + c) ≠ -1)) → DW D' nt nc wk rs lo ∧ DK D D' nt nc wk := by
      intro D' e h1 h2
      refine ⟨⟨fun t' ht' => ?_, hR.congr (fun i k z => e i k (by omega) (by omega)), fun c' hc' h32 => ?_, hC.congr (fun i k z => e i k (by omega) (by omega))⟩, fun i k z1 z2 z3 => e i k (fun y => z2 ⟨by omega, by omega⟩) (fun y => z1 ⟨by omega, c, c1, c3, y.2⟩), fun c' hc' z => ?_⟩
      · by_cases htt : t' = t
        · rw [htt, hlo]; exact h1
        · refine (hT t' ht').congr (Nat.le_refl _) (fun i z => e i t' (by omega) (by omega)) (fun k => e 32 k (by omega) (by omega)) (fun c' hc' z => ?_)
          have hcc : ¬ c' = c := fun y => by rw [y, c4] at z; exact nt1 t' ht' htt z.symm
          exact ⟨e 37 _ (by omega) (by omega), e 38 _ (by omega) (by omega), e 39 _ (by omega) (by omega)⟩
      · rw [e 32 _ (by omega) (by omega)] at h32
        obtain ⟨w1, w2, w3, w4, w5, w6, w7⟩ := hJ c' hc' h32
        rw [e 33 _ (by omega) (by omega), e 35 _ (by omega) (by omega), e 36 _ (by omega) (by omega), e 39 _ (by omega) (by omega), e 40 _ (by omega) (by omega)]
        by_cases hcc : c' = c
        · rw [hcc] at w1 w4 w5 ⊢
          refine ⟨w1, h2.1, h2.2.1, w4, w5, fun z => ⟨by rw [c4]; exact nI_m1 (by omega), h2.2.2 z⟩, fun z => absurd z (by rw [c4]; exact nI_m1 (by omega))⟩
        · rw [e 37 _ (by omega) (by omega), e 38 _ (by omega) (by omega)]
          exact ⟨w1, w2, w3, w4, w5, w6, w7⟩
      · have hcc : ¬ c' = c := fun y => z (by rw [y]; exact c5)
        exact ⟨e 38 _ (by omega) (by omega), e 39 _ (by omega) (by omega)⟩
    have m0 : ∀ x, m1or 0 1440 x ↔ (x = -1 ∨ rg 0 1440 x) := fun _ => Iff.rfl
    rcases c7 with ⟨a1, a2, k, k1, k2, k3⟩ | ⟨a1, a2, a3⟩ | ⟨a1, a2, k, k1, k2, k3⟩
    · unfold stD at hs
      rw [if_pos a1] at hs
      have hk : D 46 t = nI n := Classical.byContradiction fun z => by rw [if_neg z] at hs; cases hs
      rw [if_pos hk] at hs
      have hs' : D' = up2 (up2 D 44 t 2) 46 t (-1) := (Option.some.inj hs).symm
      have hD : ∀ i k, D' i k = if i = 46 ∧ k = t then -1 else if i = 44 ∧ k = t then 2 else D i k := fun i k => by rw [hs']; rfl
      have e : ∀ i k, ¬ ((i = 44 ∨ i = 46) ∧ k = t) → D' i k = D i k := fun i k z => by rw [hD, if_neg (by omega), if_neg (by omega)]
      have v44 : D' 44 t = 2 := by rw [hD, if_neg (by omega), if_pos ⟨rfl, rfl⟩]
      have v46 : D' 46 t = -1 := by rw [hD, if_pos ⟨rfl, rfl⟩]
      obtain ⟨r1, r2⟩ := oth D' (fun i k z1 z2 => e i k (by omega)) (by
        refine ⟨by rw [e 47 t (by omega)]; exact g1, by rw [e 48 t (by omega)]; exact g2, Or.inr ⟨c, c1, by rw [e 45 t (by omega)]; exact c2, by rw [e 32 _ (by omega)]; exact c3, by rw [e 39 _ (by omega)]; exact c4, by rw [e 38 _ (by omega)]; exact c5, by rw [e 48 t (by omega)]; exact c6, Or.inr (Or.inl ⟨v44, by rw [e 37 _ (by omega)]; exact a2, v46⟩)⟩⟩) (by rw [e 37 _ (by omega), e 38 _ (by omega)]; exact ⟨q2, q3, fun z => (q6 z).2⟩)
      refine ⟨r1, ?_, r2⟩
      unfold muD
      rw [v44, a1, if_neg (by decide), if_neg (by decide), if_neg (by decide), if_neg (by decide), if_neg (by decide), if_pos rfl]
      omega
    · unfold stD at hs
      rw [if_neg (by rw [a1]; decide), if_pos a1, hcl] at hs
      have hk : D 33 (7 * wk + c) ≤ nI n := Classical.byContradiction fun z => by rw [if_neg z] at hs; cases hs
      rw [if_pos hk] at hs
      have hs' : D' = up2 (up2 (up2 D 44 t 3) 37 (7 * wk + c) (nI n)) 46 t (nI n + D 35 (7 * wk + c)) := (Option.some.inj hs).symm
      have hD : ∀ i k, D' i k = if i = 46 ∧ k = t then nI n + D 35 (7 * wk + c) else if i = 37 ∧ k = 7 * wk + c then nI n else if i = 44 ∧ k = t then 3 else D i k := fun i k => by rw [hs']; rfl
      have e : ∀ i k, ¬ ((i = 44 ∨ i = 46) ∧ k = t) → ¬ (i = 37 ∧ k = 7 * wk + c) → D' i k = D i k := fun i k z1 z2 => by rw [hD, if_neg (by omega), if_neg (by omega), if_neg (by omega)]
      have v44 : D' 44 t = 3 := by rw [hD, if_neg (by omega), if_neg (by omega), if_pos ⟨rfl, rfl⟩]
      have v46 : D' 46 t = nI n + D 35 (7 * wk + c) := by rw [hD, if_pos ⟨rfl, rfl⟩]
      have v37 : D' 37 (7 * wk + c) = nI n := by rw [hD, if_neg (by omega), if_pos ⟨rfl, rfl⟩]
      obtain ⟨l, l1, l2, l3⟩ := q1.2.1
      obtain ⟨r1, r2⟩ := oth D' (fun i k z1 z2 => e i k (by omega) (by omega)) (by
        refine ⟨by rw [e 47 t (by omega) (by omega)]; exact g1, by rw [e 48 t (by omega) (by omega)]; exact g2, Or.inr ⟨c, c1, by rw [e 45 t (by omega) (by omega)]; exact c2, by rw [e 32 _ (by omega) (by omega)]; exact c3, by rw [e 39 _ (by omega) (by omega)]; exact c4, by rw [e 38 _ (by omega) (by omega)]; exact c5, by rw [e 48 t (by omega) (by omega)]; exact c6, Or.inr (Or.inr ⟨v44, by rw [v37]; exact nI_m1 (by omega), n + l, by omega, by omega, by rw [v46, l3, nI_add]⟩)⟩⟩) (by rw [v37, e 38 _ (by omega) (by omega)]; exact ⟨Or.inr ⟨n, by omega, hn, rfl⟩, q3, fun _ => nI_m1 (by omega)⟩)
      refine ⟨r1, ?_, r2⟩
      unfold muD
      rw [v44, a1, v46, if_pos rfl, if_neg]
      · rw [if_neg (by decide), if_neg (by decide), if_neg (by decide)]; omega
      · rw [l3, nI_add]; intro z; have := (nI_eqs (by omega) (by omega)).mp z; omega
    · unfold stD at hs
      rw [if_neg (by rw [a1]; decide), if_neg (by rw [a1]; decide), if_pos a1, hcl] at hs
      have hk : D 46 t = nI n := Classical.byContradiction fun z => by rw [if_neg z] at hs; cases hs
      rw [if_pos hk] at hs
      have hs' : D' = up2 (up2 (up2 (up2 D 44 t 0) 38 (7 * wk + c) (nI n)) 45 t (-1)) 46 t (-1) := (Option.some.inj hs).symm
      have hD : ∀ i k, D' i k = if i = 46 ∧ k = t then -1 else if i = 45 ∧ k = t then -1 else if i = 38 ∧ k = 7 * wk + c then nI n else if i = 44 ∧ k = t then 0 else D i k := fun i k => by rw [hs']; rfl
      have e : ∀ i k, ¬ ((i = 44 ∨ i = 45 ∨ i = 46) ∧ k = t) → ¬ (i = 38 ∧ k = 7 * wk + c) → D' i k = D i k := fun i k z1 z2 => by rw [hD, if_neg (by omega), if_neg (by omega), if_neg (by omega), if_neg (by omega)]
      have v44 : D' 44 t = 0 := by rw [hD, if_neg (by omega), if_neg (by omega), if_neg (by omega), if_pos ⟨rfl, rfl⟩]
      have v45 : D' 45 t = -1 := by rw [hD, if_neg (by omega), if_pos ⟨rfl, rfl⟩]
      have v46 : D' 46 t = -1 := by rw [hD, if_pos ⟨rfl, rfl⟩]
      have v38 : D' 38 (7 * wk + c) = nI n := by rw [hD, if_neg (by omega), if_neg (by omega), if_pos ⟨rfl, rfl⟩]
      obtain ⟨r1, r2⟩ := oth D' (fun i k z1 z2 => e i k (by omega) (by omega)) (by
        refine ⟨by rw [e 47 t (by omega) (by omega)]; exact g1, by rw [e 48 t (by omega) (by omega)]; exact g2, Or.inl ⟨v44, v45, v46⟩⟩) (by rw [v38, e 37 _ (by omega) (by omega)]; exact ⟨q2, Or.inr ⟨n, by omega, hn, rfl⟩, fun _ => a2⟩)
      refine ⟨r1, ?_, r2⟩
      unfold muD
      rw [v44, a1, if_neg (by decide), if_pos rfl, if_pos rfl, if_pos hk]
      omega
theorem stD_no {D : DS} {nc wk n t : Nat} {rs : Int32} (h : tmW D nc wk n t) (hnc : nc ≤ 7) (hn : n ≤ 1440) (hs : stD D rs wk n t = none) : tmW D nc wk (n + 1) t := by
  obtain ⟨g1, g2, g3⟩ := h
  refine ⟨g1, g2, ?_⟩
  rcases g3 with g3 | ⟨c, c1, c2, c3, c4, c5, c6, c7⟩
  · exact Or.inl g3
  · refine Or.inr ⟨c, c1, c2, c3, c4, c5, c6, ?_⟩
    rcases c7 with ⟨a1, a2, k, k1, k2, k3⟩ | a | ⟨a1, a2, k, k1, k2, k3⟩
    · refine Or.inl ⟨a1, a2, k, ?_, k2, k3⟩
      unfold stD at hs
      rw [if_pos a1] at hs
      have hk : ¬ D 46 t = nI n := fun z => by rw [if_pos z] at hs; cases hs
      have : ¬ k = n := fun z => hk (by rw [k3, z])
      omega
    · exact Or.inr (Or.inl a)
    · refine Or.inr (Or.inr ⟨a1, a2, k, ?_, k2, k3⟩)
      unfold stD at hs
      rw [if_neg (by rw [a1]; decide), if_neg (by rw [a1]; decide), if_pos a1] at hs
      have hk : ¬ D 46 t = nI n := fun z => by rw [if_pos z] at hs; cases hs
      have : ¬ k = n := fun z => hk (by rw [k3, z])
      omega
theorem muD_le (D : DS) (n t : Nat) : muD D n t ≤ 5 := by
  unfold muD
  by_cases h1 : D 44 t = 3
  · by_cases h2 : D 46 t = nI n
    · rw [if_pos h1, if_pos h2]; omega
    · rw [if_pos h1, if_neg h2]; omega
  · by_cases h2 : D 44 t = 0
    · rw [if_neg h1, if_pos h2]; omega
    · by_cases h3 : D 44 t = 1
      · rw [if_neg h1, if_neg h2, if_pos h3]; omega
      · rw [if_neg h1, if_neg h2, if_neg h3]; omega
