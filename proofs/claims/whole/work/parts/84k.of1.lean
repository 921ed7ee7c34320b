/-! openDay: the invariant behind it, first half -/
section
variable {M : Mem} {ad : Nat → Nat → Nat} {nc nb nt wk nw nx nl ne nk kd : Nat} {Q W : Nat → Option Nat} {F : Nat → Nat → Int32}
def odC (M : Mem) (ad : Nat → Nat → Nat) (nc nb nt nx wk ne : Nat) (F : Nat → Nat → Int32) : Prop :=
  (∀ i k, u9 i → ¬ (i = 12 ∨ i = 16 ∨ (32 ≤ i ∧ i ≤ 38) ∨ (42 ≤ i ∧ i ≤ 49) ∨ i = 51 ∨ (91 ≤ i ∧ i ≤ 93)) → F (ad 9 i) k = mI M (ad 9 i) k) ∧
  (∀ i k, (i = 91 ∨ i = 92) → k < ne → F (ad 9 i) k = mI M (ad 9 i) k) ∧ (∀ k, k < 3 * ne → F (ad 9 93) k = mI M (ad 9 93) k) ∧
  (∀ i k, mjR i → k < 7 * wk → F (ad 9 i) k = mI M (ad 9 i) k) ∧ (∀ i k, ((44 ≤ i ∧ i ≤ 49) ∨ i = 51) → nt ≤ k → F (ad 9 i) k = mI M (ad 9 i) k) ∧
  (∀ i k, i < 41 → ¬ (i = 0 ∨ (7 ≤ i ∧ i ≤ 9) ∨ i = 32 ∨ i = 33) → F (ad 0 i) k = mI M (ad 0 i) k) ∧ (∀ k, ¬ (k = 8 ∨ k = 9) → F (ad 0 0) k = mI M (ad 0 0) k) ∧
  (∀ k, ¬ (k = 0 ∨ k = 2 ∨ k = 3 ∨ k = 5 ∨ k = 7) → F (ad 0 8) k = mI M (ad 0 8) k) ∧ (∀ k, ¬ k = 2 → F (ad 0 9) k = mI M (ad 0 9) k) ∧ (∀ i k, (i = 32 ∨ i = 33) → k < ne → F (ad 0 i) k = mI M (ad 0 i) k) ∧
  (∀ c k, c < nc → ¬ (5 ≤ k ∧ k ≤ 7) → F (ad 1 c) k = mI M (ad 1 c) k) ∧ (∀ b k, b < nb → ¬ (k = 7 ∨ k = 10 ∨ k = 11) → F (ad 2 b) k = mI M (ad 2 b) k) ∧
  (∀ t k, t < nt → ¬ (4 ≤ k ∧ k ≤ 10) → F (ad 3 t) k = mI M (ad 3 t) k) ∧ (∀ t k, t < nt → F (ad 4 t) k = mI M (ad 4 t) k ∧ F (ad 5 t) k = mI M (ad 5 t) k) ∧
  (∀ b k, b < nb → hJ (vw ad (mI M)) wk false b → F (ad 6 b) k = mI M (ad 6 b) k) ∧ (∀ i k, i ≤ nx → F (ad 7 i) k = mI M (ad 7 i) k ∧ F (ad 8 i) k = mI M (ad 8 i) k) ∧
  (∀ k, ¬ (k = 0 ∨ k = 20 ∨ k = 21 ∨ k = 71 ∨ (64 ≤ k ∧ k ≤ 66) ∨ k = 68 ∨ k = 70 ∨ k = 95) → F (ad 10 0) k = mI M (ad 10 0) k)
theorem od_c (h : OD M ad nc nb nt nx wk ne kd Q W F) : odC M ad nc nb nt nx wk ne F := by
  have o := h.1
  have d9 : ∀ i k, ¬ (i = 16 ∨ i = 12) → ¬ ((i = 91 ∨ i = 92) ∧ ne ≤ k) → ¬ (i = 93 ∧ 3 * ne ≤ k) → ¬ (mjR i ∧ 7 * wk ≤ k) → ¬ (((44 ≤ i ∧ i ≤ 49) ∨ i = 51) ∧ k < nt) → ¬ odX ne wk nt 9 i k := by
    intro i k z1 z2 z3 z4 z5 y
    rcases y with y | y | y | y | y | y | y | y | y | y | y | y | y | y
    · exact absurd y.1 (by decide)
    · exact absurd y.1 (by decide)
    · exact absurd y.1 (by decide)
    · exact absurd y.1 (by decide)
    · exact absurd y.1 (by decide)
    · exact absurd y.1 (by decide)
    · exact absurd y.1 (by decide)
    · exact absurd y.1 (by decide)
    · exact absurd y.1 (by decide)
    · exact z1 y.2
    · exact z2 y.2
    · exact z3 y.2
    · exact z4 y.2
    · exact z5 y.2
  have d0 : ∀ i k, ¬ (i = 0 ∧ (k = 8 ∨ k = 9)) → ¬ (i = 9 ∧ k = 2) → ¬ ((i = 32 ∨ i = 33) ∧ ne ≤ k) → ¬ (i = 8 ∧ (k = 0 ∨ k = 2 ∨ k = 3 ∨ k = 5 ∨ k = 7)) → ¬ (i = 7 ∧ k = 19) → ¬ odX ne wk nt 0 i k := by
    intro i k z1 z2 z3 z4 z5 y
    rcases y with y | y | y | y | y | y | y | y | y | y | y | y | y | y
    · exact z1 y.2
    · exact absurd y.1 (by decide)
    · exact z2 y.2
    · exact z3 y.2
    · exact z4 y.2
    · exact absurd y.1 (by decide)
    · exact absurd y.1 (by decide)
    · exact z5 y.2
    · exact absurd y.1 (by decide)
    · exact absurd y.1 (by decide)
    · exact absurd y.1 (by decide)
    · exact absurd y.1 (by decide)
    · exact absurd y.1 (by decide)
    · exact absurd y.1 (by decide)
  have dt : ∀ t i k, ¬ t = 0 → ¬ t = 9 → ¬ (t = 2 ∧ (k = 7 ∨ k = 10 ∨ k = 11)) → ¬ (t = 1 ∧ 5 ≤ k ∧ k ≤ 7) → ¬ (t = 3 ∧ 4 ≤ k ∧ k ≤ 10) → ¬ (t = 10 ∧ (k = 0 ∨ k = 20 ∨ k = 21 ∨ k = 71 ∨ (64 ≤ k ∧ k ≤ 66) ∨ k = 68 ∨ k = 70 ∨ k = 95)) → ¬ odX ne wk nt t i k := by
    intro t i k y0 y9 z1 z2 z3 z4 y
    rcases y with y | y | y | y | y | y | y | y | y | y | y | y | y | y
    · exact y0 y.1
    · exact z1 y
    · exact y0 y.1
    · exact y0 y.1
    · exact y0 y.1
    · exact z2 y
    · exact z3 y
    · exact y0 y.1
    · exact z4 ⟨y.1, y.2.2⟩
    · exact y9 y.1
    · exact y9 y.1
    · exact y9 y.1
    · exact y9 y.1
    · exact y9 y.1
  have ux : ∀ t i, Us nc nb nt nx t i → Ux M ad nc nb nt nx wk t i := fun t i u => Or.inl u
  have u9' : ∀ i, u9 i → Us nc nb nt nx 9 i := fun i u => u
  refine ⟨fun i k u z => o 9 i k (ux 9 i u) (d9 i k (by omega) (by omega) (by omega) (by unfold mjR; omega) (by omega)), fun i k u z => o 9 i k (ux 9 i (u9' i (by unfold u9; omega))) (d9 i k (by omega) (by omega) (by omega) (by unfold mjR; omega) (by omega)), fun k z => o 9 93 k (ux 9 93 (u9' 93 (by unfold u9; omega))) (d9 93 k (by omega) (by omega) (by omega) (by unfold mjR; omega) (by omega)), fun i k u z => ?_, fun i k u z => o 9 i k (ux 9 i (u9' i (by unfold u9; omega))) (d9 i k (by omega) (by omega) (by omega) (by unfold mjR; omega) (by omega)), fun i k u z => o 0 i k (Ux.k0 u) (d0 i k (by omega) (by omega) (by omega) (by omega) (by omega)), fun k z => o 0 0 k (Ux.k0 (by omega)) (d0 0 k (by omega) (by omega) (by omega) (by omega) (by omega)), fun k z => o 0 8 k (Ux.k0 (by omega)) (d0 8 k (by omega) (by omega) (by omega) (by omega) (by omega)), fun k z => o 0 9 k (Ux.k0 (by omega)) (d0 9 k (by omega) (by omega) (by omega) (by omega) (by omega)), fun i k u z => o 0 i k (Ux.k0 (by omega)) (d0 i k (by omega) (by omega) (by omega) (by omega) (by omega)), fun c k u z => o 1 c k (ux 1 c u) (dt 1 c k (by omega) (by omega) (by omega) (by omega) (by omega) (by omega)), fun b k u z => o 2 b k (ux 2 b u) (dt 2 b k (by omega) (by omega) (by omega) (by omega) (by omega) (by omega)), fun t k u z => o 3 t k (ux 3 t u) (dt 3 t k (by omega) (by omega) (by omega) (by omega) (by omega) (by omega)), fun t k u => ⟨o 4 t k (ux 4 t u) (dt 4 t k (by omega) (by omega) (by omega) (by omega) (by omega) (by omega)), o 5 t k (ux 5 t u) (dt 5 t k (by omega) (by omega) (by omega) (by omega) (by omega) (by omega))⟩, fun b k u z => o 6 b k (Or.inr ⟨rfl, u, z⟩) (dt 6 b k (by omega) (by omega) (by omega) (by omega) (by omega) (by omega)), fun i k u => ⟨o 7 i k (ux 7 i u) (dt 7 i k (by omega) (by omega) (by omega) (by omega) (by omega) (by omega)), o 8 i k (ux 8 i u) (dt 8 i k (by omega) (by omega) (by omega) (by omega) (by omega) (by omega))⟩, fun k z => o 10 0 k (ux 10 0 rfl) (dt 10 0 k (by omega) (by omega) (by omega) (by omega) (by omega) (by omega))⟩
  have u' := u
  unfold mjR at u'
  refine o 9 i k (ux 9 i (u9' i (by unfold u9; omega))) (d9 i k (by omega) (by omega) (by omega) (by omega) (by omega))
def odQ (M : Mem) (ad : Nat → Nat → Nat) (nc nb wk : Nat) (Q W : Nat → Option Nat) (F : Nat → Nat → Int32) : Prop :=
  (∀ c b, Q c = some b → b < nb ∧ ¬ mI M (ad 9 16) b = 1 ∧ mI M (ad 9 15) b = 1 ∧ mI M (ad 9 6) b = nI c ∧ mI M (ad 9 7) b = nI wk) ∧
  (∀ c c' b, c < nc → c' < nc → Q c = some b → Q c' = some b → c = c') ∧
  (∀ c b, W c = some b → b < nb ∧ mI M (ad 9 16) b = 1 ∧ mI M (ad 9 6) b = nI c ∧ ∃ w, w + 1 = wk ∧ mI M (ad 9 7) b = nI w) ∧
  (∀ c b w, b < nb → mI M (ad 9 16) b = 1 → mI M (ad 9 6) b = nI c → mI M (ad 9 7) b = nI w → w + 1 = wk → W c = some b) ∧
  (∀ b, b < nb → b01 (F (ad 9 16) b) ∧ (F (ad 9 16) b = 1 ↔ mI M (ad 9 16) b = 1 ∨ ∃ c, c < nc ∧ Q c = some b)) ∧
  (∀ b, mI M (ad 9 16) b = 1 → ∀ c, ¬ Q c = some b) ∧
  (∀ b, b < nb → (hJ (vw ad F) wk true b ↔ hJ (vw ad (mI M)) wk false b ∨ ∃ c, c < nc ∧ W c = some b)) ∧
  (∀ c b, W c = some b → ¬ hJ (vw ad (mI M)) wk false b)
theorem od_q (hW : WI M ad nc nb nt wk nw nx nl ne nk kd false) (hwk : wk < 52) (hQ : ∀ c, Q c = cmO (fun i k => mI M (ad 9 i) k) nb wk c) (hWo : ∀ c, W c = waO (fun i k => mI M (ad 9 i) k) nb wk c) (h : OD M ad nc nb nt nx wk ne kd Q W F) : odQ M ad nc nb wk Q W F := by
  obtain ⟨a1, a2, -, -, -⟩ := op_Q hW hwk
  obtain ⟨hi, -, ⟨iS, iC, iB, iR, iL, iT⟩, -⟩ := hW
  have c9 := (od_c h).1
  obtain ⟨-, -, o3, -, -, o6, -⟩ := h
  have nc3 := iS.1.2.2
  have bw : ∀ b, b < nb → ∃ w, w < 52 ∧ mI M (ad 9 7) b = nI w ∧ (mI M (ad 9 16) b = 1 → mI M (ad 9 15) b = 1 ∧ w < wk) := fun b hb => by
    obtain ⟨-, -, ⟨w, w1, w2, w3⟩, -⟩ := iB.1 b hb
    refine ⟨w, w1, w2, fun z => ⟨(w3 z).1, ?_⟩⟩
    rcases (w3 z).2 with y | y
    · exact y
    · exact absurd y.2 (by decide)
  have e7 : ∀ b, F (ad 9 7) b = mI M (ad 9 7) b := fun b => c9 7 b (by unfold u9; omega) (by omega)
  have q1 : ∀ c b, Q c = some b → b < nb ∧ ¬ mI M (ad 9 16) b = 1 ∧ mI M (ad 9 15) b = 1 ∧ mI M (ad 9 6) b = nI c ∧ mI M (ad 9 7) b = nI wk := fun c b z => by
    rw [hQ c] at z
    obtain ⟨y1, y2⟩ := cmO_some z
    obtain ⟨p1, p2, p3, p4⟩ := cmP_of.mp y2
    refine ⟨y1, fun y => ?_, ?_, p2, p3⟩
    · have := (a1 c b z).2
      rw [beq_eq_false_iff_ne] at this
      exact this y
    · rcases (iB.1 b y1).2.1.2.2.2.2.2.1 with q | q
      · exact absurd q p1
      · exact q
  have q2 : ∀ c c' b, c < nc → c' < nc → Q c = some b → Q c' = some b → c = c' := fun c c' b h1 h2 z1 z2 => by
    rw [hQ] at z1 z2
    exact cm_inj (by omega) (by omega) z1 z2
  have nxt : ∀ w, w < 52 → (nI w + 1 = nI wk ↔ w + 1 = wk) := fun w hw => by
    rw [show nI w + 1 = nI (w + 1) from nI_add w 1]
    exact nI_eqs (by omega) (by omega)
  have w1 : ∀ c b, W c = some b → b < nb ∧ mI M (ad 9 16) b = 1 ∧ mI M (ad 9 6) b = nI c ∧ ∃ w, w + 1 = wk ∧ mI M (ad 9 7) b = nI w := fun c b z => by
    rw [hWo c] at z
    obtain ⟨y1, y2, y3, y4⟩ := waO_some z
    obtain ⟨w, x1, x2, x3⟩ := bw b y1
    refine ⟨y1, y2, y3, w, ?_, x2⟩
    have y4' : mI M (ad 9 7) b + 1 = nI wk := y4
    rw [x2] at y4'
    exact (nxt w x1).mp y4'
  have w2 : ∀ c b w, b < nb → mI M (ad 9 16) b = 1 → mI M (ad 9 6) b = nI c → mI M (ad 9 7) b = nI w → w + 1 = wk → W c = some b := fun c b w hb z1 z2 z3 z4 => by
    cases hq : W c with
    | none =>
      rw [hWo c] at hq
      exact absurd ⟨z1, z2, by show mI M (ad 9 7) b + 1 = nI wk; rw [z3]; exact (nxt w (by omega)).mpr z4⟩ (waO_none hq b hb)
    | some a =>
      obtain ⟨y1, y2, y3, w', y4, y5⟩ := w1 c a hq
      obtain ⟨_, _, _, x3⟩ := bw a y1
      obtain ⟨_, _, _, x4⟩ := bw b hb
      rw [iB.2 a b y1 hb (x3 y2).1 (x4 z1).1 (y3.trans z2.symm) (y5.trans ((show nI w' = nI w by rw [show w' = w by omega]).trans z3.symm))]
  have n16 : ∀ b, mI M (ad 9 16) b = 1 → ∀ c, ¬ Q c = some b := fun b z c y => (q1 c b y).2.1 z
  have g16 : ∀ b, b < nb → b01 (F (ad 9 16) b) ∧ (F (ad 9 16) b = 1 ↔ mI M (ad 9 16) b = 1 ∨ ∃ c, c < nc ∧ Q c = some b) := fun b hb => by
    by_cases z : ∃ c, c < nc ∧ Q c = some b
    · obtain ⟨c, z1, z2⟩ := z
      have := (o3 c b z1 z2).2.2.1
      exact ⟨Or.inr this, ⟨fun _ => Or.inr ⟨c, z1, z2⟩, fun _ => this⟩⟩
    · have y := (o6 b (fun c hc y => z ⟨c, hc, y⟩)).1
      rw [y]
      exact ⟨(iB.1 b hb).2.1.2.2.2.2.2.2, ⟨fun x => Or.inl x, fun x => x.elim id (fun x => absurd x z)⟩⟩
  refine ⟨q1, q2, w1, w2, g16, n16, fun b hb => ?_, fun c b z => ?_⟩
  · unfold hJ
    simp only [vw]
    rw [e7 b]
    constructor
    · rintro ⟨z1, w, z2, z3, z4⟩
      rcases ((g16 b hb).2.mp z1) with y | ⟨c, y1, y2⟩
      · rcases z4 with z4 | z4
        · exact Or.inl ⟨y, w, z2, z3, Or.inl z4⟩
        · obtain ⟨c, c1, c2⟩ := (iB.1 b hb).2.1.1
          exact Or.inr ⟨c, c1, w2 c b w hb y c2 z2 z4.1⟩
      · have := (q1 c b y2).2.2.2.2
        rw [z2] at this
        have := (nI_eqs (a := w) (b := wk) (by omega) (by omega)).mp this
        omega
    · rintro (⟨z1, w, z2, z3, z4⟩ | ⟨c, c1, c2⟩)
      · refine ⟨(g16 b hb).2.mpr (Or.inl z1), w, z2, z3, ?_⟩
        rcases z4 with z4 | z4
        · exact Or.inl z4
        · exact absurd z4.2 (by decide)
      · obtain ⟨y1, y2, y3, w, y4, y5⟩ := w1 c b c2
        exact ⟨(g16 b hb).2.mpr (Or.inl y2), w, y5, by omega, Or.inr ⟨y4, trivial⟩⟩
  · rintro ⟨z1, w, z2, z3, z4⟩
    obtain ⟨y1, y2, y3, w', y4, y5⟩ := w1 c b z
    simp only [vw] at z2
    rw [y5] at z2
    have := (nI_eqs (a := w') (b := w) (by omega) (by omega)).mp z2
    rcases z4 with z4 | z4
    · omega
    · exact absurd z4.2 (by decide)
end
