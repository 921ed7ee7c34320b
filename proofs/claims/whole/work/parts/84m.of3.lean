/-! openDay: the invariant behind it, all of it -/
section
variable {M : Mem} {ad : Nat → Nat → Nat} {nc nb nt wk nw nx nl ne nk kd : Nat} {Q W : Nat → Option Nat} {F : Nat → Nat → Int32} {r : Nat → Nat → Option Nat} {G : Nat → Nat → Int64}
theorem cnQ_lt {c c' b : Nat} (h : c' < c) (hq : Q c' = some b) : cnQ Q c' < cnQ Q c := by
  have m := cnQ_mono Q (show c' + 1 ≤ c by omega)
  rw [cnQ_s hq] at m
  omega
theorem cnQ_eq {c c' b b' : Nat} (h : Q c = some b) (h' : Q c' = some b') (e : cnQ Q c = cnQ Q c') : c = c' := by
  rcases Nat.lt_trichotomy c c' with z | z | z
  · have := cnQ_lt z h; omega
  · exact z
  · have := cnQ_lt z h'; omega
set_option maxHeartbeats 4000000 in
theorem od_IBo (hW : WI M ad nc nb nt wk nw nx nl ne nk kd false) (h : OD M ad nc nb nt nx wk ne kd Q W F) (q : odQ M ad nc nb wk Q W F) (hle : kd + cnQ Q nc ≤ nb) : IBo (vw ad F) (ne + cnQ Q nc) nk nb nc := by
  obtain ⟨hi, -, ⟨iS, iC, iB, iR, iL, iT⟩, ⟨jO, jR, jB, jX, jL⟩, kO, kC, kD, kP, kX⟩ := hW
  obtain ⟨c9, c91, c93, cj, ct, c0, c00, c08, c09, c032, c1, c2, c3, c45, c6, c78, c10⟩ := od_c h
  obtain ⟨-, ⟨-, -, s1, -, -, -, -, s2⟩, o3, -, o5, o6, -⟩ := h
  obtain ⟨q1, q2, w1, w2, g16, n16, hj, hjw⟩ := q
  have nc3 := iS.1.2.2
  have nb3 := iS.2.1.2.2
  have hne : ne = nk + kd := kX.1
  obtain ⟨⟨z1, z2, z3, z4, z5, z6⟩, y2, y3, y4⟩ := jB
  have new : ∀ i, ne ≤ i → i < ne + cnQ Q nc → ∃ c b, c < nc ∧ Q c = some b ∧ i = ne + cnQ Q c := fun i g1 g2 => by
    obtain ⟨c, b, x1, x2, x3⟩ := cnQ_at (Q := Q) (c := nc) (i := i - ne) (by omega)
    exact ⟨c, b, x1, x2, by omega⟩
  refine ⟨⟨s1, s2, (c09 4 (by omega)).trans z3, (c10 96 (by omega)).trans z4, z5, by omega⟩, fun th hth => ?_, fun i hlt => ?_, fun b hb hbg => ?_⟩
  · show F (ad 0 35) th = F (ad 9 94) th
    rw [c0 35 th (by omega) (by omega), c9 94 th (by unfold u9; omega) (by omega)]
    exact y2 th hth
  · show F (ad 0 32) i = F (ad 9 91) i ∧ (∃ c, c < nc ∧ F (ad 9 91) i = nI c) ∧ ((∃ b, b < nb ∧ F (ad 9 92) i = nI b ∧ F (ad 9 16) b = 1 ∧ F (ad 0 33) i = -1 ∧ F (ad 2 b) 11 = nI i) ∨ (F (ad 9 92) i = -1 ∧ ∃ k, k < nk ∧ F (ad 0 33) i = nI k ∧ ∀ th, th < 3 → F (ad 0 34) (3 * k + th) = F (ad 9 93) (3 * i + th) ∧ rg 0 99 (F (ad 9 93) (3 * i + th))))
    by_cases g : i < ne
    · obtain ⟨x1, x2, x3⟩ := y3 i g
      rw [c032 32 i (by omega) g, c91 91 i (by omega) g, c91 92 i (by omega) g, c032 33 i (by omega) g]
      refine ⟨x1, x2, ?_⟩
      rcases x3 with ⟨b, b1, b2, b3, b4, b5⟩ | ⟨x3, k, x4, x5, x6⟩
      · refine Or.inl ⟨b, b1, b2, (g16 b b1).2.mpr (Or.inl b3), b4, ?_⟩
        rw [(o5 b b1 (fun c _ z => n16 b b3 c z)).2.2]
        exact b5
      · refine Or.inr ⟨x3, k, x4, x5, fun th hth => ?_⟩
        rw [c0 34 _ (by omega) (by omega), c93 _ (by omega)]
        exact x6 th hth
    · obtain ⟨c, b, x1, x2, rfl⟩ := new i (by omega) hlt
      obtain ⟨⟨a1, a2, a3, a4, a5⟩, -, a6, a7, a8, a9, -⟩ := o3 c b x1 x2
      exact ⟨a4.trans a8.symm, ⟨c, x1, a8⟩, Or.inl ⟨b, (q1 c b x2).1, a9, a6, a5, a2⟩⟩
  · show ∃ i, i < ne + cnQ Q nc ∧ F (ad 2 b) 11 = nI i ∧ F (ad 9 92) i = nI b ∧ F (ad 9 91) i = F (ad 9 6) b ∧ ∀ i', i' < ne + cnQ Q nc → F (ad 9 92) i' = nI b → i' = i
    rw [c9 6 b (by unfold u9; omega) (by omega)]
    rcases (g16 b hb).2.mp hbg with y | ⟨c, x1, x2⟩
    · obtain ⟨i, i1, i2, i3, i4, i5⟩ := y4 b hb y
      refine ⟨i, by omega, ?_, ?_, ?_, fun i' hl' hz => ?_⟩
      · rw [(o5 b hb (fun c _ z => n16 b y c z)).2.2]; exact i2
      · rw [c91 92 i (by omega) i1]; exact i3
      · rw [c91 91 i (by omega) i1]; exact i4
      · by_cases g : i' < ne
        · rw [c91 92 i' (by omega) g] at hz
          exact i5 i' g hz
        · obtain ⟨c, b', x1, x2, rfl⟩ := new i' (by omega) hl'
          have a9 := (o3 c b' x1 x2).2.2.2.2.2.1
          have e := (nI_eqs (a := b') (b := b) (by have := (q1 c b' x2).1; omega) (by omega)).mp (a9.symm.trans hz)
          rw [e] at x2
          exact absurd x2 (n16 b y c)
    · obtain ⟨⟨a1, a2, a3, a4, a5⟩, -, a6, a7, a8, a9, -⟩ := o3 c b x1 x2
      refine ⟨ne + cnQ Q c, by have := cnQ_lt x1 x2; omega, a2, a9, a8.trans (q1 c b x2).2.2.2.1.symm, fun i' hl' hz => ?_⟩
      by_cases g : i' < ne
      · rw [c91 92 i' (by omega) g] at hz
        rcases (y3 i' g).2.2 with ⟨b', b1, b2, b3, b4, b5⟩ | ⟨x3, -⟩
        · have b2' : mI M (ad 9 92) i' = nI b' := b2
          have e := (nI_eqs (a := b') (b := b) (by omega) (by omega)).mp (b2'.symm.trans hz)
          rw [e] at b3
          exact absurd b3 (q1 c b x2).2.1
        · have x3' : mI M (ad 9 92) i' = -1 := x3
          exact absurd (hz.symm.trans x3') (nI_m1 (by omega))
      · obtain ⟨c', b', u1, u2, rfl⟩ := new i' (by omega) hl'
        have a9' := (o3 c' b' u1 u2).2.2.2.2.2.1
        have e := (nI_eqs (a := b') (b := b) (by have := (q1 c' b' u2).1; omega) (by omega)).mp (a9'.symm.trans hz)
        rw [e] at u2
        rw [q2 c c' b x1 u1 x2 u2]
theorem od_cnt (hW : WI M ad nc nb nt wk nw nx nl ne nk kd false) (q : odQ M ad nc nb wk Q W F) : kd + cnQ Q nc = ctB (fun b => F (ad 9 16) b == 1) nb := by
  obtain ⟨hi, -, -, -, kO, kC, kD, kP, kX⟩ := hW
  obtain ⟨q1, q2, w1, w2, g16, n16, hj, hjw⟩ := q
  have hkd : kd = ctB (fun b => mI M (ad 9 16) b == 1) nb := kC.2.2.1
  have ct := ct_bgQ (p := fun b => mI M (ad 9 16) b == 1) (Q := Q) (nb := nb) (fun c b z => ⟨(q1 c b z).1, by rw [beq_eq_false_iff_ne]; exact (q1 c b z).2.1⟩) nc (fun c c' b hc hc' z1 z2 => by
    have := q2 c c' b hc (by omega) z2 z1
    omega)
  rw [← hkd] at ct
  rw [← ct]
  refine ctB_congr (fun b hb => ?_)
  rw [Bool.eq_iff_iff, bgQ_at, beq_iff_eq, beq_iff_eq]
  exact ((g16 b hb).2).symm
theorem od_ICd (hW : WI M ad nc nb nt wk nw nx nl ne nk kd false) (h : OD M ad nc nb nt nx wk ne kd Q W F) (q : odQ M ad nc nb wk Q W F) (hg : G (ad 0 0) 12 = cdS (kd + cnQ Q nc) ∧ G (ad 10 0) 99 = cdS (kd + cnQ Q nc)) : ICd (vw ad F) (vw ad G) (kd + cnQ Q nc) nb nc := by
  have cnt := od_cnt hW q
  obtain ⟨hi, -, -, -, kO, kC, kD, kP, kX⟩ := hW
  obtain ⟨-, -, o3, o4, o5, o6, -⟩ := h
  obtain ⟨q1, q2, w1, w2, g16, n16, hj, hjw⟩ := q
  obtain ⟨-, -, -, k1, k2, k3⟩ := kC
  refine ⟨hg.1, hg.2, cnt, fun b hb z => ?_, fun b hb z => ?_, fun c hc s h1 h2 => ?_⟩
  · show ∃ k, k < kd + cnQ Q nc ∧ F (ad 9 12) b = cdV k
    rcases (g16 b hb).2.mp z with y | ⟨c, x1, x2⟩
    · obtain ⟨k, y1, y2⟩ := k1 b hb y
      exact ⟨k, by omega, ((o6 b (fun c _ z => n16 b y c z)).2).trans y2⟩
    · exact ⟨kd + cnQ Q c, by have := cnQ_lt x1 x2; omega, (o3 c b x1 x2).2.2.2.1⟩
  · show F (ad 2 b) 10 = -1
    have nq : ∀ c, c < nc → ¬ Q c = some b := fun c hc y => by
      have z' : F (ad 9 16) b = 0 := z
      rw [(o3 c b hc y).2.2.1] at z'
      exact absurd z' (by decide)
    rw [(o5 b hb nq).2.1]
    exact k2 b hb ((o6 b nq).1.symm.trans z)
  · show F (ad 1 c) s = -1 ∨ ∃ k, k < kd + cnQ Q nc ∧ F (ad 1 c) s = cdV k
    have old : ∀ s, 5 ≤ s → s ≤ 7 → mI M (ad 1 c) s = -1 ∨ ∃ k, k < kd + cnQ Q nc ∧ mI M (ad 1 c) s = cdV k := fun s h1 h2 => by
      rcases k3 c hc s h1 h2 with y | ⟨k, y1, y2⟩
      · exact Or.inl y
      · exact Or.inr ⟨k, by omega, y2⟩
    cases hq : Q c with
    | none => rw [o4 c hc hq s]; exact old s h1 h2
    | some b =>
      obtain ⟨-, ⟨a1, a2, a3⟩, -⟩ := o3 c b hc hq
      rcases (show s = 5 ∨ s = 6 ∨ s = 7 by omega) with rfl | rfl | rfl
      · exact Or.inr ⟨kd + cnQ Q c, by have := cnQ_lt hc hq; omega, a1⟩
      · rw [a2]; exact old 5 (by omega) (by omega)
      · rw [a3]; exact old 6 (by omega) (by omega)
theorem od_IXt (hW : WI M ad nc nb nt wk nw nx nl ne nk kd false) (h : OD M ad nc nb nt nx wk ne kd Q W F) (q : odQ M ad nc nb wk Q W F) (hle : kd + cnQ Q nc ≤ 60) : IXt (vw ad F) nb nx (ne + cnQ Q nc) nk (kd + cnQ Q nc) wk := by
  obtain ⟨hi, -, -, -, kO, kC, kD, kP, kX⟩ := hW
  obtain ⟨c9, c91, c93, cj, ct, c0, c00, c08, c09, c032, c1, c2, c3, c45, c6, c78, c10⟩ := od_c h
  obtain ⟨-, -, o3, o4, o5, o6, -⟩ := h
  obtain ⟨q1, q2, w1, w2, g16, n16, hj, hjw⟩ := q
  obtain ⟨-, -, -, k1, k2, k3⟩ := kC
  obtain ⟨x1, x2, x3, x4, x5⟩ := kX
  refine ⟨by omega, fun b z1 z2 => ?_, fun i hlt => ?_, fun j hlt => ?_, fun a b ha hb => ?_⟩
  · show F (ad 9 11) b = 0 ∧ F (ad 9 13) b = 0 ∧ F (ad 9 16) b = 0
    rw [c9 11 b (by unfold u9; omega) (by omega), c9 13 b (by unfold u9; omega) (by omega), (o6 b (fun c _ y => by have := (q1 c b y).1; omega)).1]
    exact x2 b z1 z2
  · show (∃ k, k ≤ wk ∧ F (ad 9 79) i = nI k) ∧ ∃ n, n ≤ 120 ∧ F (ad 7 i) 1 = nI n ∧ okT (F (ad 8 i)) n
    have e8 : F (ad 8 i) = mI M (ad 8 i) := funext (fun k => (c78 i k (by omega)).2)
    rw [c9 79 i (by unfold u9; omega) (by omega), (c78 i 1 (by omega)).1, e8]
    exact x3 i hlt
  · show F (ad 9 41) j = 0 ∨ ∃ i fr, i < nx ∧ F (ad 9 78) i = nI fr ∧ fr ≤ 51 ∧ 7 * fr ≤ j
    rw [c9 41 j (by unfold u9; omega) (by omega)]
    rcases x4 j hlt with y | ⟨i, fr, y1, y2, y3⟩
    · exact Or.inl y
    · exact Or.inr ⟨i, fr, y1, by rw [c9 78 i (by unfold u9; omega) (by omega)]; exact y2, y3⟩
  · show F (ad 9 16) a = 1 → F (ad 9 16) b = 1 → F (ad 9 12) a = F (ad 9 12) b → a = b
    intro z1 z2 z3
    have cd : ∀ i j, i < 61 → j < 61 → cdV i = cdV j → i = j := fun i j hi' hj' e => by
      rcases Nat.lt_trichotomy i j with z | z | z
      · exact absurd e.symm (cdV_n (by omega) z)
      · exact z
      · exact absurd e (cdV_n (by omega) z)
    have new : ∀ c b, c < nc → Q c = some b → kd + cnQ Q c < 61 := fun c b y1 y2 => by have := cnQ_lt y1 y2; omega
    rcases (g16 a ha).2.mp z1 with y | ⟨c, y1, y2⟩
    · rw [(o6 a (fun c _ z => n16 a y c z)).2] at z3
      rcases (g16 b hb).2.mp z2 with u | ⟨c', u1, u2⟩
      · rw [(o6 b (fun c _ z => n16 b u c z)).2] at z3
        exact x5 a b ha hb y u z3
      · rw [(o3 c' b u1 u2).2.2.2.1] at z3
        obtain ⟨k, k4, k5⟩ := k1 a ha y
        have k5' : mI M (ad 9 12) a = cdV k := k5
        have := cd k (kd + cnQ Q c') (by omega) (new c' b u1 u2) (k5'.symm.trans z3)
        omega
    · rw [(o3 c a y1 y2).2.2.2.1] at z3
      rcases (g16 b hb).2.mp z2 with u | ⟨c', u1, u2⟩
      · rw [(o6 b (fun c _ z => n16 b u c z)).2] at z3
        obtain ⟨k, k4, k5⟩ := k1 b hb u
        have k5' : mI M (ad 9 12) b = cdV k := k5
        have := cd (kd + cnQ Q c) k (new c a y1 y2) (by omega) (z3.trans k5')
        omega
      · rw [(o3 c' b u1 u2).2.2.2.1] at z3
        have e := cd _ _ (new c a y1 y2) (new c' b u1 u2) z3
        have e2 := cnQ_eq y2 u2 (by omega)
        rw [e2, u2] at y2
        cases y2
        rfl
end
