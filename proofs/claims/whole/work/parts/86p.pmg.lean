/-! the world as a problem -/
theorem pp9 {φ : VI} {i k : Nat} (h : ppS i = true) (h0 : ¬ i = 0) : ppv φ i k = φ 9 i k := by
  unfold ppv
  rw [if_neg h0, if_pos h]
theorem pp0 {φ : VI} {k : Nat} : ppv φ 0 k = φ 10 0 31 := by
  unfold ppv
  rw [if_pos rfl]
theorem st_cast {p : Nat → Nat → Int32} {wk nw t : Nat} (hnw : nw ≤ 1440) (h : TW p wk t) (h6 : p 44 t = 1 → rg 0 1680 (p 46 t)) : stN p wk nw t ≤ 2080 ∧ stV p wk nw t = (stN p wk nw t : Int) := by
  rcases h with h | ⟨c, c1, c2, c3, c4, c5⟩
  · unfold stN stV
    rw [if_pos h, if_pos h]
    exact ⟨by omega, rfl⟩
  · have o := rg_n c4 (by decide)
    have l := rg_n c5 (by decide)
    have o' := rg_ti c4 (by decide)
    have l' := rg_ti c5 (by decide)
    have ec : (p 45 t).toNatClampNeg = c := by rw [c2]; exact nI_clamp (by omega)
    rcases c3 with ⟨z, zr⟩ | z | ⟨z, zr⟩
    · have k := rg_n (h6 z) (by decide)
      have k' := rg_ti (h6 z) (by decide)
      unfold stN stV
      rw [if_neg (by rw [z]; decide), if_neg (by rw [z]; decide), if_pos z, if_neg (by rw [z]; decide), if_neg (by rw [z]; decide), if_pos z, ec, o', l', k']
      unfold ouN ckN
      omega
    · unfold stN stV
      rw [if_neg (by rw [z]; decide), if_neg (by rw [z]; decide), if_neg (by rw [z]; decide), if_neg (by rw [z]; decide), if_neg (by rw [z]; decide), if_neg (by rw [z]; decide), ec, o', l']
      unfold ouN ckN
      omega
    · have k := rg_n zr (by decide)
      have k' := rg_ti zr (by decide)
      unfold stN stV
      rw [if_neg (by rw [z]; decide), if_pos z, if_neg (by rw [z]; decide), if_pos z, k']
      omega
set_option maxHeartbeats 2000000 in
theorem pl_world {M : Mem} {ad : Nat → Nat → Nat} {nc nb nt wk nw nx nl ne nk kd : Nat} (hW : WI M ad nc nb nt wk nw nx nl ne nk kd true) :
    MB (ppv (vw ad (mI M))) nt nc wk nw ad (mI M) ∧ PW (ppv (vw ad (mI M))) nt nc wk nw ∧ (∀ t, t < nt → TW (ppv (vw ad (mI M))) wk t) ∧ RWd (ppv (vw ad (mI M))) nt nc wk ∧
    (∀ t, t < nt → ∃ n, n ≤ 7 ∧ ppv (vw ad (mI M)) 51 t = nI n ∧ ∀ i, i < n → ∃ k, k < 7 ∧ ppv (vw ad (mI M)) 50 (7 * t + i) = nI k) ∧ (∀ c, c < nc → b01 (ppv (vw ad (mI M)) 32 (7 * wk + c))) ∧ (∀ t, t < nt → (ppv (vw ad (mI M)) 44 t = 0 ∧ ppv (vw ad (mI M)) 45 t = -1) ∨ ∃ c, c < nc ∧ ppv (vw ad (mI M)) 45 t = nI c ∧ ppv (vw ad (mI M)) 32 (7 * wk + c) = 1) := by
  obtain ⟨dT, dR, dJ, dC⟩ := DW.of hW
  obtain ⟨jb, hjb⟩ := jb_of hW
  obtain ⟨hi, hsh, ⟨iS, iC, iB, iR, iL, iT⟩, ⟨jO, jR, jB, jX, jL⟩, kO, kC, kD, kP, kX⟩ := hW
  obtain ⟨d1, d2, d3⟩ := kD rfl
  have wk3 : wk < 52 := iS.2.2.2.2.2.1.2.2 rfl
  have nc3 : nc ≤ 7 := iS.1.2.2
  have nt3 : nt ≤ 3 := iS.2.2.1.2.2
  have nw3 : nw ≤ 1440 := iS.2.2.2.2.1.2.2
  obtain ⟨p, hp⟩ : ∃ p, ppv (vw ad (mI M)) = p := ⟨_, rfl⟩
  rw [hp]
  have e : ∀ i k, ppS i = true → ¬ i = 0 → p i k = mI M (ad 9 i) k := fun i k h h0 => by rw [← hp]; exact pp9 h h0
  have e0 : p 0 0 = mI M (ad 10 0) 31 := by rw [← hp]; exact pp0
  have f28 := fun k => e 28 k rfl (by decide)
  have f29 := fun k => e 29 k rfl (by decide)
  have f32 := fun k => e 32 k rfl (by decide)
  have f33 := fun k => e 33 k rfl (by decide)
  have f34 := fun k => e 34 k rfl (by decide)
  have f35 := fun k => e 35 k rfl (by decide)
  have f36 := fun k => e 36 k rfl (by decide)
  have f39 := fun k => e 39 k rfl (by decide)
  have f44 := fun k => e 44 k rfl (by decide)
  have f45 := fun k => e 45 k rfl (by decide)
  have f46 := fun k => e 46 k rfl (by decide)
  have f47 := fun k => e 47 k rfl (by decide)
  have f48 := fun k => e 48 k rfl (by decide)
  have f50 := fun k => e 50 k rfl (by decide)
  have f51 := fun k => e 51 k rfl (by decide)
  have jr : ∀ c, c < nc → p 32 (7 * wk + c) = 1 → rg 0 1440 (p 33 (7 * wk + c)) ∧ rg 0 1440 (p 34 (7 * wk + c)) ∧ rg 1 400 (p 35 (7 * wk + c)) ∧ rg 0 12 (p 36 (7 * wk + c)) := fun c hc h => by
    rw [f32] at h
    obtain ⟨b1, b2, b3, b4⟩ := hjb c hc h
    obtain ⟨-, -, q1, q2, q3, q4, -⟩ := jO.1 _ b1 b2 _ b3
    rw [f33, f34, f35, f36]
    refine ⟨q3, ?_, q4, q2⟩
    rcases q1 with z | z
    · exact ⟨960, by omega, by omega, z⟩
    · exact ⟨1440, by omega, by omega, z⟩
  have tw : ∀ t, t < nt → TW p wk t ∧ (p 44 t = 1 → rg 0 1680 (p 46 t)) ∧ ((p 44 t = 0 ∧ p 45 t = -1) ∨ ∃ c, c < nc ∧ p 45 t = nI c ∧ p 32 (7 * wk + c) = 1) := fun t ht => by
    obtain ⟨-, -, z⟩ := d1 t ht
    unfold TW
    rw [f44, f45, f46]
    rcases z with ⟨z1, z2, z3⟩ | ⟨c, c1, c2, c3, c4, c5, c6, z⟩
    · exact ⟨Or.inl z1, fun y => absurd (z1.symm.trans y) (by decide), Or.inl ⟨z1, z2⟩⟩
    · obtain ⟨j1, j2, j3, j4⟩ := jr c c1 (by rw [f32]; exact c3)
      refine ⟨Or.inr ⟨c, by omega, c2, ?_, j1, j3⟩, fun y => ?_, Or.inr ⟨c, c1, c2, by rw [f32]; exact c3⟩⟩
      · rcases z with ⟨y1, y2, k, y3, y4, y5⟩ | ⟨y1, y2⟩ | ⟨y1, y2, k, y3, y4, y5⟩
        · exact Or.inl ⟨y1, k, by omega, by omega, y5⟩
        · exact Or.inr (Or.inl y1)
        · exact Or.inr (Or.inr ⟨y1, k, by omega, y4, y5⟩)
      · rcases z with ⟨y1, y2, k, y3, y4, y5⟩ | ⟨y1, y2⟩ | ⟨y1, y2, k, y3, y4, y5⟩
        · exact ⟨k, by omega, y4, y5⟩
        · exact absurd (y1.symm.trans y) (by decide)
        · exact absurd (y1.symm.trans y) (by decide)
  have rowc : ∀ t, t < nt → ∃ n, n ≤ 7 ∧ p 51 t = nI n ∧ ∀ i, i < n → ∃ c, c < nc ∧ p 50 (7 * t + i) = nI c ∧ c ∈ tdL p nc wk := fun t ht => by
    obtain ⟨-, -, -, n, n1, n2, n3⟩ := iT.1 t ht
    refine ⟨n, n1, by rw [f51]; exact n2, fun i hlt => ?_⟩
    obtain ⟨c, c1, c2, c3, c4, -⟩ := d2 t n i ht n2 n1 hlt
    exact ⟨c, c1, by rw [f50]; exact c2, (td_of c1).mpr ⟨by rw [f32]; exact c3, by rw [f39]; exact c4⟩⟩
  refine ⟨⟨fun i k h => (e i k h (fun z => by rw [z] at h; exact absurd h (by decide))).symm, e0.symm, iS.1.2.1, iS.2.2.2.1.2.1, iS.2.2.2.2.1.2.1, iS.2.2.1.2.1⟩, ⟨fun c hc => jr c (td_lt hc) ((td_of (td_lt hc)).mp hc).1, fun t ht => ?_, ⟨fun t ht => by rw [f28]; exact dC.1 t ht, fun i j h1 h2 h3 => by rw [f29]; exact dC.2.1 i j h1 h2 h3, by rw [e0]; exact dC.2.2⟩, nc3⟩, fun t ht => (tw t ht).1, ⟨fun t ht => ?_, fun t t' n n' i i' ht ht' h1 h2 b1 b2 l1 l2 he => ?_⟩, fun t ht => ?_, fun c hc => ?_, fun t ht => (tw t ht).2.2⟩
  · obtain ⟨s1, s2⟩ := st_cast nw3 (tw t ht).1 (tw t ht).2.1
    obtain ⟨⟨k, k1, k2, k3⟩, ⟨m, m1, m2, m3⟩, -⟩ := d1 t ht
    exact ⟨s1, s2, ⟨m, by omega, by omega, by rw [f48]; exact m3⟩, ⟨k, by omega, k2, by rw [f47]; exact k3⟩⟩
  · obtain ⟨n, n1, n2, n3⟩ := rowc t ht
    exact ⟨n, n1, n2, fun i hlt => by obtain ⟨c, -, c2, c3⟩ := n3 i hlt; exact ⟨c, c3, c2⟩⟩
  · rw [f51] at h1 h2
    rw [f50, f50] at he
    exact dR.2 t t' n n' i i' ht ht' h1 h2 b1 b2 l1 l2 he
  · obtain ⟨n, n1, n2, n3⟩ := rowc t ht
    exact ⟨n, n1, n2, fun i hlt => by obtain ⟨c, c1, c2, -⟩ := n3 i hlt; exact ⟨c, by omega, c2⟩⟩
  · rw [f32]
    rcases jO.2 (7 * wk + c) (by omega) with ⟨b, b1, b2, b3⟩ | h
    · obtain ⟨-, ⟨-, -, q⟩, -⟩ := jO.1 b b1 b2 _ b3
      exact Or.inr q
    · exact Or.inl h.1
