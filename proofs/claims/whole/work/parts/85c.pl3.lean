/-! the model's planner: small pieces -/
/-- the memory shows the problem -/
def MB (p : Nat → Nat → Int32) (nt nc wk nw : Nat) (ad : Nat → Nat → Nat) (f : Nat → Nat → Int32) : Prop :=
  (∀ i k, ppS i = true → f (ad 9 i) k = p i k) ∧ f (ad 10 0) 31 = p 0 0 ∧ f (ad 10 0) 17 = nI nc ∧ f (ad 10 0) 19 = nI wk ∧ f (ad 10 0) 20 = nI nw ∧ f (ad 10 0) 30 = nI nt
/-- what a team is about -/
def TW (p : Nat → Nat → Int32) (wk t : Nat) : Prop := p 44 t = 0 ∨ ∃ c, c < 7 ∧ p 45 t = nI c ∧ ((p 44 t = 1 ∧ rg 0 1840 (p 46 t)) ∨ p 44 t = 2 ∨ (p 44 t = 3 ∧ rg 0 1840 (p 46 t))) ∧ rg 0 1440 (p 33 (7 * wk + c)) ∧ rg 1 400 (p 35 (7 * wk + c))
def hitR (p : Nat → Nat → Int32) (c t : Nat) : Bool := (List.range (p 51 t).toNatClampNeg).any (fun i => p 50 (7 * t + i) == nI c)
theorem inRw_hit (p : Nat → Nat → Int32) (nt c : Nat) : inRw p nt c = (List.range nt).find? (hitR p c) := rfl
theorem hitR_of {p : Nat → Nat → Int32} {c t n : Nat} (h : p 51 t = nI n) (hn : n ≤ 7) : hitR p c t = true ↔ ∃ i, i < n ∧ p 50 (7 * t + i) = nI c := by
  unfold hitR
  rw [h, nI_clamp (by omega), List.any_eq_true]
  simp only [List.mem_range, beq_iff_eq]
theorem inRw_some {p : Nat → Nat → Int32} {nt c t : Nat} (ht : t < nt) (h : hitR p c t = true) (h0 : ∀ t', t' < t → hitR p c t' = false) : inRw p nt c = some t := by
  rw [inRw_hit, List.find?_range_eq_some]
  exact ⟨h, List.mem_range.mpr ht, fun j hj => by rw [h0 j hj]; rfl⟩
theorem inRw_none {p : Nat → Nat → Int32} {nt c : Nat} (h0 : ∀ t', t' < nt → hitR p c t' = false) : inRw p nt c = none := by
  rw [inRw_hit, List.find?_eq_none]
  intro t ht
  rw [h0 t (List.mem_range.mp ht)]
  decide

set_option maxHeartbeats 4000000 in
set_option maxRecDepth 100000 in
theorem s_Mo_isWorse {d : Nat} {M : Mem} {f : Nat → Nat → Int32} {g : Nat → Nat → Int64} {ad : Nat → Nat → Nat} {R : Option Value → Mem → Prop} {v z : Nat × Nat × Nat} (hd : 0 ≤ d) (hM : Mx M ad) (h59 : f (ad 10 0) 59 = nI z.1) (h60 : f (ad 10 0) 60 = nI z.2.1) (h61 : f (ad 10 0) 61 = nI z.2.2) (hv : v.1 < 1000000 ∧ v.2.1 ≤ 15 ∧ v.2.2 ≤ 4095) (hz : (z.1 < 1000000 ∧ z.2.1 ≤ 15 ∧ z.2.2 ≤ 4095) ∨ z = (1000000, 1000000, 1000000)) (h1 : pk3 z ≤ pk3 v → R (some (.int 1)) (mm M f g)) (h0 : pk3 v < pk3 z → R (some (.int 0)) (mm M f g)) : Call d 217 [.ref (ad 10 0), .int (nI v.1), .int (nI v.2.1), .int (nI v.2.2)] (mm M f g) R := by
  have zb : z.1 ≤ 1000000 ∧ z.2.1 ≤ 1000000 ∧ z.2.2 ≤ 1000000 := by
    rcases hz with q | q
    · omega
    · rw [q]; decide
  obtain ⟨v1, v2, v3⟩ := v
  obtain ⟨z1, z2, z3⟩ := z
  simp only at *
  have far : (z1 = 1000000 ∧ z2 = 1000000 ∧ z3 = 1000000) ∨ (z1 < 1000000 ∧ z2 ≤ 15 ∧ z3 ≤ 4095) := by
    rcases hz with q | q
    · exact Or.inr q
    · left
      injection q with q1 q2
      injection q2 with q2 q3
      exact ⟨q1, q2, q3⟩
  unfold pk3 at h1 h0
  simp only at h1 h0
  clear hz
  show Go d 217 0 0 0 [.ref (ad 10 0), .int (nI v1), .int (nI v2), .int (nI v3)] [] (mm M f g) R
  refine go_blk 3 [some (.int (nI z1))] (pc' := 5) (vs' := [.ref (ad 10 0), .int (nI v1), .int (nI v2), .int (nI v3)]) (st' := [.int (nI z1), .int (nI v1)]) (M' := mm M f g) (ps := [ob (mm M f g) (ad 10 0) 12, (Value.int (f (ad 10 0) 59)) = .int (nI z1)]) rfl ⟨hM.1, congrArg Value.int h59, trivial⟩ ?_
  refine go_icmp rfl (fun (c21 : (nI v1) = nI z1) => ?_) (fun (c21 : ¬ ((nI v1) = nI z1)) => ?_)
  · -- (nI v1) = nI z1
    have nc21 : v1 = z1 := (nI_eqs (a := v1) (b := z1) (by omega) (by omega)).mp c21
    refine go_blk 3 [some (.int (nI z2))] (pc' := 27) (vs' := [.ref (ad 10 0), .int (nI v1), .int (nI v2), .int (nI v3)]) (st' := [.int (nI z2), .int (nI v2)]) (M' := mm M f g) (ps := [ob (mm M f g) (ad 10 0) 12, (Value.int (f (ad 10 0) 60)) = .int (nI z2)]) rfl ⟨hM.1, congrArg Value.int h60, trivial⟩ ?_
    refine go_icmp rfl (fun (c22 : (nI v2) = nI z2) => ?_) (fun (c22 : ¬ ((nI v2) = nI z2)) => ?_)
    · -- (nI v2) = nI z2
      have nc22 : v2 = z2 := (nI_eqs (a := v2) (b := z2) (by omega) (by omega)).mp c22
      refine go_blk 3 [some (.int (nI z3))] (pc' := 51) (vs' := [.ref (ad 10 0), .int (nI v1), .int (nI v2), .int (nI v3)]) (st' := [.int (nI z3), .int (nI v3)]) (M' := mm M f g) (ps := [ob (mm M f g) (ad 10 0) 12, (Value.int (f (ad 10 0) 61)) = .int (nI z3)]) rfl ⟨hM.1, congrArg Value.int h61, trivial⟩ ?_
      refine go_icmp rfl (fun (c23 : (nI v3) < nI z3) => ?_) (fun (c23 : ¬ ((nI v3) < nI z3)) => ?_)
      · -- (nI v3) < nI z3
        have nc23 : v3 < z3 := (nI_lts (a := v3) (b := z3) (by omega) (by omega)).mp c23
        refine go_blk 1 [] (pc' := 59) (vs' := [.ref (ad 10 0), .int (nI v1), .int (nI v2), .int (nI v3)]) (st' := [.int 0]) (M' := mm M f g) (ps := []) rfl trivial ?_
        refine go_zret rfl rfl (Or.inl rfl) ?_
        exact h0 (by omega)
      · -- ¬ ((nI v3) < nI z3)
        have nc23 : z3 ≤ v3 := (nI_les (a := z3) (b := v3) (by omega) (by omega)).mp (Int32.not_lt.mp c23)
        refine go_blk 2 [] (pc' := 59) (vs' := [.ref (ad 10 0), .int (nI v1), .int (nI v2), .int (nI v3)]) (st' := [.int 1]) (M' := mm M f g) (ps := []) rfl trivial ?_
        refine go_zret rfl rfl (Or.inr rfl) ?_
        exact h1 (by omega)
    · -- ¬ ((nI v2) = nI z2)
      have nc22 : ¬ v2 = z2 := fun q => c22 ((nI_eqs (a := v2) (b := z2) (by omega) (by omega)).mpr q)
      refine go_blk 3 [some (.int (nI z2))] (pc' := 35) (vs' := [.ref (ad 10 0), .int (nI v1), .int (nI v2), .int (nI v3)]) (st' := [.int (nI z2), .int (nI v2)]) (M' := mm M f g) (ps := [ob (mm M f g) (ad 10 0) 12, (Value.int (f (ad 10 0) 60)) = .int (nI z2)]) rfl ⟨hM.1, congrArg Value.int h60, trivial⟩ ?_
      refine go_icmp rfl (fun (c24 : (nI v2) ≤ nI z2) => ?_) (fun (c24 : ¬ ((nI v2) ≤ nI z2)) => ?_)
      · -- (nI v2) ≤ nI z2
        have nc24 : v2 ≤ z2 := (nI_les (a := v2) (b := z2) (by omega) (by omega)).mp c24
        refine go_blk 2 [] (pc' := 59) (vs' := [.ref (ad 10 0), .int (nI v1), .int (nI v2), .int (nI v3)]) (st' := [.int 0]) (M' := mm M f g) (ps := []) rfl trivial ?_
        refine go_zret rfl rfl (Or.inl rfl) ?_
        exact h0 (by omega)
      · -- ¬ ((nI v2) ≤ nI z2)
        have nc24 : z2 < v2 := (nI_lts (a := z2) (b := v2) (by omega) (by omega)).mp (Int32.not_le.mp c24)
        refine go_blk 2 [] (pc' := 59) (vs' := [.ref (ad 10 0), .int (nI v1), .int (nI v2), .int (nI v3)]) (st' := [.int 1]) (M' := mm M f g) (ps := []) rfl trivial ?_
        refine go_zret rfl rfl (Or.inr rfl) ?_
        exact h1 (by omega)
  · -- ¬ ((nI v1) = nI z1)
    have nc21 : ¬ v1 = z1 := fun q => c21 ((nI_eqs (a := v1) (b := z1) (by omega) (by omega)).mpr q)
    refine go_blk 3 [some (.int (nI z1))] (pc' := 13) (vs' := [.ref (ad 10 0), .int (nI v1), .int (nI v2), .int (nI v3)]) (st' := [.int (nI z1), .int (nI v1)]) (M' := mm M f g) (ps := [ob (mm M f g) (ad 10 0) 12, (Value.int (f (ad 10 0) 59)) = .int (nI z1)]) rfl ⟨hM.1, congrArg Value.int h59, trivial⟩ ?_
    refine go_icmp rfl (fun (c25 : (nI v1) ≤ nI z1) => ?_) (fun (c25 : ¬ ((nI v1) ≤ nI z1)) => ?_)
    · -- (nI v1) ≤ nI z1
      have nc25 : v1 ≤ z1 := (nI_les (a := v1) (b := z1) (by omega) (by omega)).mp c25
      refine go_blk 1 [] (pc' := 21) (vs' := [.ref (ad 10 0), .int (nI v1), .int (nI v2), .int (nI v3)]) (st' := [.int 0]) (M' := mm M f g) (ps := []) rfl trivial ?_
      refine go_zret rfl rfl (Or.inl rfl) ?_
      exact h0 (by omega)
    · -- ¬ ((nI v1) ≤ nI z1)
      have nc25 : z1 < v1 := (nI_lts (a := z1) (b := v1) (by omega) (by omega)).mp (Int32.not_le.mp c25)
      refine go_blk 2 [] (pc' := 21) (vs' := [.ref (ad 10 0), .int (nI v1), .int (nI v2), .int (nI v3)]) (st' := [.int 1]) (M' := mm M f g) (ps := []) rfl trivial ?_
      refine go_zret rfl rfl (Or.inr rfl) ?_
      exact h1 (by omega)

set_option maxHeartbeats 4000000 in
set_option maxRecDepth 100000 in
theorem s_Mo_startTime {d : Nat} {M : Mem} {f : Nat → Nat → Int32} {g : Nat → Nat → Int64} {ad : Nat → Nat → Nat} {R : Option Value → Mem → Prop} {p : Nat → Nat → Int32} {nt nc wk nw t : Nat} (hd : 1 ≤ d) (hM : Mx M ad) (hb : MB p nt nc wk nw ad f) (ht : t < 3) (hwk : wk < 52) (hnw : nw ≤ 1440) (hT : TW p wk t) (hR : R (some (.int (nI (stN p wk nw t)))) (mm M f g)) : Call d 219 [.ref (ad 10 0), .int (nI t)] (mm M f g) R := by
  obtain ⟨b9, b31, b17, b19, b20, b30⟩ := hb
  unfold stN at hR
  rcases hT with h44 | ⟨c, hc, h45, h3, h33, h35⟩
  · rw [if_pos h44] at hR
    show Go d 219 0 0 0 [.ref (ad 10 0), .int (nI t), .retAddr 0] [] (mm M f g) R
    refine go_blk 4 [some (.ref (ad 9 44)), some (.int 0)] (pc' := 6) (vs' := [.ref (ad 10 0), .int (nI t), .retAddr 0]) (st' := [.int 0]) (M' := mm M f g) (ps := [ob (mm M f g) (ad 10 0) 12, mR (mm M f g) (ad 10 0) 44 = some (ad 9 44), va_rf (some (ad 9 44)) = .ref (ad 9 44), ob (mm M f g) (ad 9 44) 15, vp_in (nI t) (mN (mm M f g) (ad 9 44)), (Value.int (f (ad 9 44) ((nI t).toNatClampNeg))) = .int 0]) rfl ⟨hM.1, (hM.r 44 15 3), rfl, (hM.o 44 15 3), (vpi (hM.n 44 15 3) (by omega)), congrArg Value.int ((congrArg (fun z => f (ad 9 44) z) (nI_clamp (by omega))).trans ((b9 44 t rfl).trans h44)), trivial⟩ ?_
    refine go_if rfl (fun (z : ¬ (0 : Int32) = 0) => absurd z (show ¬ (¬ (0 : Int32) = 0) from (by decide))) (fun _ => ?_)
    refine go_blk 2 [some (.int (nI nw))] (pc' := 13) (vs' := [.ref (ad 10 0), .int (nI t), .retAddr 0]) (st' := [.int (nI nw)]) (M' := mm M f g) (ps := [ob (mm M f g) (ad 10 0) 12, (Value.int (f (ad 10 0) 20)) = .int (nI nw)]) rfl ⟨hM.1, congrArg Value.int b20, trivial⟩ ?_
    refine go_iret rfl rfl ?_
    exact hR
  · obtain ⟨o, o1, o2, e33⟩ := h33
    obtain ⟨l, l1, l2, e35⟩ := h35
    have eo : ouN p wk c = o := by unfold ouN; rw [e33]; exact nI_clamp (by omega)
    have el : ckN p wk c = l := by unfold ckN; rw [e35]; exact nI_clamp (by omega)
    rw [h45, nI_clamp (show c < 2 ^ 31 by omega), eo, el] at hR
    rcases h3 with ⟨h44, k, k1, k2, e46⟩ | h44 | ⟨h44, k, k1, k2, e46⟩
    · rw [if_neg (by rw [h44]; decide), if_neg (by rw [h44]; decide), if_pos h44, e46, nI_clamp (show k < 2 ^ 31 by omega)] at hR
      show Go d 219 0 0 0 [.ref (ad 10 0), .int (nI t), .retAddr 0] [] (mm M f g) R
      refine go_blk 4 [some (.ref (ad 9 44)), some (.int 1)] (pc' := 6) (vs' := [.ref (ad 10 0), .int (nI t), .retAddr 0]) (st' := [.int 1]) (M' := mm M f g) (ps := [ob (mm M f g) (ad 10 0) 12, mR (mm M f g) (ad 10 0) 44 = some (ad 9 44), va_rf (some (ad 9 44)) = .ref (ad 9 44), ob (mm M f g) (ad 9 44) 15, vp_in (nI t) (mN (mm M f g) (ad 9 44)), (Value.int (f (ad 9 44) ((nI t).toNatClampNeg))) = .int 1]) rfl ⟨hM.1, (hM.r 44 15 3), rfl, (hM.o 44 15 3), (vpi (hM.n 44 15 3) (by omega)), congrArg Value.int ((congrArg (fun z => f (ad 9 44) z) (nI_clamp (by omega))).trans ((b9 44 t rfl).trans h44)), trivial⟩ ?_
      refine go_if rfl (fun _ => ?_) (fun (z : ¬ (¬ (1 : Int32) = 0)) => absurd (show ¬ (1 : Int32) = 0 from (by decide)) z)
      refine go_blk 5 [some (.ref (ad 9 44)), some (.int 1)] (pc' := 21) (vs' := [.ref (ad 10 0), .int (nI t), .retAddr 0]) (st' := [.int 3, .int 1]) (M' := mm M f g) (ps := [ob (mm M f g) (ad 10 0) 12, mR (mm M f g) (ad 10 0) 44 = some (ad 9 44), va_rf (some (ad 9 44)) = .ref (ad 9 44), ob (mm M f g) (ad 9 44) 15, vp_in (nI t) (mN (mm M f g) (ad 9 44)), (Value.int (f (ad 9 44) ((nI t).toNatClampNeg))) = .int 1]) rfl ⟨hM.1, (hM.r 44 15 3), rfl, (hM.o 44 15 3), (vpi (hM.n 44 15 3) (by omega)), congrArg Value.int ((congrArg (fun z => f (ad 9 44) z) (nI_clamp (by omega))).trans ((b9 44 t rfl).trans h44)), trivial⟩ ?_
      refine go_icmp rfl (fun _ => ?_) (fun (z : ¬ (¬ (1 : Int32) = 3)) => absurd (show ¬ (1 : Int32) = 3 from (by decide)) z)
      refine go_blk 5 [some (.ref (ad 9 45)), some (.int (nI c))] (pc' := 38) (vs' := [.ref (ad 10 0), .int (nI t), .retAddr 0]) (st' := [.int (nI c), .ref (ad 10 0)]) (M' := mm M f g) (ps := [ob (mm M f g) (ad 10 0) 12, mR (mm M f g) (ad 10 0) 45 = some (ad 9 45), va_rf (some (ad 9 45)) = .ref (ad 9 45), ob (mm M f g) (ad 9 45) 15, vp_in (nI t) (mN (mm M f g) (ad 9 45)), (Value.int (f (ad 9 45) ((nI t).toNatClampNeg))) = .int (nI c)]) rfl ⟨hM.1, (hM.r 45 15 3), rfl, (hM.o 45 15 3), (vpi (hM.n 45 15 3) (by omega)), congrArg Value.int ((congrArg (fun z => f (ad 9 45) z) (nI_clamp (by omega))).trans ((b9 45 t rfl).trans h45)), trivial⟩ ?_
      refine go_callV rfl rfl rfl (by omega) rfl (by decide) (by decide) hM.1 ?_
      show Go (d - 1) 207 0 0 0 [.ref (ad 10 0), .int (nI c)] [] (mm M f g) _
      refine go_blk 6 [some (.int (nI wk))] (pc' := 9) (vs' := [.ref (ad 10 0), .int (nI c)]) (st' := [.int ((7 * (nI wk)) + (nI c))]) (M' := mm M f g) (ps := [ob (mm M f g) (ad 10 0) 12, (Value.int (f (ad 10 0) 19)) = .int (nI wk)]) rfl ⟨hM.1, congrArg Value.int b19, trivial⟩ ?_
      refine go_iret rfl rfl ?_
      refine ⟨ne_i, ?_⟩
      show Go d 219 0 0 41 [.ref (ad 10 0), .int (nI t), .retAddr 0] [.int ((7 * (nI wk)) + (nI c))] (mm M f g) R
      refine go_blk 6 [some (.ref (ad 9 44)), some (.int 1)] (pc' := 49) (vs' := [.ref (ad 10 0), .int (nI t), .int ((7 * (nI wk)) + (nI c))]) (st' := [.int 1, .int 1]) (M' := mm M f g) (ps := [ob (mm M f g) (ad 10 0) 12, mR (mm M f g) (ad 10 0) 44 = some (ad 9 44), va_rf (some (ad 9 44)) = .ref (ad 9 44), ob (mm M f g) (ad 9 44) 15, vp_in (nI t) (mN (mm M f g) (ad 9 44)), (Value.int (f (ad 9 44) ((nI t).toNatClampNeg))) = .int 1]) rfl ⟨hM.1, (hM.r 44 15 3), rfl, (hM.o 44 15 3), (vpi (hM.n 44 15 3) (by omega)), congrArg Value.int ((congrArg (fun z => f (ad 9 44) z) (nI_clamp (by omega))).trans ((b9 44 t rfl).trans h44)), trivial⟩ ?_
      refine go_icmp rfl (fun (z : ¬ (1 : Int32) = 1) => absurd z (show ¬ (¬ (1 : Int32) = 1) from (by decide))) (fun _ => ?_)
      refine go_blk 9 [some (.ref (ad 9 46)), some (.int (nI k)), some (.ref (ad 9 33)), some (.int (nI o))] (pc' := 71) (vs' := [.ref (ad 10 0), .int (nI t), .int ((7 * (nI wk)) + (nI c))]) (st' := [.int (nI o), .int (nI k)]) (M' := mm M f g) (ps := [ob (mm M f g) (ad 10 0) 12, mR (mm M f g) (ad 10 0) 46 = some (ad 9 46), va_rf (some (ad 9 46)) = .ref (ad 9 46), ob (mm M f g) (ad 9 46) 15, vp_in (nI t) (mN (mm M f g) (ad 9 46)), (Value.int (f (ad 9 46) ((nI t).toNatClampNeg))) = .int (nI k), ob (mm M f g) (ad 10 0) 12, mR (mm M f g) (ad 10 0) 33 = some (ad 9 33), va_rf (some (ad 9 33)) = .ref (ad 9 33), ob (mm M f g) (ad 9 33) 15, vp_in ((7 * (nI wk)) + (nI c)) (mN (mm M f g) (ad 9 33)), (Value.int (f (ad 9 33) (((7 * (nI wk)) + (nI c)).toNatClampNeg))) = .int (nI o)]) rfl ⟨hM.1, (hM.r 46 15 3), rfl, (hM.o 46 15 3), (vpi (hM.n 46 15 3) (by omega)), congrArg Value.int ((congrArg (fun z => f (ad 9 46) z) (nI_clamp (by omega))).trans ((b9 46 t rfl).trans e46)), hM.1, (hM.r 33 15 364), rfl, (hM.o 33 15 364), (vp_eq (eq_add (eq_mul (show (7 : Int32) = nI 7 from rfl) rfl) rfl) (vpi (hM.n 33 15 364) (by omega))), congrArg Value.int ((congrArg (fun z => f (ad 9 33) z) (cl_of (eq_add (eq_mul (show (7 : Int32) = nI 7 from rfl) rfl) rfl) (by omega))).trans ((b9 33 _ rfl).trans e33)), trivial⟩ ?_
      refine go_callS rfl (by decide) rfl rfl (by omega) rfl (by decide) (by decide) ?_
      refine s_JM_max0N (by omega) (by omega) ⟨ne_i, ?_⟩
      show Go d 219 0 0 74 [.ref (ad 10 0), .int (nI t), .int ((7 * (nI wk)) + (nI c))] [.int (nI (max k o))] (mm M f g) R
      refine go_blk 5 [some (.ref (ad 9 35)), some (.int (nI l))] (pc' := 81) (vs' := [.ref (ad 10 0), .int (nI t), .int ((7 * (nI wk)) + (nI c))]) (st' := [.int ((nI (max k o)) + (nI l))]) (M' := mm M f g) (ps := [ob (mm M f g) (ad 10 0) 12, mR (mm M f g) (ad 10 0) 35 = some (ad 9 35), va_rf (some (ad 9 35)) = .ref (ad 9 35), ob (mm M f g) (ad 9 35) 15, vp_in ((7 * (nI wk)) + (nI c)) (mN (mm M f g) (ad 9 35)), (Value.int (f (ad 9 35) (((7 * (nI wk)) + (nI c)).toNatClampNeg))) = .int (nI l)]) rfl ⟨hM.1, (hM.r 35 15 364), rfl, (hM.o 35 15 364), (vp_eq (eq_add (eq_mul (show (7 : Int32) = nI 7 from rfl) rfl) rfl) (vpi (hM.n 35 15 364) (by omega))), congrArg Value.int ((congrArg (fun z => f (ad 9 35) z) (cl_of (eq_add (eq_mul (show (7 : Int32) = nI 7 from rfl) rfl) rfl) (by omega))).trans ((b9 35 _ rfl).trans e35)), trivial⟩ ?_
      refine go_iret rfl rfl ?_
      rw [nI_add]
      exact hR
    · rw [if_neg (by rw [h44]; decide), if_neg (by rw [h44]; decide), if_neg (by rw [h44]; decide)] at hR
      show Go d 219 0 0 0 [.ref (ad 10 0), .int (nI t), .retAddr 0] [] (mm M f g) R
      refine go_blk 4 [some (.ref (ad 9 44)), some (.int 2)] (pc' := 6) (vs' := [.ref (ad 10 0), .int (nI t), .retAddr 0]) (st' := [.int 2]) (M' := mm M f g) (ps := [ob (mm M f g) (ad 10 0) 12, mR (mm M f g) (ad 10 0) 44 = some (ad 9 44), va_rf (some (ad 9 44)) = .ref (ad 9 44), ob (mm M f g) (ad 9 44) 15, vp_in (nI t) (mN (mm M f g) (ad 9 44)), (Value.int (f (ad 9 44) ((nI t).toNatClampNeg))) = .int 2]) rfl ⟨hM.1, (hM.r 44 15 3), rfl, (hM.o 44 15 3), (vpi (hM.n 44 15 3) (by omega)), congrArg Value.int ((congrArg (fun z => f (ad 9 44) z) (nI_clamp (by omega))).trans ((b9 44 t rfl).trans h44)), trivial⟩ ?_
      refine go_if rfl (fun _ => ?_) (fun (z : ¬ (¬ (2 : Int32) = 0)) => absurd (show ¬ (2 : Int32) = 0 from (by decide)) z)
      refine go_blk 5 [some (.ref (ad 9 44)), some (.int 2)] (pc' := 21) (vs' := [.ref (ad 10 0), .int (nI t), .retAddr 0]) (st' := [.int 3, .int 2]) (M' := mm M f g) (ps := [ob (mm M f g) (ad 10 0) 12, mR (mm M f g) (ad 10 0) 44 = some (ad 9 44), va_rf (some (ad 9 44)) = .ref (ad 9 44), ob (mm M f g) (ad 9 44) 15, vp_in (nI t) (mN (mm M f g) (ad 9 44)), (Value.int (f (ad 9 44) ((nI t).toNatClampNeg))) = .int 2]) rfl ⟨hM.1, (hM.r 44 15 3), rfl, (hM.o 44 15 3), (vpi (hM.n 44 15 3) (by omega)), congrArg Value.int ((congrArg (fun z => f (ad 9 44) z) (nI_clamp (by omega))).trans ((b9 44 t rfl).trans h44)), trivial⟩ ?_
      refine go_icmp rfl (fun _ => ?_) (fun (z : ¬ (¬ (2 : Int32) = 3)) => absurd (show ¬ (2 : Int32) = 3 from (by decide)) z)
      refine go_blk 5 [some (.ref (ad 9 45)), some (.int (nI c))] (pc' := 38) (vs' := [.ref (ad 10 0), .int (nI t), .retAddr 0]) (st' := [.int (nI c), .ref (ad 10 0)]) (M' := mm M f g) (ps := [ob (mm M f g) (ad 10 0) 12, mR (mm M f g) (ad 10 0) 45 = some (ad 9 45), va_rf (some (ad 9 45)) = .ref (ad 9 45), ob (mm M f g) (ad 9 45) 15, vp_in (nI t) (mN (mm M f g) (ad 9 45)), (Value.int (f (ad 9 45) ((nI t).toNatClampNeg))) = .int (nI c)]) rfl ⟨hM.1, (hM.r 45 15 3), rfl, (hM.o 45 15 3), (vpi (hM.n 45 15 3) (by omega)), congrArg Value.int ((congrArg (fun z => f (ad 9 45) z) (nI_clamp (by omega))).trans ((b9 45 t rfl).trans h45)), trivial⟩ ?_
      refine go_callV rfl rfl rfl (by omega) rfl (by decide) (by decide) hM.1 ?_
      show Go (d - 1) 207 0 0 0 [.ref (ad 10 0), .int (nI c)] [] (mm M f g) _
      refine go_blk 6 [some (.int (nI wk))] (pc' := 9) (vs' := [.ref (ad 10 0), .int (nI c)]) (st' := [.int ((7 * (nI wk)) + (nI c))]) (M' := mm M f g) (ps := [ob (mm M f g) (ad 10 0) 12, (Value.int (f (ad 10 0) 19)) = .int (nI wk)]) rfl ⟨hM.1, congrArg Value.int b19, trivial⟩ ?_
      refine go_iret rfl rfl ?_
      refine ⟨ne_i, ?_⟩
      show Go d 219 0 0 41 [.ref (ad 10 0), .int (nI t), .retAddr 0] [.int ((7 * (nI wk)) + (nI c))] (mm M f g) R
      refine go_blk 6 [some (.ref (ad 9 44)), some (.int 2)] (pc' := 49) (vs' := [.ref (ad 10 0), .int (nI t), .int ((7 * (nI wk)) + (nI c))]) (st' := [.int 1, .int 2]) (M' := mm M f g) (ps := [ob (mm M f g) (ad 10 0) 12, mR (mm M f g) (ad 10 0) 44 = some (ad 9 44), va_rf (some (ad 9 44)) = .ref (ad 9 44), ob (mm M f g) (ad 9 44) 15, vp_in (nI t) (mN (mm M f g) (ad 9 44)), (Value.int (f (ad 9 44) ((nI t).toNatClampNeg))) = .int 2]) rfl ⟨hM.1, (hM.r 44 15 3), rfl, (hM.o 44 15 3), (vpi (hM.n 44 15 3) (by omega)), congrArg Value.int ((congrArg (fun z => f (ad 9 44) z) (nI_clamp (by omega))).trans ((b9 44 t rfl).trans h44)), trivial⟩ ?_
      refine go_icmp rfl (fun _ => ?_) (fun (z : ¬ (¬ (2 : Int32) = 1)) => absurd (show ¬ (2 : Int32) = 1 from (by decide)) z)
      refine go_blk 6 [some (.int (nI nw)), some (.ref (ad 9 33)), some (.int (nI o))] (pc' := 71) (vs' := [.ref (ad 10 0), .int (nI t), .int ((7 * (nI wk)) + (nI c))]) (st' := [.int (nI o), .int (nI nw)]) (M' := mm M f g) (ps := [ob (mm M f g) (ad 10 0) 12, (Value.int (f (ad 10 0) 20)) = .int (nI nw), ob (mm M f g) (ad 10 0) 12, mR (mm M f g) (ad 10 0) 33 = some (ad 9 33), va_rf (some (ad 9 33)) = .ref (ad 9 33), ob (mm M f g) (ad 9 33) 15, vp_in ((7 * (nI wk)) + (nI c)) (mN (mm M f g) (ad 9 33)), (Value.int (f (ad 9 33) (((7 * (nI wk)) + (nI c)).toNatClampNeg))) = .int (nI o)]) rfl ⟨hM.1, congrArg Value.int b20, hM.1, (hM.r 33 15 364), rfl, (hM.o 33 15 364), (vp_eq (eq_add (eq_mul (show (7 : Int32) = nI 7 from rfl) rfl) rfl) (vpi (hM.n 33 15 364) (by omega))), congrArg Value.int ((congrArg (fun z => f (ad 9 33) z) (cl_of (eq_add (eq_mul (show (7 : Int32) = nI 7 from rfl) rfl) rfl) (by omega))).trans ((b9 33 _ rfl).trans e33)), trivial⟩ ?_
      refine go_callS rfl (by decide) rfl rfl (by omega) rfl (by decide) (by decide) ?_
      refine s_JM_max0N (by omega) (by omega) ⟨ne_i, ?_⟩
      show Go d 219 0 0 74 [.ref (ad 10 0), .int (nI t), .int ((7 * (nI wk)) + (nI c))] [.int (nI (max nw o))] (mm M f g) R
      refine go_blk 5 [some (.ref (ad 9 35)), some (.int (nI l))] (pc' := 81) (vs' := [.ref (ad 10 0), .int (nI t), .int ((7 * (nI wk)) + (nI c))]) (st' := [.int ((nI (max nw o)) + (nI l))]) (M' := mm M f g) (ps := [ob (mm M f g) (ad 10 0) 12, mR (mm M f g) (ad 10 0) 35 = some (ad 9 35), va_rf (some (ad 9 35)) = .ref (ad 9 35), ob (mm M f g) (ad 9 35) 15, vp_in ((7 * (nI wk)) + (nI c)) (mN (mm M f g) (ad 9 35)), (Value.int (f (ad 9 35) (((7 * (nI wk)) + (nI c)).toNatClampNeg))) = .int (nI l)]) rfl ⟨hM.1, (hM.r 35 15 364), rfl, (hM.o 35 15 364), (vp_eq (eq_add (eq_mul (show (7 : Int32) = nI 7 from rfl) rfl) rfl) (vpi (hM.n 35 15 364) (by omega))), congrArg Value.int ((congrArg (fun z => f (ad 9 35) z) (cl_of (eq_add (eq_mul (show (7 : Int32) = nI 7 from rfl) rfl) rfl) (by omega))).trans ((b9 35 _ rfl).trans e35)), trivial⟩ ?_
      refine go_iret rfl rfl ?_
      rw [nI_add]
      exact hR
    · rw [if_neg (by rw [h44]; decide), if_pos h44, e46, nI_clamp (show k < 2 ^ 31 by omega)] at hR
      show Go d 219 0 0 0 [.ref (ad 10 0), .int (nI t), .retAddr 0] [] (mm M f g) R
      refine go_blk 4 [some (.ref (ad 9 44)), some (.int 3)] (pc' := 6) (vs' := [.ref (ad 10 0), .int (nI t), .retAddr 0]) (st' := [.int 3]) (M' := mm M f g) (ps := [ob (mm M f g) (ad 10 0) 12, mR (mm M f g) (ad 10 0) 44 = some (ad 9 44), va_rf (some (ad 9 44)) = .ref (ad 9 44), ob (mm M f g) (ad 9 44) 15, vp_in (nI t) (mN (mm M f g) (ad 9 44)), (Value.int (f (ad 9 44) ((nI t).toNatClampNeg))) = .int 3]) rfl ⟨hM.1, (hM.r 44 15 3), rfl, (hM.o 44 15 3), (vpi (hM.n 44 15 3) (by omega)), congrArg Value.int ((congrArg (fun z => f (ad 9 44) z) (nI_clamp (by omega))).trans ((b9 44 t rfl).trans h44)), trivial⟩ ?_
      refine go_if rfl (fun _ => ?_) (fun (z : ¬ (¬ (3 : Int32) = 0)) => absurd (show ¬ (3 : Int32) = 0 from (by decide)) z)
      refine go_blk 5 [some (.ref (ad 9 44)), some (.int 3)] (pc' := 21) (vs' := [.ref (ad 10 0), .int (nI t), .retAddr 0]) (st' := [.int 3, .int 3]) (M' := mm M f g) (ps := [ob (mm M f g) (ad 10 0) 12, mR (mm M f g) (ad 10 0) 44 = some (ad 9 44), va_rf (some (ad 9 44)) = .ref (ad 9 44), ob (mm M f g) (ad 9 44) 15, vp_in (nI t) (mN (mm M f g) (ad 9 44)), (Value.int (f (ad 9 44) ((nI t).toNatClampNeg))) = .int 3]) rfl ⟨hM.1, (hM.r 44 15 3), rfl, (hM.o 44 15 3), (vpi (hM.n 44 15 3) (by omega)), congrArg Value.int ((congrArg (fun z => f (ad 9 44) z) (nI_clamp (by omega))).trans ((b9 44 t rfl).trans h44)), trivial⟩ ?_
      refine go_icmp rfl (fun (z : ¬ (3 : Int32) = 3) => absurd z (show ¬ (¬ (3 : Int32) = 3) from (by decide))) (fun _ => ?_)
      refine go_blk 4 [some (.ref (ad 9 46)), some (.int (nI k))] (pc' := 30) (vs' := [.ref (ad 10 0), .int (nI t), .retAddr 0]) (st' := [.int (nI k)]) (M' := mm M f g) (ps := [ob (mm M f g) (ad 10 0) 12, mR (mm M f g) (ad 10 0) 46 = some (ad 9 46), va_rf (some (ad 9 46)) = .ref (ad 9 46), ob (mm M f g) (ad 9 46) 15, vp_in (nI t) (mN (mm M f g) (ad 9 46)), (Value.int (f (ad 9 46) ((nI t).toNatClampNeg))) = .int (nI k)]) rfl ⟨hM.1, (hM.r 46 15 3), rfl, (hM.o 46 15 3), (vpi (hM.n 46 15 3) (by omega)), congrArg Value.int ((congrArg (fun z => f (ad 9 46) z) (nI_clamp (by omega))).trans ((b9 46 t rfl).trans e46)), trivial⟩ ?_
      refine go_iret rfl rfl ?_
      exact hR

set_option maxHeartbeats 4000000 in
set_option maxRecDepth 100000 in
theorem s_Mo_inRow {d : Nat} {M : Mem} {f : Nat → Nat → Int32} {g : Nat → Nat → Int64} {ad : Nat → Nat → Nat} {R : Option Value → Mem → Prop} {p : Nat → Nat → Int32} {nt nc wk nw c : Nat} (hd : 0 ≤ d) (hM : Mx M ad) (hb : MB p nt nc wk nw ad f) (nt3 : nt ≤ 3) (hc : c < 7) (hr : ∀ t, t < nt → ∃ n, n ≤ 7 ∧ p 51 t = nI n ∧ ∀ i, i < n → ∃ k, k < 7 ∧ p 50 (7 * t + i) = nI k) (hR : R (some (.int (qv (inRw p nt c)))) (mm M f g)) : Call d 216 [.ref (ad 10 0), .int (nI c)] (mm M f g) R := by
  obtain ⟨b9, b31, b17, b19, b20, b30⟩ := hb
  have outer : ∀ t, t ≤ nt → ∀ u3, (∀ t', t' < t → hitR p c t' = false) → Go d 216 0 0 2 [.ref (ad 10 0), .int (nI c), .int (nI t), u3] [] (mm M f g) R := by
    refine up_ind (P := fun t => ∀ u3, (∀ t', t' < t → hitR p c t' = false) → Go d 216 0 0 2 [.ref (ad 10 0), .int (nI c), .int (nI t), u3] [] (mm M f g) R) nt (fun u3 h0 => ?_) (fun t ht ih u3 h0 => ?_)
    · rw [inRw_none h0] at hR
      show Go d 216 0 0 2 [.ref (ad 10 0), .int (nI c), .int (nI nt), u3] [] (mm M f g) R
      refine go_blk 3 [some (.int (nI nt))] (pc' := 7) (vs' := [.ref (ad 10 0), .int (nI c), .int (nI nt), u3]) (st' := [.int (nI nt), .int (nI nt)]) (M' := mm M f g) (ps := [ob (mm M f g) (ad 10 0) 12, (Value.int (f (ad 10 0) 30)) = .int (nI nt)]) rfl ⟨hM.1, congrArg Value.int b30, trivial⟩ ?_
      refine go_icmp rfl (fun _ => ?_) (fun (z : ¬ (nI nt ≤ (nI nt))) => absurd (show nI nt ≤ (nI nt) from Int32.le_refl _) z)
      refine go_blk 1 [] (pc' := 52) (vs' := [.ref (ad 10 0), .int (nI c), .int (nI nt), u3]) (st' := [.int (-1)]) (M' := mm M f g) (ps := []) rfl trivial ?_
      refine go_iret rfl rfl ?_
      exact hR
    · obtain ⟨n, n7, e51, er⟩ := hr t ht
      have inner : ∀ i, i ≤ n → (∀ i', i' < i → ¬ p 50 (7 * t + i') = nI c) → Go d 216 0 0 12 [.ref (ad 10 0), .int (nI c), .int (nI t), .int (nI i)] [] (mm M f g) R := by
        refine up_ind (P := fun i => (∀ i', i' < i → ¬ p 50 (7 * t + i') = nI c) → Go d 216 0 0 12 [.ref (ad 10 0), .int (nI c), .int (nI t), .int (nI i)] [] (mm M f g) R) n (fun hn => ?_) (fun i hi2 ihi hn => ?_)
        · have hf : hitR p c t = false := by
            rw [Bool.eq_false_iff]
            intro z
            obtain ⟨i, i1, i2⟩ := (hitR_of e51 n7).mp z
            exact hn i i1 i2
          show Go d 216 0 0 12 [.ref (ad 10 0), .int (nI c), .int (nI t), .int (nI n)] [] (mm M f g) R
          refine go_blk 5 [some (.ref (ad 9 51)), some (.int (nI n))] (pc' := 19) (vs' := [.ref (ad 10 0), .int (nI c), .int (nI t), .int (nI n)]) (st' := [.int (nI n), .int (nI n)]) (M' := mm M f g) (ps := [ob (mm M f g) (ad 10 0) 12, mR (mm M f g) (ad 10 0) 51 = some (ad 9 51), va_rf (some (ad 9 51)) = .ref (ad 9 51), ob (mm M f g) (ad 9 51) 15, vp_in (nI t) (mN (mm M f g) (ad 9 51)), (Value.int (f (ad 9 51) ((nI t).toNatClampNeg))) = .int (nI n)]) rfl ⟨hM.1, (hM.r 51 15 3), rfl, (hM.o 51 15 3), (vpi (hM.n 51 15 3) (by omega)), congrArg Value.int ((congrArg (fun z => f (ad 9 51) z) (nI_clamp (by omega))).trans ((b9 51 t rfl).trans e51)), trivial⟩ ?_
          refine go_icmp rfl (fun _ => ?_) (fun (z : ¬ (nI n ≤ (nI n))) => absurd (show nI n ≤ (nI n) from Int32.le_refl _) z)
          refine go_blk 2 [] (pc' := 2) (vs' := [.ref (ad 10 0), .int (nI c), .int ((nI t) + 1), .int (nI n)]) (st' := []) (M' := mm M f g) (ps := []) rfl trivial ?_
          rw [show nI t + 1 = nI (t + 1) from nI_add t 1]
          exact ih _ (fun t' ht' => by
            by_cases e : t' = t
            · rw [e]; exact hf
            · exact h0 t' (by omega))
        ·
          show Go d 216 0 0 12 [.ref (ad 10 0), .int (nI c), .int (nI t), .int (nI i)] [] (mm M f g) R
          refine go_blk 5 [some (.ref (ad 9 51)), some (.int (nI n))] (pc' := 19) (vs' := [.ref (ad 10 0), .int (nI c), .int (nI t), .int (nI i)]) (st' := [.int (nI n), .int (nI i)]) (M' := mm M f g) (ps := [ob (mm M f g) (ad 10 0) 12, mR (mm M f g) (ad 10 0) 51 = some (ad 9 51), va_rf (some (ad 9 51)) = .ref (ad 9 51), ob (mm M f g) (ad 9 51) 15, vp_in (nI t) (mN (mm M f g) (ad 9 51)), (Value.int (f (ad 9 51) ((nI t).toNatClampNeg))) = .int (nI n)]) rfl ⟨hM.1, (hM.r 51 15 3), rfl, (hM.o 51 15 3), (vpi (hM.n 51 15 3) (by omega)), congrArg Value.int ((congrArg (fun z => f (ad 9 51) z) (nI_clamp (by omega))).trans ((b9 51 t rfl).trans e51)), trivial⟩ ?_
          refine go_icmp rfl (fun (z : nI n ≤ (nI i)) => absurd z (show ¬ (nI n ≤ (nI i)) from (Int32.not_le.mpr ((nI_lts (a := i) (b := n) (by omega) (by omega)).mpr hi2)))) (fun _ => ?_)
          refine go_blk 9 [some (.ref (ad 9 50)), some (.int (p 50 (7 * t + i)))] (pc' := 34) (vs' := [.ref (ad 10 0), .int (nI c), .int (nI t), .int (nI i)]) (st' := [.int (nI c), .int (p 50 (7 * t + i))]) (M' := mm M f g) (ps := [ob (mm M f g) (ad 10 0) 12, mR (mm M f g) (ad 10 0) 50 = some (ad 9 50), va_rf (some (ad 9 50)) = .ref (ad 9 50), ob (mm M f g) (ad 9 50) 15, vp_in ((7 * (nI t)) + (nI i)) (mN (mm M f g) (ad 9 50)), (Value.int (f (ad 9 50) (((7 * (nI t)) + (nI i)).toNatClampNeg))) = .int (p 50 (7 * t + i))]) rfl ⟨hM.1, (hM.r 50 15 21), rfl, (hM.o 50 15 21), (vp_eq (eq_add (eq_mul (show (7 : Int32) = nI 7 from rfl) rfl) rfl) (vpi (hM.n 50 15 21) (by omega))), congrArg Value.int ((congrArg (fun z => f (ad 9 50) z) (cl_of (eq_add (eq_mul (show (7 : Int32) = nI 7 from rfl) rfl) rfl) (by omega))).trans (b9 50 _ rfl)), trivial⟩ ?_
          refine go_icmp rfl (fun (c21 : ¬ (p 50 (7 * t + i)) = nI c) => ?_) (fun (c21 : ¬ (¬ (p 50 (7 * t + i)) = nI c)) => ?_)
          · -- ¬ (p 50 (7 * t + i)) = nI c
            refine go_blk 2 [] (pc' := 12) (vs' := [.ref (ad 10 0), .int (nI c), .int (nI t), .int ((nI i) + 1)]) (st' := []) (M' := mm M f g) (ps := []) rfl trivial ?_
            rw [show nI i + 1 = nI (i + 1) from nI_add i 1]
            exact ihi (fun i' hi' z => by
              by_cases e : i' = i
              · rw [e] at z; exact c21 z
              · exact hn i' (by omega) z)
          · -- ¬ (¬ (p 50 (7 * t + i)) = nI c)
            refine go_blk 1 [] (pc' := 38) (vs' := [.ref (ad 10 0), .int (nI c), .int (nI t), .int (nI i)]) (st' := [.int (nI t)]) (M' := mm M f g) (ps := []) rfl trivial ?_
            refine go_iret rfl rfl ?_
            rw [inRw_some ht ((hitR_of e51 n7).mpr ⟨i, hi2, Classical.not_not.mp c21⟩) h0] at hR
            exact hR
      show Go d 216 0 0 2 [.ref (ad 10 0), .int (nI c), .int (nI t), u3] [] (mm M f g) R
      refine go_blk 3 [some (.int (nI nt))] (pc' := 7) (vs' := [.ref (ad 10 0), .int (nI c), .int (nI t), u3]) (st' := [.int (nI nt), .int (nI t)]) (M' := mm M f g) (ps := [ob (mm M f g) (ad 10 0) 12, (Value.int (f (ad 10 0) 30)) = .int (nI nt)]) rfl ⟨hM.1, congrArg Value.int b30, trivial⟩ ?_
      refine go_icmp rfl (fun (z : nI nt ≤ (nI t)) => absurd z (show ¬ (nI nt ≤ (nI t)) from (Int32.not_le.mpr ((nI_lts (a := t) (b := nt) (by omega) (by omega)).mpr ht)))) (fun _ => ?_)
      refine go_blk 2 [] (pc' := 12) (vs' := [.ref (ad 10 0), .int (nI c), .int (nI t), .int 0]) (st' := []) (M' := mm M f g) (ps := []) rfl trivial ?_
      exact inner 0 (Nat.zero_le _) (fun i' hi' => absurd hi' (by omega))
  show Go d 216 0 0 0 [.ref (ad 10 0), .int (nI c), .retAddr 0, .retAddr 0] [] (mm M f g) R
  refine go_blk 2 [] (pc' := 2) (vs' := [.ref (ad 10 0), .int (nI c), .int 0, .retAddr 0]) (st' := []) (M' := mm M f g) (ps := []) rfl trivial ?_
  exact outer 0 (Nat.zero_le _) _ (fun t' ht' => absurd ht' (by omega))

