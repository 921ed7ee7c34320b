/-! tick: the class, minute after minute -/
set_option maxHeartbeats 4000000 in
set_option maxRecDepth 100000 in
theorem s_Te_step {d : Nat} {M : Mem} {F f : Nat → Nat → Int32} {g : Nat → Nat → Int64} {ad : Nat → Nat → Nat} {R : Option Value → Mem → Prop} {jb : Nat → Nat} {D : DS} {nt nc wk n t : Nat} {rs : Int32} {lo : Nat → Nat} (hd : 2 ≤ d) (he : EC M ad jb nt nc wk F D rs) (hr : RC ad jb nt nc wk F f D) (hW : DW D nt nc wk rs lo) (ht : t < nt) (hn : n ≤ 1440) (hlo : lo t = n) (h1 : ∀ D', stD D rs wk n t = some D' → ∀ f', RC ad jb nt nc wk F f' D' → R (some (.int 1)) (mm M f' g)) (h0 : stD D rs wk n t = none → R (some (.int 0)) (mm M f g)) : Call d 78 [.ref (ad 3 t), .ref (ad 0 5), .ref (ad 0 16), .int (nI n)] (mm M f g) R := by
  obtain ⟨⟨hi, hF, hT, hnt, hnc, hwk⟩, hjm, hji, hro, hrs⟩ := id he
  obtain ⟨g1, g2, g3⟩ := hW.1 t ht
  obtain ⟨m, m1, m2, m3⟩ := hW.2.1.1 t ht
  have k3 := hr.1 t ht
  rcases g3 with ⟨z1, z2, z3⟩ | ⟨c, c1, c2, c3, c4, c5, c6, c7⟩
  · have est : stD D rs wk n t = if D 51 t = 0 then none else some (goD D rs wk n t (D 50 (7 * t)).toNatClampNeg ((D 51 t).toNatClampNeg - 1)) := by
      unfold stD
      rw [if_neg (by rw [z1]; decide), if_neg (by rw [z1]; decide), if_neg (by rw [z1]; decide)]
    by_cases hm : m = 0
    · have m0 : D 51 t = 0 := by rw [m2, hm]; rfl
      rw [if_pos m0] at est
      show Go d 78 0 0 0 [.ref (ad 3 t), .ref (ad 0 5), .ref (ad 0 16), .int (nI n), .retAddr 0] [] (mm M f g) R
      refine go_blk 2 [some (.int 0)] (pc' := 4) (vs' := [.ref (ad 3 t), .ref (ad 0 5), .ref (ad 0 16), .int (nI n), .retAddr 0]) (st' := [.int 0]) (M' := mm M f g) (ps := [ob (mm M f g) (ad 3 t) 8, (Value.int (f (ad 3 t) 7)) = .int 0]) rfl ⟨(hT t ht).2.1, congrArg Value.int (k3.2.2.2.2.2.1.trans z1), trivial⟩ ?_
      refine go_if rfl (fun (z : ¬ (0 : Int32) = 0) => absurd z (show ¬ (¬ (0 : Int32) = 0) from (by decide))) (fun _ => ?_)
      refine go_blk 2 [some (.int 0)] (pc' := 11) (vs' := [.ref (ad 3 t), .ref (ad 0 5), .ref (ad 0 16), .int (nI n), .retAddr 0]) (st' := [.int 0]) (M' := mm M f g) (ps := [ob (mm M f g) (ad 3 t) 8, (Value.int (f (ad 3 t) 4)) = .int 0]) rfl ⟨(hT t ht).2.1, congrArg Value.int (k3.2.2.1.trans m0), trivial⟩ ?_
      refine go_if rfl (fun _ => ?_) (fun (z : ¬ ((0 : Int32) ≤ 0)) => absurd (show (0 : Int32) ≤ 0 from (by decide)) z)
      refine go_blk 1 [] (pc' := 38) (vs' := [.ref (ad 3 t), .ref (ad 0 5), .ref (ad 0 16), .int (nI n), .retAddr 0]) (st' := [.int 0]) (M' := mm M f g) (ps := []) rfl trivial ?_
      refine go_zret rfl rfl (Or.inl rfl) ?_
      exact h0 est
    · obtain ⟨r, hre⟩ : ∃ r, m = r + 1 := ⟨m - 1, by omega⟩
      subst hre
      have m0 : ¬ D 51 t = 0 := fun z => by rw [m2] at z; have := (nI_eqs (a := r + 1) (b := 0) (by omega) (by omega)).mp z; omega
      obtain ⟨c, c1, c2, c3, c4⟩ := m3 0 (by omega)
      have k50 := (hr.2.1 t 0 (r + 1) ht m2 m1 (by omega)).trans c2
      rw [Nat.add_zero] at c2
      rw [if_neg m0, c2, nI_clamp (by omega), m2, nI_clamp (by omega), show r + 1 - 1 = r by omega] at est
      show Go d 78 0 0 0 [.ref (ad 3 t), .ref (ad 0 5), .ref (ad 0 16), .int (nI n), .retAddr 0] [] (mm M f g) R
      refine go_blk 2 [some (.int 0)] (pc' := 4) (vs' := [.ref (ad 3 t), .ref (ad 0 5), .ref (ad 0 16), .int (nI n), .retAddr 0]) (st' := [.int 0]) (M' := mm M f g) (ps := [ob (mm M f g) (ad 3 t) 8, (Value.int (f (ad 3 t) 7)) = .int 0]) rfl ⟨(hT t ht).2.1, congrArg Value.int (k3.2.2.2.2.2.1.trans z1), trivial⟩ ?_
      refine go_if rfl (fun (z : ¬ (0 : Int32) = 0) => absurd z (show ¬ (¬ (0 : Int32) = 0) from (by decide))) (fun _ => ?_)
      refine go_blk 2 [some (.int (nI (r + 1)))] (pc' := 11) (vs' := [.ref (ad 3 t), .ref (ad 0 5), .ref (ad 0 16), .int (nI n), .retAddr 0]) (st' := [.int (nI (r + 1))]) (M' := mm M f g) (ps := [ob (mm M f g) (ad 3 t) 8, (Value.int (f (ad 3 t) 4)) = .int (nI (r + 1))]) rfl ⟨(hT t ht).2.1, congrArg Value.int (k3.2.2.1.trans m2), trivial⟩ ?_
      refine go_if rfl (fun (z : (nI (r + 1)) ≤ 0) => absurd z (show ¬ ((nI (r + 1)) ≤ 0) from (Int32.not_le.mpr ((nI_lts (a := 0) (b := r + 1) (by omega) (by omega)).mpr (by omega))))) (fun _ => ?_)
      refine go_blk 6 [some (.ref (ad 5 t)), some (.int (nI c))] (pc' := 22) (vs' := [.ref (ad 3 t), .ref (ad 0 5), .ref (ad 0 16), .int (nI n), .retAddr 0]) (st' := [.int (nI c), .ref (ad 0 5), .ref (ad 3 t)]) (M' := mm M f g) (ps := [ob (mm M f g) (ad 3 t) 8, mR (mm M f g) (ad 3 t) 3 = some (ad 5 t), va_rf (some (ad 5 t)) = .ref (ad 5 t), ob (mm M f g) (ad 5 t) 15, vp_in 0 (mN (mm M f g) (ad 5 t)), (Value.int (f (ad 5 t) ((0 : Int32).toNatClampNeg))) = .int (nI c)]) rfl ⟨(hT t ht).2.1, (hT t ht).2.2.2.1, rfl, (hT t ht).2.2.2.2.1, (show vp_in (nI 0) _ from vpi (hT t ht).2.2.2.2.2 (by omega)), congrArg Value.int ((congrArg (fun z => f (ad 5 t) z) (cl_of (show (0 : Int32) = nI 0 from rfl) (by omega))).trans k50), trivial⟩ ?_
      refine go_callS rfl (by decide) rfl rfl (by omega) rfl (by decide) (by decide) ?_
      show Go (d - 1) 79 0 0 0 [.ref (ad 0 5), .int (nI c)] [] (mm M f g) _
      refine go_blk 1 [] (pc' := 1) (vs' := [.ref (ad 0 5), .int (nI c)]) (st' := [.int (nI c)]) (M' := mm M f g) (ps := []) rfl trivial ?_
      refine go_if rfl (fun (z : (nI c) < 0) => absurd z (show ¬ ((nI c) < 0) from (nI_nlt0 (by omega)))) (fun _ => ?_)
      refine go_blk 3 [] (pc' := 7) (vs' := [.ref (ad 0 5), .int (nI c)]) (st' := [.int (nI (mN (mm M f g) (ad 0 5))), .int (nI c)]) (M' := mm M f g) (ps := [ob (mm M f g) (ad 0 5) 19, 13 ≤ 19 ∧ 19 < 22]) rfl ⟨(hF.o 5), (by decide), trivial⟩ ?_
      refine go_icmp rfl (fun (z : nI (mN (mm M f g) (ad 0 5)) ≤ (nI c)) => absurd z (show ¬ (nI (mN (mm M f g) (ad 0 5)) ≤ (nI c)) from (by rw [show mN (mm M f g) (ad 0 5) = 7 from hF.n 5]; exact Int32.not_le.mpr ((nI_lts (a := c) (b := 7) (by omega) (by omega)).mpr (by omega))))) (fun _ => ?_)
      refine go_blk 4 [some (.ref (ad 6 (jb c)))] (pc' := 17) (vs' := [.ref (ad 0 5), .int (nI c)]) (st' := [.ref (ad 6 (jb c))]) (M' := mm M f g) (ps := [ob (mm M f g) (ad 0 5) 19, 17 ≤ 19 ∧ 19 < 22, vp_in (nI c) (mN (mm M f g) (ad 0 5)), mR (mm M f g) (ad 0 5) ((nI c).toNatClampNeg) = some (ad 6 (jb c)), va_rf (some (ad 6 (jb c))) = .ref (ad 6 (jb c))]) rfl ⟨(hF.o 5), (by decide), (vpi (hF.n 5) (show c < 7 by omega)), (cl_rf rfl (by omega) (he.2.1 c c1 c3).1), rfl, trivial⟩ ?_
      refine go_aret (q := some (ad 6 (jb c))) rfl ⟨_, rfl⟩ ?_
      refine ⟨ne_a, ?_⟩
      show Go d 78 0 0 25 [.ref (ad 3 t), .ref (ad 0 5), .ref (ad 0 16), .int (nI n), .retAddr 0] [.ref (ad 6 (jb c)), .ref (ad 3 t)] (mm M f g) R
      refine go_blk 2 [] (pc' := 27) (vs' := [.ref (ad 3 t), .ref (ad 0 5), .ref (ad 0 16), .int (nI n), .retAddr 0]) (st' := [.int (nI n), .ref (ad 0 16), .ref (ad 6 (jb c)), .ref (ad 3 t)]) (M' := mm M f g) (ps := []) rfl trivial ?_
      refine go_callV rfl rfl rfl (by omega) rfl (by decide) (by decide) (hT t ht).2.1 ?_
      refine s_Te_go (by omega) he hr hW ht hn c1 c2 c3 m2 (by omega) (fun f' hr' => ⟨ne_i, ?_⟩)
      · -- ('i', '1')
        show Go d 78 0 0 30 [.ref (ad 3 t), .ref (ad 0 5), .ref (ad 0 16), .int (nI n), .retAddr 0] [.int 1] (mm M f' g) R
        refine go_if rfl (fun (z : (1 : Int32) = 0) => absurd z (show ¬ ((1 : Int32) = 0) from (by decide))) (fun _ => ?_)
        refine go_blk 2 [] (pc' := 38) (vs' := [.ref (ad 3 t), .ref (ad 0 5), .ref (ad 0 16), .int (nI n), .retAddr 0]) (st' := [.int 1]) (M' := mm M f' g) (ps := []) rfl trivial ?_
        refine go_zret rfl rfl (Or.inr rfl) ?_
        exact h1 _ est f' hr'
  · have hcl : (D 45 t).toNatClampNeg = c := by rw [c2, nI_clamp (by omega)]
    have k6 := hr.2.2.1 c c1 c3
    rcases c7 with ⟨a1, a2, k, k1, k2, k3'⟩ | ⟨a1, a2, a3⟩ | ⟨a1, a2, k, k1, k2, k3'⟩
    ·
      show Go d 78 0 0 0 [.ref (ad 3 t), .ref (ad 0 5), .ref (ad 0 16), .int (nI n), .retAddr 0] [] (mm M f g) R
      refine go_blk 2 [some (.int 1)] (pc' := 4) (vs' := [.ref (ad 3 t), .ref (ad 0 5), .ref (ad 0 16), .int (nI n), .retAddr 0]) (st' := [.int 1]) (M' := mm M f g) (ps := [ob (mm M f g) (ad 3 t) 8, (Value.int (f (ad 3 t) 7)) = .int 1]) rfl ⟨(hT t ht).2.1, congrArg Value.int (k3.2.2.2.2.2.1.trans a1), trivial⟩ ?_
      refine go_if rfl (fun _ => ?_) (fun (z : ¬ (¬ (1 : Int32) = 0)) => absurd (show ¬ (1 : Int32) = 0 from (by decide)) z)
      refine go_blk 3 [some (.int (nI c))] (pc' := 44) (vs' := [.ref (ad 3 t), .ref (ad 0 5), .ref (ad 0 16), .int (nI n), .retAddr 0]) (st' := [.int (nI c), .ref (ad 0 5)]) (M' := mm M f g) (ps := [ob (mm M f g) (ad 3 t) 8, (Value.int (f (ad 3 t) 8)) = .int (nI c)]) rfl ⟨(hT t ht).2.1, congrArg Value.int (k3.2.2.2.2.2.2.1.trans c2), trivial⟩ ?_
      refine go_callS rfl (by decide) rfl rfl (by omega) rfl (by decide) (by decide) ?_
      show Go (d - 1) 79 0 0 0 [.ref (ad 0 5), .int (nI c)] [] (mm M f g) _
      refine go_blk 1 [] (pc' := 1) (vs' := [.ref (ad 0 5), .int (nI c)]) (st' := [.int (nI c)]) (M' := mm M f g) (ps := []) rfl trivial ?_
      refine go_if rfl (fun (z : (nI c) < 0) => absurd z (show ¬ ((nI c) < 0) from (nI_nlt0 (by omega)))) (fun _ => ?_)
      refine go_blk 3 [] (pc' := 7) (vs' := [.ref (ad 0 5), .int (nI c)]) (st' := [.int (nI (mN (mm M f g) (ad 0 5))), .int (nI c)]) (M' := mm M f g) (ps := [ob (mm M f g) (ad 0 5) 19, 13 ≤ 19 ∧ 19 < 22]) rfl ⟨(hF.o 5), (by decide), trivial⟩ ?_
      refine go_icmp rfl (fun (z : nI (mN (mm M f g) (ad 0 5)) ≤ (nI c)) => absurd z (show ¬ (nI (mN (mm M f g) (ad 0 5)) ≤ (nI c)) from (by rw [show mN (mm M f g) (ad 0 5) = 7 from hF.n 5]; exact Int32.not_le.mpr ((nI_lts (a := c) (b := 7) (by omega) (by omega)).mpr (by omega))))) (fun _ => ?_)
      refine go_blk 4 [some (.ref (ad 6 (jb c)))] (pc' := 17) (vs' := [.ref (ad 0 5), .int (nI c)]) (st' := [.ref (ad 6 (jb c))]) (M' := mm M f g) (ps := [ob (mm M f g) (ad 0 5) 19, 17 ≤ 19 ∧ 19 < 22, vp_in (nI c) (mN (mm M f g) (ad 0 5)), mR (mm M f g) (ad 0 5) ((nI c).toNatClampNeg) = some (ad 6 (jb c)), va_rf (some (ad 6 (jb c))) = .ref (ad 6 (jb c))]) rfl ⟨(hF.o 5), (by decide), (vpi (hF.n 5) (show c < 7 by omega)), (cl_rf rfl (by omega) (he.2.1 c c1 c3).1), rfl, trivial⟩ ?_
      refine go_aret (q := some (ad 6 (jb c))) rfl ⟨_, rfl⟩ ?_
      refine ⟨ne_a, ?_⟩
      show Go d 78 0 0 47 [.ref (ad 3 t), .ref (ad 0 5), .ref (ad 0 16), .int (nI n), .retAddr 0] [.ref (ad 6 (jb c))] (mm M f g) R
      refine go_blk 2 [] (pc' := 51) (vs' := [.ref (ad 3 t), .ref (ad 0 5), .ref (ad 0 16), .int (nI n), .ref (ad 6 (jb c))]) (st' := [.ref (ad 6 (jb c))]) (M' := mm M f g) (ps := []) rfl trivial ?_
      refine go_ifnon1 rfl ?_
      refine go_blk 3 [some (.int 1)] (pc' := 61) (vs' := [.ref (ad 3 t), .ref (ad 0 5), .ref (ad 0 16), .int (nI n), .ref (ad 6 (jb c))]) (st' := [.int 2, .int 1]) (M' := mm M f g) (ps := [ob (mm M f g) (ad 3 t) 8, (Value.int (f (ad 3 t) 7)) = .int 1]) rfl ⟨(hT t ht).2.1, congrArg Value.int (k3.2.2.2.2.2.1.trans a1), trivial⟩ ?_
      refine go_icmp rfl (fun _ => ?_) (fun (z : ¬ (¬ (1 : Int32) = 2)) => absurd (show ¬ (1 : Int32) = 2 from (by decide)) z)
      refine go_blk 3 [some (.int (nI k))] (pc' := 94) (vs' := [.ref (ad 3 t), .ref (ad 0 5), .ref (ad 0 16), .int (nI n), .ref (ad 6 (jb c))]) (st' := [.int (nI n), .int (nI k)]) (M' := mm M f g) (ps := [ob (mm M f g) (ad 3 t) 8, (Value.int (f (ad 3 t) 9)) = .int (nI k)]) rfl ⟨(hT t ht).2.1, congrArg Value.int (k3.2.2.2.2.2.2.2.1.trans k3'), trivial⟩ ?_
      refine go_icmp rfl (fun (c21 : (nI k) ≤ nI n) => ?_) (fun (c21 : ¬ ((nI k) ≤ nI n)) => ?_)
      · -- (nI k) ≤ nI n
        have nc21 : k ≤ n := (nI_les (a := k) (b := n) (by omega) (by omega)).mp c21
        refine go_blk 3 [some (.int 1)] (pc' := 104) (vs' := [.ref (ad 3 t), .ref (ad 0 5), .ref (ad 0 16), .int (nI n), .ref (ad 6 (jb c))]) (st' := [.int 1, .int 1]) (M' := mm M f g) (ps := [ob (mm M f g) (ad 3 t) 8, (Value.int (f (ad 3 t) 7)) = .int 1]) rfl ⟨(hT t ht).2.1, congrArg Value.int (k3.2.2.2.2.2.1.trans a1), trivial⟩ ?_
        refine go_icmp rfl (fun (z : ¬ (1 : Int32) = 1) => absurd z (show ¬ (¬ (1 : Int32) = 1) from (by decide))) (fun _ => ?_)
        refine go_blk 8 [] (pc' := 131) (vs' := [.ref (ad 3 t), .ref (ad 0 5), .ref (ad 0 16), .int (nI n), .ref (ad 6 (jb c))]) (st' := [.int 1]) (M' := mm M (up2 (up2 f (ad 3 t) 7 2) (ad 3 t) 9 (-1)) g) (ps := [ob (mm M f g) (ad 3 t) 8, ob (mm M (up2 f (ad 3 t) 7 2) g) (ad 3 t) 8]) rfl ⟨(hT t ht).2.1, (hT t ht).2.1, trivial⟩ ?_
        refine go_zret rfl rfl (Or.inr rfl) ?_
        have j32 := hji
        have r1 := RC.updT (k := 7) (i := 44) (v := 2) hi hr ht (by decide)
        have r2 := RC.updT (k := 9) (i := 46) (v := (-1)) hi r1 ht (by decide)
        have hkn : D 46 t = nI n := by
          rw [k3']
          have := (nI_les (a := k) (b := n) (by omega) (by omega)).mp c21
          rw [show k = n by omega]
        refine h1 _ (by unfold stD; rw [if_pos a1]; exact if_pos hkn) _ (RC.eq r2 (fun i k => ?_))
        clear h1 h0 hr he hW r1 r2 hro hT hF hjm hji j32
        simp only [up2] <;> grind
      · -- ¬ ((nI k) ≤ nI n)
        have nc21 : n < k := (nI_lts (a := n) (b := k) (by omega) (by omega)).mp (Int32.not_le.mp c21)
        refine go_blk 1 [] (pc' := 98) (vs' := [.ref (ad 3 t), .ref (ad 0 5), .ref (ad 0 16), .int (nI n), .ref (ad 6 (jb c))]) (st' := [.int 0]) (M' := mm M f g) (ps := []) rfl trivial ?_
        refine go_zret rfl rfl (Or.inl rfl) ?_
        refine h0 ?_
        unfold stD
        rw [if_pos a1]
        refine if_neg (fun z => ?_)
        rw [k3'] at z
        have q := c21
        have e := (nI_eqs (a := k) (b := n) (by omega) (by omega)).mp z
        subst e
        exact absurd (Int32.le_refl _) q
    ·
      show Go d 78 0 0 0 [.ref (ad 3 t), .ref (ad 0 5), .ref (ad 0 16), .int (nI n), .retAddr 0] [] (mm M f g) R
      refine go_blk 2 [some (.int 2)] (pc' := 4) (vs' := [.ref (ad 3 t), .ref (ad 0 5), .ref (ad 0 16), .int (nI n), .retAddr 0]) (st' := [.int 2]) (M' := mm M f g) (ps := [ob (mm M f g) (ad 3 t) 8, (Value.int (f (ad 3 t) 7)) = .int 2]) rfl ⟨(hT t ht).2.1, congrArg Value.int (k3.2.2.2.2.2.1.trans a1), trivial⟩ ?_
      refine go_if rfl (fun _ => ?_) (fun (z : ¬ (¬ (2 : Int32) = 0)) => absurd (show ¬ (2 : Int32) = 0 from (by decide)) z)
      refine go_blk 3 [some (.int (nI c))] (pc' := 44) (vs' := [.ref (ad 3 t), .ref (ad 0 5), .ref (ad 0 16), .int (nI n), .retAddr 0]) (st' := [.int (nI c), .ref (ad 0 5)]) (M' := mm M f g) (ps := [ob (mm M f g) (ad 3 t) 8, (Value.int (f (ad 3 t) 8)) = .int (nI c)]) rfl ⟨(hT t ht).2.1, congrArg Value.int (k3.2.2.2.2.2.2.1.trans c2), trivial⟩ ?_
      refine go_callS rfl (by decide) rfl rfl (by omega) rfl (by decide) (by decide) ?_
      show Go (d - 1) 79 0 0 0 [.ref (ad 0 5), .int (nI c)] [] (mm M f g) _
      refine go_blk 1 [] (pc' := 1) (vs' := [.ref (ad 0 5), .int (nI c)]) (st' := [.int (nI c)]) (M' := mm M f g) (ps := []) rfl trivial ?_
      refine go_if rfl (fun (z : (nI c) < 0) => absurd z (show ¬ ((nI c) < 0) from (nI_nlt0 (by omega)))) (fun _ => ?_)
      refine go_blk 3 [] (pc' := 7) (vs' := [.ref (ad 0 5), .int (nI c)]) (st' := [.int (nI (mN (mm M f g) (ad 0 5))), .int (nI c)]) (M' := mm M f g) (ps := [ob (mm M f g) (ad 0 5) 19, 13 ≤ 19 ∧ 19 < 22]) rfl ⟨(hF.o 5), (by decide), trivial⟩ ?_
      refine go_icmp rfl (fun (z : nI (mN (mm M f g) (ad 0 5)) ≤ (nI c)) => absurd z (show ¬ (nI (mN (mm M f g) (ad 0 5)) ≤ (nI c)) from (by rw [show mN (mm M f g) (ad 0 5) = 7 from hF.n 5]; exact Int32.not_le.mpr ((nI_lts (a := c) (b := 7) (by omega) (by omega)).mpr (by omega))))) (fun _ => ?_)
      refine go_blk 4 [some (.ref (ad 6 (jb c)))] (pc' := 17) (vs' := [.ref (ad 0 5), .int (nI c)]) (st' := [.ref (ad 6 (jb c))]) (M' := mm M f g) (ps := [ob (mm M f g) (ad 0 5) 19, 17 ≤ 19 ∧ 19 < 22, vp_in (nI c) (mN (mm M f g) (ad 0 5)), mR (mm M f g) (ad 0 5) ((nI c).toNatClampNeg) = some (ad 6 (jb c)), va_rf (some (ad 6 (jb c))) = .ref (ad 6 (jb c))]) rfl ⟨(hF.o 5), (by decide), (vpi (hF.n 5) (show c < 7 by omega)), (cl_rf rfl (by omega) (he.2.1 c c1 c3).1), rfl, trivial⟩ ?_
      refine go_aret (q := some (ad 6 (jb c))) rfl ⟨_, rfl⟩ ?_
      refine ⟨ne_a, ?_⟩
      show Go d 78 0 0 47 [.ref (ad 3 t), .ref (ad 0 5), .ref (ad 0 16), .int (nI n), .retAddr 0] [.ref (ad 6 (jb c))] (mm M f g) R
      refine go_blk 2 [] (pc' := 51) (vs' := [.ref (ad 3 t), .ref (ad 0 5), .ref (ad 0 16), .int (nI n), .ref (ad 6 (jb c))]) (st' := [.ref (ad 6 (jb c))]) (M' := mm M f g) (ps := []) rfl trivial ?_
      refine go_ifnon1 rfl ?_
      refine go_blk 3 [some (.int 2)] (pc' := 61) (vs' := [.ref (ad 3 t), .ref (ad 0 5), .ref (ad 0 16), .int (nI n), .ref (ad 6 (jb c))]) (st' := [.int 2, .int 2]) (M' := mm M f g) (ps := [ob (mm M f g) (ad 3 t) 8, (Value.int (f (ad 3 t) 7)) = .int 2]) rfl ⟨(hT t ht).2.1, congrArg Value.int (k3.2.2.2.2.2.1.trans a1), trivial⟩ ?_
      refine go_icmp rfl (fun (z : ¬ (2 : Int32) = 2) => absurd z (show ¬ (¬ (2 : Int32) = 2) from (by decide))) (fun _ => ?_)
      refine go_blk 3 [some (.int (D 33 (7 * wk + c)))] (pc' := 70) (vs' := [.ref (ad 3 t), .ref (ad 0 5), .ref (ad 0 16), .int (nI n), .ref (ad 6 (jb c))]) (st' := [.int (nI n), .int (D 33 (7 * wk + c))]) (M' := mm M f g) (ps := [ob (mm M f g) (ad 6 (jb c)) 3, (Value.int (f (ad 6 (jb c)) 5)) = .int (D 33 (7 * wk + c))]) rfl ⟨(he.2.1 c c1 c3).2, congrArg Value.int k6.2.2.2.1, trivial⟩ ?_
      refine go_icmp rfl (fun (c21 : nI n < (D 33 (7 * wk + c))) => ?_) (fun (c21 : ¬ (nI n < (D 33 (7 * wk + c)))) => ?_)
      · -- nI n < (D 33 (7 * wk + c))
        refine go_blk 1 [] (pc' := 88) (vs' := [.ref (ad 3 t), .ref (ad 0 5), .ref (ad 0 16), .int (nI n), .ref (ad 6 (jb c))]) (st' := [.int 0]) (M' := mm M f g) (ps := []) rfl trivial ?_
        refine go_zret rfl rfl (Or.inl rfl) ?_
        refine h0 ?_
        unfold stD
        rw [if_neg (by rw [a1]; decide), if_pos a1, hcl]
        exact if_neg (by first | assumption | exact Int32.not_le.mpr (by assumption))
      · -- ¬ (nI n < (D 33 (7 * wk + c)))
        refine go_blk 3 [] (pc' := 77) (vs' := [.ref (ad 3 t), .ref (ad 0 5), .ref (ad 0 16), .int (nI n), .ref (ad 6 (jb c))]) (st' := [.int (nI n), .ref (ad 6 (jb c)), .ref (ad 3 t)]) (M' := mm M f g) (ps := []) rfl trivial ?_
        refine go_callV rfl rfl rfl (by omega) rfl (by decide) (by decide) (hT t ht).2.1 ?_
        show Go (d - 1) 80 0 0 0 [.ref (ad 3 t), .ref (ad 6 (jb c)), .int (nI n)] [] (mm M f g) _
        refine go_blk 13 [some (.int (D 35 (7 * wk + c)))] (pc' := 21) (vs' := [.ref (ad 3 t), .ref (ad 6 (jb c)), .int (nI n)]) (st' := [.int 1]) (M' := mm M (up2 (up2 (up2 f (ad 3 t) 7 3) (ad 3 t) 9 ((nI n) + (D 35 (7 * wk + c)))) (ad 6 (jb c)) 7 (nI n)) g) (ps := [ob (mm M f g) (ad 3 t) 8, ob (mm M (up2 f (ad 3 t) 7 3) g) (ad 6 (jb c)) 3, (Value.int ((up2 f (ad 3 t) 7 3) (ad 6 (jb c)) 6)) = .int (D 35 (7 * wk + c)), ob (mm M (up2 f (ad 3 t) 7 3) g) (ad 3 t) 8, ob (mm M (up2 (up2 f (ad 3 t) 7 3) (ad 3 t) 9 ((nI n) + (D 35 (7 * wk + c)))) g) (ad 6 (jb c)) 3]) rfl ⟨(hT t ht).2.1, (he.2.1 c c1 c3).2, congrArg Value.int (((up2_n _ _ (fun z => absurd (hi _ _ _ _ z.1).1 (by decide))).trans (rfl)).trans k6.2.2.2.2.1), (hT t ht).2.1, (he.2.1 c c1 c3).2, trivial⟩ ?_
        refine go_zret rfl rfl (Or.inr rfl) ?_
        refine ⟨ne_i, ?_⟩
        show Go d 78 0 0 80 [.ref (ad 3 t), .ref (ad 0 5), .ref (ad 0 16), .int (nI n), .ref (ad 6 (jb c))] [.int 1] (mm M (up2 (up2 (up2 f (ad 3 t) 7 3) (ad 3 t) 9 ((nI n) + (D 35 (7 * wk + c)))) (ad 6 (jb c)) 7 (nI n)) g) R
        refine go_if rfl (fun (z : (1 : Int32) = 0) => absurd z (show ¬ ((1 : Int32) = 0) from (by decide))) (fun _ => ?_)
        refine go_blk 2 [] (pc' := 88) (vs' := [.ref (ad 3 t), .ref (ad 0 5), .ref (ad 0 16), .int (nI n), .ref (ad 6 (jb c))]) (st' := [.int 1]) (M' := mm M (up2 (up2 (up2 f (ad 3 t) 7 3) (ad 3 t) 9 ((nI n) + (D 35 (7 * wk + c)))) (ad 6 (jb c)) 7 (nI n)) g) (ps := []) rfl trivial ?_
        refine go_zret rfl rfl (Or.inr rfl) ?_
        have j32 := hji
        have r1 := RC.updT (k := 7) (i := 44) (v := 3) hi hr ht (by decide)
        have r2 := RC.updT (k := 9) (i := 46) (v := (nI n) + (D 35 (7 * wk + c))) hi r1 ht (by decide)
        have r3 := RC.updJ (k := 7) (i := 37) (c := c) (v := nI n) hi r2 (by simpa [up2] using j32) c1 (by simpa [up2] using c3) (by decide)
        refine h1 _ (by unfold stD; rw [if_neg (by rw [a1]; decide), if_pos a1, hcl]; exact if_pos (by first | assumption | exact Int32.not_lt.mp (by assumption))) _ (RC.eq r3 (fun i k => ?_))
        clear h1 h0 hr he hW r1 r2 r3 hro hT hF hjm hji j32
        simp only [up2] <;> grind
    ·
      show Go d 78 0 0 0 [.ref (ad 3 t), .ref (ad 0 5), .ref (ad 0 16), .int (nI n), .retAddr 0] [] (mm M f g) R
      refine go_blk 2 [some (.int 3)] (pc' := 4) (vs' := [.ref (ad 3 t), .ref (ad 0 5), .ref (ad 0 16), .int (nI n), .retAddr 0]) (st' := [.int 3]) (M' := mm M f g) (ps := [ob (mm M f g) (ad 3 t) 8, (Value.int (f (ad 3 t) 7)) = .int 3]) rfl ⟨(hT t ht).2.1, congrArg Value.int (k3.2.2.2.2.2.1.trans a1), trivial⟩ ?_
      refine go_if rfl (fun _ => ?_) (fun (z : ¬ (¬ (3 : Int32) = 0)) => absurd (show ¬ (3 : Int32) = 0 from (by decide)) z)
      refine go_blk 3 [some (.int (nI c))] (pc' := 44) (vs' := [.ref (ad 3 t), .ref (ad 0 5), .ref (ad 0 16), .int (nI n), .retAddr 0]) (st' := [.int (nI c), .ref (ad 0 5)]) (M' := mm M f g) (ps := [ob (mm M f g) (ad 3 t) 8, (Value.int (f (ad 3 t) 8)) = .int (nI c)]) rfl ⟨(hT t ht).2.1, congrArg Value.int (k3.2.2.2.2.2.2.1.trans c2), trivial⟩ ?_
      refine go_callS rfl (by decide) rfl rfl (by omega) rfl (by decide) (by decide) ?_
      show Go (d - 1) 79 0 0 0 [.ref (ad 0 5), .int (nI c)] [] (mm M f g) _
      refine go_blk 1 [] (pc' := 1) (vs' := [.ref (ad 0 5), .int (nI c)]) (st' := [.int (nI c)]) (M' := mm M f g) (ps := []) rfl trivial ?_
      refine go_if rfl (fun (z : (nI c) < 0) => absurd z (show ¬ ((nI c) < 0) from (nI_nlt0 (by omega)))) (fun _ => ?_)
      refine go_blk 3 [] (pc' := 7) (vs' := [.ref (ad 0 5), .int (nI c)]) (st' := [.int (nI (mN (mm M f g) (ad 0 5))), .int (nI c)]) (M' := mm M f g) (ps := [ob (mm M f g) (ad 0 5) 19, 13 ≤ 19 ∧ 19 < 22]) rfl ⟨(hF.o 5), (by decide), trivial⟩ ?_
      refine go_icmp rfl (fun (z : nI (mN (mm M f g) (ad 0 5)) ≤ (nI c)) => absurd z (show ¬ (nI (mN (mm M f g) (ad 0 5)) ≤ (nI c)) from (by rw [show mN (mm M f g) (ad 0 5) = 7 from hF.n 5]; exact Int32.not_le.mpr ((nI_lts (a := c) (b := 7) (by omega) (by omega)).mpr (by omega))))) (fun _ => ?_)
      refine go_blk 4 [some (.ref (ad 6 (jb c)))] (pc' := 17) (vs' := [.ref (ad 0 5), .int (nI c)]) (st' := [.ref (ad 6 (jb c))]) (M' := mm M f g) (ps := [ob (mm M f g) (ad 0 5) 19, 17 ≤ 19 ∧ 19 < 22, vp_in (nI c) (mN (mm M f g) (ad 0 5)), mR (mm M f g) (ad 0 5) ((nI c).toNatClampNeg) = some (ad 6 (jb c)), va_rf (some (ad 6 (jb c))) = .ref (ad 6 (jb c))]) rfl ⟨(hF.o 5), (by decide), (vpi (hF.n 5) (show c < 7 by omega)), (cl_rf rfl (by omega) (he.2.1 c c1 c3).1), rfl, trivial⟩ ?_
      refine go_aret (q := some (ad 6 (jb c))) rfl ⟨_, rfl⟩ ?_
      refine ⟨ne_a, ?_⟩
      show Go d 78 0 0 47 [.ref (ad 3 t), .ref (ad 0 5), .ref (ad 0 16), .int (nI n), .retAddr 0] [.ref (ad 6 (jb c))] (mm M f g) R
      refine go_blk 2 [] (pc' := 51) (vs' := [.ref (ad 3 t), .ref (ad 0 5), .ref (ad 0 16), .int (nI n), .ref (ad 6 (jb c))]) (st' := [.ref (ad 6 (jb c))]) (M' := mm M f g) (ps := []) rfl trivial ?_
      refine go_ifnon1 rfl ?_
      refine go_blk 3 [some (.int 3)] (pc' := 61) (vs' := [.ref (ad 3 t), .ref (ad 0 5), .ref (ad 0 16), .int (nI n), .ref (ad 6 (jb c))]) (st' := [.int 2, .int 3]) (M' := mm M f g) (ps := [ob (mm M f g) (ad 3 t) 8, (Value.int (f (ad 3 t) 7)) = .int 3]) rfl ⟨(hT t ht).2.1, congrArg Value.int (k3.2.2.2.2.2.1.trans a1), trivial⟩ ?_
      refine go_icmp rfl (fun _ => ?_) (fun (z : ¬ (¬ (3 : Int32) = 2)) => absurd (show ¬ (3 : Int32) = 2 from (by decide)) z)
      refine go_blk 3 [some (.int (nI k))] (pc' := 94) (vs' := [.ref (ad 3 t), .ref (ad 0 5), .ref (ad 0 16), .int (nI n), .ref (ad 6 (jb c))]) (st' := [.int (nI n), .int (nI k)]) (M' := mm M f g) (ps := [ob (mm M f g) (ad 3 t) 8, (Value.int (f (ad 3 t) 9)) = .int (nI k)]) rfl ⟨(hT t ht).2.1, congrArg Value.int (k3.2.2.2.2.2.2.2.1.trans k3'), trivial⟩ ?_
      refine go_icmp rfl (fun (c21 : (nI k) ≤ nI n) => ?_) (fun (c21 : ¬ ((nI k) ≤ nI n)) => ?_)
      · -- (nI k) ≤ nI n
        have nc21 : k ≤ n := (nI_les (a := k) (b := n) (by omega) (by omega)).mp c21
        refine go_blk 3 [some (.int 3)] (pc' := 104) (vs' := [.ref (ad 3 t), .ref (ad 0 5), .ref (ad 0 16), .int (nI n), .ref (ad 6 (jb c))]) (st' := [.int 1, .int 3]) (M' := mm M f g) (ps := [ob (mm M f g) (ad 3 t) 8, (Value.int (f (ad 3 t) 7)) = .int 3]) rfl ⟨(hT t ht).2.1, congrArg Value.int (k3.2.2.2.2.2.1.trans a1), trivial⟩ ?_
        refine go_icmp rfl (fun _ => ?_) (fun (z : ¬ (¬ (3 : Int32) = 1)) => absurd (show ¬ (3 : Int32) = 1 from (by decide)) z)
        refine go_blk 4 [] (pc' := 127) (vs' := [.ref (ad 3 t), .ref (ad 0 5), .ref (ad 0 16), .int (nI n), .ref (ad 6 (jb c))]) (st' := [.ref (ad 3 t)]) (M' := mm M (up2 f (ad 6 (jb c)) 8 (nI n)) g) (ps := [ob (mm M f g) (ad 6 (jb c)) 3]) rfl ⟨(he.2.1 c c1 c3).2, trivial⟩ ?_
        refine go_callV rfl rfl rfl (by omega) rfl (by decide) (by decide) (hT t ht).2.1 ?_
        show Go (d - 1) 72 0 0 0 [.ref (ad 3 t)] [] (mm M (up2 f (ad 6 (jb c)) 8 (nI n)) g) _
        refine go_blk 9 [] (pc' := 15) (vs' := [.ref (ad 3 t)]) (st' := []) (M' := mm M (up2 (up2 (up2 (up2 f (ad 6 (jb c)) 8 (nI n)) (ad 3 t) 7 0) (ad 3 t) 8 (-1)) (ad 3 t) 9 (-1)) g) (ps := [ob (mm M (up2 f (ad 6 (jb c)) 8 (nI n)) g) (ad 3 t) 8, ob (mm M (up2 (up2 f (ad 6 (jb c)) 8 (nI n)) (ad 3 t) 7 0) g) (ad 3 t) 8, ob (mm M (up2 (up2 (up2 f (ad 6 (jb c)) 8 (nI n)) (ad 3 t) 7 0) (ad 3 t) 8 (-1)) g) (ad 3 t) 8]) rfl ⟨(hT t ht).2.1, (hT t ht).2.1, (hT t ht).2.1, trivial⟩ ?_
        refine go_vret rfl rfl ?_
        refine ⟨ne_v, ?_⟩
        show Go d 78 0 0 130 [.ref (ad 3 t), .ref (ad 0 5), .ref (ad 0 16), .int (nI n), .ref (ad 6 (jb c))] [] (mm M (up2 (up2 (up2 (up2 f (ad 6 (jb c)) 8 (nI n)) (ad 3 t) 7 0) (ad 3 t) 8 (-1)) (ad 3 t) 9 (-1)) g) R
        refine go_blk 1 [] (pc' := 131) (vs' := [.ref (ad 3 t), .ref (ad 0 5), .ref (ad 0 16), .int (nI n), .ref (ad 6 (jb c))]) (st' := [.int 1]) (M' := mm M (up2 (up2 (up2 (up2 f (ad 6 (jb c)) 8 (nI n)) (ad 3 t) 7 0) (ad 3 t) 8 (-1)) (ad 3 t) 9 (-1)) g) (ps := []) rfl trivial ?_
        refine go_zret rfl rfl (Or.inr rfl) ?_
        have j32 := hji
        have r1 := RC.updJ (k := 8) (i := 38) (c := c) (v := nI n) hi hr (by simpa [up2] using j32) c1 (by simpa [up2] using c3) (by decide)
        have r2 := RC.updT (k := 7) (i := 44) (v := 0) hi r1 ht (by decide)
        have r3 := RC.updT (k := 8) (i := 45) (v := (-1)) hi r2 ht (by decide)
        have r4 := RC.updT (k := 9) (i := 46) (v := (-1)) hi r3 ht (by decide)
        have hkn : D 46 t = nI n := by
          rw [k3']
          have := (nI_les (a := k) (b := n) (by omega) (by omega)).mp c21
          rw [show k = n by omega]
        refine h1 _ (by unfold stD; rw [if_neg (by rw [a1]; decide), if_neg (by rw [a1]; decide), if_pos a1, hcl]; exact if_pos hkn) _ (RC.eq r4 (fun i k => ?_))
        clear h1 h0 hr he hW r1 r2 r3 r4 hro hT hF hjm hji j32
        simp only [up2] <;> grind
      · -- ¬ ((nI k) ≤ nI n)
        have nc21 : n < k := (nI_lts (a := n) (b := k) (by omega) (by omega)).mp (Int32.not_le.mp c21)
        refine go_blk 1 [] (pc' := 98) (vs' := [.ref (ad 3 t), .ref (ad 0 5), .ref (ad 0 16), .int (nI n), .ref (ad 6 (jb c))]) (st' := [.int 0]) (M' := mm M f g) (ps := []) rfl trivial ?_
        refine go_zret rfl rfl (Or.inl rfl) ?_
        refine h0 ?_
        unfold stD
        rw [if_neg (by rw [a1]; decide), if_neg (by rw [a1]; decide), if_pos a1, hcl]
        refine if_neg (fun z => ?_)
        rw [k3'] at z
        have q := c21
        have e := (nI_eqs (a := k) (b := n) (by omega) (by omega)).mp z
        subst e
        exact absurd (Int32.le_refl _) q

