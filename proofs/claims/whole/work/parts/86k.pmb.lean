/-! the class's planner: costInHaste -/
theorem sOK.le {k m : Nat} {s : Nat × Nat × Nat} (h : sOK k s) (hm : k ≤ m) : sOK m s := ⟨by have := h.1; omega, h.2⟩
/-- rows that were begun: together nodup, below T -/
def UK (nt T i : Nat) (ξ : Nat → List Nat) : Prop := ((List.range nt).flatMap ξ).Nodup ∧ (∀ k ∈ (List.range nt).flatMap ξ, k < T) ∧ ((List.range nt).flatMap ξ).length = i
theorem UK.row {nt T i t : Nat} {ξ : Nat → List Nat} (h : UK nt T i ξ) (ht : t < nt) : (ξ t).Nodup ∧ ∀ k ∈ ξ t, k < T :=
  ⟨(List.pairwise_flatMap.mp h.1).1 t (List.mem_range.mpr ht), fun k hk => h.2.1 k (List.mem_flatMap.mpr ⟨t, List.mem_range.mpr ht, hk⟩)⟩
theorem UK.add {nt T i t k : Nat} {ξ : Nat → List Nat} (h : UK nt T i ξ) (ht : t < nt) (hk : k < T) (hn : ¬ k ∈ (List.range nt).flatMap ξ) : UK nt T (i + 1) (up1 ξ t (ξ t ++ [k])) ∧ mkN ((List.range nt).flatMap (up1 ξ t (ξ t ++ [k]))) = mkN ((List.range nt).flatMap ξ) ||| 2 ^ k := by
  have hp := fm_up (ξ := ξ) (k := k) ht
  refine ⟨⟨?_, fun j hj => ?_, ?_⟩, by rw [mkN_of_perm hp, mkN_app]⟩
  · rw [hp.nodup_iff, List.nodup_append]
    exact ⟨h.1, List.pairwise_singleton _ k, fun a ha b hb z => hn (by rw [List.mem_singleton.mp hb] at z; exact z ▸ ha)⟩
  · rcases List.mem_append.mp (hp.mem_iff.mp hj) with y | y
    · exact h.2.1 j y
    · rw [List.mem_singleton.mp y]; exact hk
  · rw [hp.length_eq, List.length_append, h.2.2]; rfl
theorem UK.free {nt T i A : Nat} {ξ : Nat → List Nat} (h : UK nt T i ξ) (hi : i < T) (hA : 2 ^ T = A + 1) : ∃ k, k < T ∧ (dfN A (mkN ((List.range nt).flatMap ξ))).testBit k = true := by
  refine Classical.byContradiction (fun z => ?_)
  have all : ∀ k, k < T → k ∈ (List.range nt).flatMap ξ := fun k hk => Classical.byContradiction (fun y => z ⟨k, hk, by
    rw [dfN_tb, show A = 2 ^ T - 1 by omega, Nat.testBit_two_pow_sub_one, mkN_tb]
    simp [hk, y]⟩)
  have p : ((List.range nt).flatMap ξ).Perm (List.range T) := (List.perm_ext_iff_of_nodup h.1 List.nodup_range).mpr (fun k => ⟨fun y => List.mem_range.mpr (h.2.1 k y), fun y => all k (List.mem_range.mp y)⟩)
  have := p.length_eq
  rw [h.2.2, List.length_range] at this
  omega
theorem UK.bit {nt T i A k : Nat} {ξ : Nat → List Nat} (h : (dfN A (mkN ((List.range nt).flatMap ξ))).testBit k = true) : ¬ k ∈ (List.range nt).flatMap ξ := fun z => by
  rw [dfN_tb, mkN_tb] at h
  simp [z] at h

set_option maxHeartbeats 4000000 in
set_option maxRecDepth 100000 in
theorem s_Pl_costInHaste {d : Nat} {M : Mem} {f : Nat → Nat → Int32} {g : Nat → Nat → Int64} {ad : Nat → Nat → Nat} {R : Option Value → Mem → Prop} {p : Nat → Nat → Int32} {nt nc wk nw : Nat} {bk : Nat → Nat} (hd : 5 ≤ d) (hi : Inj ad) (hF : Fx M ad) (hT : Ts M ad nt) (nt3 : nt ≤ 3) (hP : PW p nt nc wk nw) (ce : CPl p nt nc wk M ad bk f) (hnw : nw ≤ 1440) (hw : ∀ t, t < nt → TW p wk t) (hR : ∀ V f' g', hsF ad f g f' g' → V < 2 ^ 50 → ((tdL p nc wk = [] ∨ 0 < nt) → ∃ ξ, PK nt (tdL p nc wk).length ξ ∧ tcK p nt nc wk nw ξ nt = V) → R (some (.long (lN V))) (mm M f' g')) : Call d 58 [.ref (ad 0 7), .ref (ad 0 5), .ref (ad 0 3), .int (nI nw)] (mm M f g) R := by
  have T7 := td_le (p := p) (nc := nc) (wk := wk)
  have nc7 := hP.2.2.2
  obtain ⟨q, hq⟩ : ∃ q, (tdL p nc wk).length = q := ⟨_, rfl⟩
  rw [hq] at T7 hR
  have c2 : f (ad 0 7) 2 = nI q := by rw [← hq]; exact ce.2.2.2.2.2.1
  have c4 : f (ad 0 7) 4 = nI nt := ce.2.2.2.2.2.2.1
  obtain ⟨A, hA⟩ : ∃ A, 2 ^ q = A + 1 := ⟨2 ^ q - 1, by have := Nat.two_pow_pos q; omega⟩
  have A7 : A < 128 := by
    have : 2 ^ q ≤ 2 ^ 7 := Nat.pow_le_pow_right (by decide) (by omega)
    omega
  have sums : ∀ (f' : Nat → Nat → Int32) (g' : Nat → Nat → Int64) (ξ : Nat → List Nat) (i : Nat), hsF ad f g f' g' → UK nt q i ξ → (∀ t, t < nt → SA ad f' g' t (rsK p nc wk nw t (ξ t)) (rcK p nt nc wk nw t (ξ t))) → ((tdL p nc wk = [] ∨ 0 < nt) → PK nt q ξ) → ∀ t, t ≤ nt → ∀ (u6 u7 : Value), Go d 58 0 0 93 [.ref (ad 0 7), .ref (ad 0 5), .ref (ad 0 3), .int (nI nw), .long (lN (tcK p nt nc wk nw ξ t)), .retAddr 1, u6, u7, .int (nI t)] [] (mm M f' g') R := by
    intro f' g' ξ i k1 k2 k3 k4
    have tb := tcK_bd (nt := nt) (ξ := ξ) hP (fun t ht => by rw [hq]; exact k2.row ht)
    refine up_ind (P := fun t => ∀ (u6 u7 : Value), Go d 58 0 0 93 [.ref (ad 0 7), .ref (ad 0 5), .ref (ad 0 3), .int (nI nw), .long (lN (tcK p nt nc wk nw ξ t)), .retAddr 1, u6, u7, .int (nI t)] [] (mm M f' g') R) nt (fun u6 u7 => ?_) (fun t ht ih u6 u7 => ?_)
    ·
      show Go d 58 0 0 93 [.ref (ad 0 7), .ref (ad 0 5), .ref (ad 0 3), .int (nI nw), .long (lN (tcK p nt nc wk nw ξ nt)), .retAddr 1, u6, u7, .int (nI nt)] [] (mm M f' g') R
      refine go_blk 3 [some (.int (nI nt))] (pc' := 99) (vs' := [.ref (ad 0 7), .ref (ad 0 5), .ref (ad 0 3), .int (nI nw), .long (lN (tcK p nt nc wk nw ξ nt)), .retAddr 1, u6, u7, .int (nI nt)]) (st' := [.int (nI nt), .int (nI nt)]) (M' := mm M f' g') (ps := [ob (mm M f' g') (ad 0 7) 6, (Value.int (f' (ad 0 7) 4)) = .int (nI nt)]) rfl ⟨(hF.o 7), congrArg Value.int ((k1.1 0 7 4 (by omega)).trans c4), trivial⟩ ?_
      refine go_icmp rfl (fun _ => ?_) (fun (z : ¬ (nI nt ≤ (nI nt))) => absurd (show nI nt ≤ (nI nt) from Int32.le_refl _) z)
      refine go_blk 1 [] (pc' := 122) (vs' := [.ref (ad 0 7), .ref (ad 0 5), .ref (ad 0 3), .int (nI nw), .long (lN (tcK p nt nc wk nw ξ nt)), .retAddr 1, u6, u7, .int (nI nt)]) (st' := [.long (lN (tcK p nt nc wk nw ξ nt))]) (M' := mm M f' g') (ps := []) rfl trivial ?_
      refine go_lret rfl rfl ?_
      have t1 := tb nt (Nat.le_refl _)
      have t2 : nt * 2 ^ 40 ≤ 3 * 2 ^ 40 := Nat.mul_le_mul_right _ nt3
      exact hR _ f' g' k1 (by omega) (fun z => ⟨ξ, k4 z, rfl⟩)
    ·
      show Go d 58 0 0 93 [.ref (ad 0 7), .ref (ad 0 5), .ref (ad 0 3), .int (nI nw), .long (lN (tcK p nt nc wk nw ξ t)), .retAddr 1, u6, u7, .int (nI t)] [] (mm M f' g') R
      refine go_blk 3 [some (.int (nI nt))] (pc' := 99) (vs' := [.ref (ad 0 7), .ref (ad 0 5), .ref (ad 0 3), .int (nI nw), .long (lN (tcK p nt nc wk nw ξ t)), .retAddr 1, u6, u7, .int (nI t)]) (st' := [.int (nI nt), .int (nI t)]) (M' := mm M f' g') (ps := [ob (mm M f' g') (ad 0 7) 6, (Value.int (f' (ad 0 7) 4)) = .int (nI nt)]) rfl ⟨(hF.o 7), congrArg Value.int ((k1.1 0 7 4 (by omega)).trans c4), trivial⟩ ?_
      refine go_icmp rfl (fun (z : nI nt ≤ (nI t)) => absurd z (show ¬ (nI nt ≤ (nI t)) from (Int32.not_le.mpr ((nI_lts (a := t) (b := nt) (by omega) (by omega)).mpr ht)))) (fun _ => ?_)
      refine go_blk 9 [some (.ref (ad 0 25)), some (.long (lN (rcK p nt nc wk nw t (ξ t))))] (pc' := 93) (vs' := [.ref (ad 0 7), .ref (ad 0 5), .ref (ad 0 3), .int (nI nw), .long ((lN (tcK p nt nc wk nw ξ t)) + (lN (rcK p nt nc wk nw t (ξ t)))), .retAddr 1, u6, u7, .int ((nI t) + 1)]) (st' := []) (M' := mm M f' g') (ps := [ob (mm M f' g') (ad 0 7) 6, mR (mm M f' g') (ad 0 7) 11 = some (ad 0 25), va_rf (some (ad 0 25)) = .ref (ad 0 25), ob (mm M f' g') (ad 0 25) 16, vp_in (nI t) (mN (mm M f' g') (ad 0 25)), (Value.long (g' (ad 0 25) ((nI t).toNatClampNeg))) = .long (lN (rcK p nt nc wk nw t (ξ t)))]) rfl ⟨(hF.o 7), (hF.r 7 11 25), rfl, (hF.o 25), (vpi (hF.n 25) (show _ < 8 by omega)), congrArg Value.long ((congrArg (fun z => g' (ad 0 25) z) (nI_clamp (by omega))).trans ((k3 t ht).2.2.2)), trivial⟩ ?_
      rw [lN_add, show nI t + 1 = nI (t + 1) from nI_add t 1]
      exact ih _ _
  have greedy : ∀ i, i ≤ q → ∀ (f' : Nat → Nat → Int32) (g' : Nat → Nat → Int64) (ξ : Nat → List Nat), hsF ad f g f' g' → UK nt q i ξ → (∀ t, t < nt → SA ad f' g' t (rsK p nc wk nw t (ξ t)) (rcK p nt nc wk nw t (ξ t))) → Go d 58 0 0 49 [.ref (ad 0 7), .ref (ad 0 5), .ref (ad 0 3), .int (nI nw), .long 0, .retAddr 1, .int (nI A), .int (nI (mkN ((List.range nt).flatMap ξ))), .int (nI i)] [] (mm M f' g') R := by
    refine up_ind (P := fun i => ∀ (f' : Nat → Nat → Int32) (g' : Nat → Nat → Int64) (ξ : Nat → List Nat), hsF ad f g f' g' → UK nt q i ξ → (∀ t, t < nt → SA ad f' g' t (rsK p nc wk nw t (ξ t)) (rcK p nt nc wk nw t (ξ t))) → Go d 58 0 0 49 [.ref (ad 0 7), .ref (ad 0 5), .ref (ad 0 3), .int (nI nw), .long 0, .retAddr 1, .int (nI A), .int (nI (mkN ((List.range nt).flatMap ξ))), .int (nI i)] [] (mm M f' g') R) q (fun f' g' ξ k1 k2 k3 => ?_) (fun i hlt ih f' g' ξ k1 k2 k3 => ?_)
    · obtain ⟨D, hD⟩ : ∃ D, mkN ((List.range nt).flatMap ξ) = D := ⟨_, rfl⟩
      rw [hD]
      show Go d 58 0 0 49 [.ref (ad 0 7), .ref (ad 0 5), .ref (ad 0 3), .int (nI nw), .long 0, .retAddr 1, .int (nI A), .int (nI D), .int (nI q)] [] (mm M f' g') R
      refine go_blk 3 [some (.int (nI q))] (pc' := 55) (vs' := [.ref (ad 0 7), .ref (ad 0 5), .ref (ad 0 3), .int (nI nw), .long 0, .retAddr 1, .int (nI A), .int (nI D), .int (nI q)]) (st' := [.int (nI q), .int (nI q)]) (M' := mm M f' g') (ps := [ob (mm M f' g') (ad 0 7) 6, (Value.int (f' (ad 0 7) 2)) = .int (nI q)]) rfl ⟨(hF.o 7), congrArg Value.int ((k1.1 0 7 2 (by omega)).trans c2), trivial⟩ ?_
      refine go_icmp rfl (fun _ => ?_) (fun (z : ¬ (nI q ≤ (nI q))) => absurd (show nI q ≤ (nI q) from Int32.le_refl _) z)
      refine go_blk 2 [] (pc' := 93) (vs' := [.ref (ad 0 7), .ref (ad 0 5), .ref (ad 0 3), .int (nI nw), .long 0, .retAddr 1, .int (nI A), .int (nI D), .int 0]) (st' := []) (M' := mm M f' g') (ps := []) rfl trivial ?_
      exact sums f' g' ξ _ k1 k2 k3 (fun _ => nd_full k2.1 k2.2.1 k2.2.2) 0 (Nat.zero_le _) _ _
    · obtain ⟨D, hD⟩ : ∃ D, mkN ((List.range nt).flatMap ξ) = D := ⟨_, rfl⟩
      rw [hD]
      by_cases h0 : nt = 0
      · have no : ¬ (tdL p nc wk = [] ∨ 0 < nt) := fun z => by
          rcases z with z | z
          · rw [z] at hq
            have : q = 0 := hq.symm
            omega
          · omega
        replace no : (tdL p nc wk = [] ∨ 0 < nt) → PK nt q ξ := fun z => absurd z no
        show Go d 58 0 0 49 [.ref (ad 0 7), .ref (ad 0 5), .ref (ad 0 3), .int (nI nw), .long 0, .retAddr 1, .int (nI A), .int (nI D), .int (nI i)] [] (mm M f' g') R
        refine go_blk 3 [some (.int (nI q))] (pc' := 55) (vs' := [.ref (ad 0 7), .ref (ad 0 5), .ref (ad 0 3), .int (nI nw), .long 0, .retAddr 1, .int (nI A), .int (nI D), .int (nI i)]) (st' := [.int (nI q), .int (nI i)]) (M' := mm M f' g') (ps := [ob (mm M f' g') (ad 0 7) 6, (Value.int (f' (ad 0 7) 2)) = .int (nI q)]) rfl ⟨(hF.o 7), congrArg Value.int ((k1.1 0 7 2 (by omega)).trans c2), trivial⟩ ?_
        refine go_icmp rfl (fun (z : nI q ≤ (nI i)) => absurd z (show ¬ (nI q ≤ (nI i)) from (Int32.not_le.mpr ((nI_lts (a := i) (b := q) (by omega) (by omega)).mpr hlt)))) (fun _ => ?_)
        refine go_blk 2 [some (.int (nI nt))] (pc' := 62) (vs' := [.ref (ad 0 7), .ref (ad 0 5), .ref (ad 0 3), .int (nI nw), .long 0, .retAddr 1, .int (nI A), .int (nI D), .int (nI i)]) (st' := [.int (nI nt)]) (M' := mm M f' g') (ps := [ob (mm M f' g') (ad 0 7) 6, (Value.int (f' (ad 0 7) 4)) = .int (nI nt)]) rfl ⟨(hF.o 7), congrArg Value.int ((k1.1 0 7 4 (by omega)).trans c4), trivial⟩ ?_
        refine go_if rfl (fun _ => ?_) (fun (z : ¬ ((nI nt) ≤ 0)) => absurd (show (nI nt) ≤ 0 from (by rw [h0]; decide)) z)
        refine go_blk 2 [] (pc' := 93) (vs' := [.ref (ad 0 7), .ref (ad 0 5), .ref (ad 0 3), .int (nI nw), .long 0, .retAddr 1, .int (nI A), .int (nI D), .int 0]) (st' := []) (M' := mm M f' g') (ps := []) rfl trivial ?_
        exact sums f' g' ξ _ k1 k2 k3 (fun z => no z) 0 (Nat.zero_le _) _ _
      · have hs7 : ∀ t, t < nt → sOK 7 (rsK p nc wk nw t (ξ t)) := fun t ht => by
          obtain ⟨a1, a2⟩ := k2.row ht
          rw [← hq] at a2
          obtain ⟨-, b2, b3⟩ := rcK_bd hP ht a1 a2
          exact b2.le b3
        have D7 : D < 128 := by
          rw [← hD]
          exact Nat.lt_of_lt_of_le (mkN_lt k2.2.1) (Nat.pow_le_pow_right (n := 2) (j := 7) (by decide) (by omega))
        have opn := k2.free hlt hA
        rw [hD] at opn
        show Go d 58 0 0 49 [.ref (ad 0 7), .ref (ad 0 5), .ref (ad 0 3), .int (nI nw), .long 0, .retAddr 1, .int (nI A), .int (nI D), .int (nI i)] [] (mm M f' g') R
        refine go_blk 3 [some (.int (nI q))] (pc' := 55) (vs' := [.ref (ad 0 7), .ref (ad 0 5), .ref (ad 0 3), .int (nI nw), .long 0, .retAddr 1, .int (nI A), .int (nI D), .int (nI i)]) (st' := [.int (nI q), .int (nI i)]) (M' := mm M f' g') (ps := [ob (mm M f' g') (ad 0 7) 6, (Value.int (f' (ad 0 7) 2)) = .int (nI q)]) rfl ⟨(hF.o 7), congrArg Value.int ((k1.1 0 7 2 (by omega)).trans c2), trivial⟩ ?_
        refine go_icmp rfl (fun (z : nI q ≤ (nI i)) => absurd z (show ¬ (nI q ≤ (nI i)) from (Int32.not_le.mpr ((nI_lts (a := i) (b := q) (by omega) (by omega)).mpr hlt)))) (fun _ => ?_)
        refine go_blk 2 [some (.int (nI nt))] (pc' := 62) (vs' := [.ref (ad 0 7), .ref (ad 0 5), .ref (ad 0 3), .int (nI nw), .long 0, .retAddr 1, .int (nI A), .int (nI D), .int (nI i)]) (st' := [.int (nI nt)]) (M' := mm M f' g') (ps := [ob (mm M f' g') (ad 0 7) 6, (Value.int (f' (ad 0 7) 4)) = .int (nI nt)]) rfl ⟨(hF.o 7), congrArg Value.int ((k1.1 0 7 4 (by omega)).trans c4), trivial⟩ ?_
        refine go_if rfl (fun (z : (nI nt) ≤ 0) => absurd z (show ¬ ((nI nt) ≤ 0) from (Int32.not_le.mpr ((nI_lts (a := 0) (b := nt) (by decide) (by omega)).mpr (by omega))))) (fun _ => ?_)
        refine go_blk 9 [] (pc' := 77) (vs' := [.ref (ad 0 7), .ref (ad 0 5), .ref (ad 0 3), .int (nI nw), .long 0, .retAddr 1, .int (nI A), .int (nI D), .int (nI i)]) (st' := [.int ((nI A) &&& ((nI D) ^^^ (-1))), .ref (ad 0 3), .ref (ad 0 7), .int 1, .int (nI D)]) (M' := mm M f' g') (ps := []) rfl trivial ?_
        rw [nI_df (by omega)]
        refine go_callV rfl rfl rfl (by omega) rfl (by decide) (by decide) (hF.o 7) ?_
        refine s_Pl_takeSoonest (O := dfN A D) (m := 7) (s := fun t => rsK p nc wk nw t (ξ t)) (Cc := fun t => rcK p nt nc wk nw t (ξ t)) (by omega) hi hF hT nt3 hP (ce.tr k1.plF) (by omega) hs7 k3 (dfN_lt (n := 7) (by omega)) (by omega) (by rw [hq]; exact opn) (fun k t f2 g2 b1 b2 b3 b4 b5 b6 => ⟨ne_i, ?_⟩)
        · -- ('i', 'nI k')
          rw [hq] at b1
          have nk := UK.bit (nt := nt) (T := q) (i := i) (A := A) (k := k) (ξ := ξ) (by rw [hD]; exact b2)
          obtain ⟨u1, u2⟩ := k2.add b3 b1 nk
          show Go d 58 0 0 80 [.ref (ad 0 7), .ref (ad 0 5), .ref (ad 0 3), .int (nI nw), .long 0, .retAddr 1, .int (nI A), .int (nI D), .int (nI i)] [.int (nI k), .int 1, .int (nI D)] (mm M f2 g2) R
          refine go_blk 5 [] (pc' := 49) (vs' := [.ref (ad 0 7), .ref (ad 0 5), .ref (ad 0 3), .int (nI nw), .long 0, .retAddr 1, .int (nI A), .int ((nI D) ||| (1 <<< ((nI k) &&& 31))), .int ((nI i) + 1)]) (st' := []) (M' := mm M f2 g2) (ps := []) rfl trivial ?_
          rw [nI_sh1 k (by omega), nI_or, show nI i + 1 = nI (i + 1) from nI_add i 1, ← hD, ← u2]
          refine ih f2 g2 (up1 ξ t (ξ t ++ [k])) (k1.trans b4) u1 (fun t' ht' => ?_)
          by_cases e : t' = t
          · rw [e, up1_s, rsK_app, rcK_app]; exact b6
          · rw [up1_n e]; exact b5 t' ht' e
  have begn : ∀ t, t ≤ nt → ∀ (f' : Nat → Nat → Int32) (g' : Nat → Nat → Int64) (u7 u8 : Value), hsF ad f g f' g' → (∀ t', t' < t → SA ad f' g' t' (s0N p wk nw t') 0) → Go d 58 0 0 6 [.ref (ad 0 7), .ref (ad 0 5), .ref (ad 0 3), .int (nI nw), .long 0, .retAddr 1, .int (nI t), u7, u8] [] (mm M f' g') R := by
    refine up_ind (P := fun t => ∀ (f' : Nat → Nat → Int32) (g' : Nat → Nat → Int64) (u7 u8 : Value), hsF ad f g f' g' → (∀ t', t' < t → SA ad f' g' t' (s0N p wk nw t') 0) → Go d 58 0 0 6 [.ref (ad 0 7), .ref (ad 0 5), .ref (ad 0 3), .int (nI nw), .long 0, .retAddr 1, .int (nI t), u7, u8] [] (mm M f' g') R) nt (fun f' g' u7 u8 k1 k2 => ?_) (fun t ht ih f' g' u7 u8 k1 k2 => ?_)
    · have e0 : ∀ n, (List.range n).flatMap (fun _ => ([] : List Nat)) = [] := fun n => by simp
      show Go d 58 0 0 6 [.ref (ad 0 7), .ref (ad 0 5), .ref (ad 0 3), .int (nI nw), .long 0, .retAddr 1, .int (nI nt), u7, u8] [] (mm M f' g') R
      refine go_blk 3 [some (.int (nI nt))] (pc' := 12) (vs' := [.ref (ad 0 7), .ref (ad 0 5), .ref (ad 0 3), .int (nI nw), .long 0, .retAddr 1, .int (nI nt), u7, u8]) (st' := [.int (nI nt), .int (nI nt)]) (M' := mm M f' g') (ps := [ob (mm M f' g') (ad 0 7) 6, (Value.int (f' (ad 0 7) 4)) = .int (nI nt)]) rfl ⟨(hF.o 7), congrArg Value.int ((k1.1 0 7 4 (by omega)).trans c4), trivial⟩ ?_
      refine go_icmp rfl (fun _ => ?_) (fun (z : ¬ (nI nt ≤ (nI nt))) => absurd (show nI nt ≤ (nI nt) from Int32.le_refl _) z)
      refine go_blk 6 [some (.int (nI q))] (pc' := 41) (vs' := [.ref (ad 0 7), .ref (ad 0 5), .ref (ad 0 3), .int (nI nw), .long 0, .retAddr 1, .int (nI nt), u7, u8]) (st' := [.int ((1 <<< ((nI q) &&& 31)) - 1)]) (M' := mm M f' g') (ps := [ob (mm M f' g') (ad 0 7) 6, (Value.int (f' (ad 0 7) 2)) = .int (nI q)]) rfl ⟨(hF.o 7), congrArg Value.int ((k1.1 0 7 2 (by omega)).trans c2), trivial⟩ ?_
      rw [nI_sh1 q (by omega), hA, nI_s1]
      show Go d 58 0 0 41 [.ref (ad 0 7), .ref (ad 0 5), .ref (ad 0 3), .int (nI nw), .long 0, .retAddr 1, .int (nI nt), u7, u8] [.int (nI A)] (mm M f' g') R
      refine go_blk 5 [] (pc' := 49) (vs' := [.ref (ad 0 7), .ref (ad 0 5), .ref (ad 0 3), .int (nI nw), .long 0, .retAddr 1, .int (nI A), .int 0, .int 0]) (st' := []) (M' := mm M f' g') (ps := []) rfl trivial ?_
      have z := greedy 0 (Nat.zero_le _) f' g' (fun _ => []) k1 ⟨by rw [e0]; exact List.Pairwise.nil, fun k hk => (by rw [e0] at hk; cases hk), by rw [e0]; rfl⟩ (fun t ht => k2 t ht)
      rw [e0] at z
      exact z
    ·
      show Go d 58 0 0 6 [.ref (ad 0 7), .ref (ad 0 5), .ref (ad 0 3), .int (nI nw), .long 0, .retAddr 1, .int (nI t), u7, u8] [] (mm M f' g') R
      refine go_blk 3 [some (.int (nI nt))] (pc' := 12) (vs' := [.ref (ad 0 7), .ref (ad 0 5), .ref (ad 0 3), .int (nI nw), .long 0, .retAddr 1, .int (nI t), u7, u8]) (st' := [.int (nI nt), .int (nI t)]) (M' := mm M f' g') (ps := [ob (mm M f' g') (ad 0 7) 6, (Value.int (f' (ad 0 7) 4)) = .int (nI nt)]) rfl ⟨(hF.o 7), congrArg Value.int ((k1.1 0 7 4 (by omega)).trans c4), trivial⟩ ?_
      refine go_icmp rfl (fun (z : nI nt ≤ (nI t)) => absurd z (show ¬ (nI nt ≤ (nI t)) from (Int32.not_le.mpr ((nI_lts (a := t) (b := nt) (by omega) (by omega)).mpr ht)))) (fun _ => ?_)
      refine go_blk 7 [some (.ref (ad 3 t))] (pc' := 24) (vs' := [.ref (ad 0 7), .ref (ad 0 5), .ref (ad 0 3), .int (nI nw), .long 0, .retAddr 1, .int (nI t), u7, u8]) (st' := [.int (nI nw), .ref (ad 0 5), .int (nI t), .ref (ad 3 t), .ref (ad 0 7)]) (M' := mm M f' g') (ps := [ob (mm M f' g') (ad 0 3) 20, 17 ≤ 20 ∧ 20 < 22, vp_in (nI t) (mN (mm M f' g') (ad 0 3)), mR (mm M f' g') (ad 0 3) ((nI t).toNatClampNeg) = some (ad 3 t), va_rf (some (ad 3 t)) = .ref (ad 3 t)]) rfl ⟨(hF.o 3), (by decide), (vpi (hF.n 3) (show _ < 3 by omega)), (cl_rf rfl (by omega) (hT t (by assumption)).1), rfl, trivial⟩ ?_
      refine go_callV rfl rfl rfl (by omega) rfl (by decide) (by decide) (hF.o 7) ?_
      refine s_Pl_start (t := t) (by omega) hi hF hT nt3 hP (ce.tr k1.plF) ht (by omega) hnw (hw t ht) ⟨ne_v, ?_⟩
      show Go d 58 0 0 27 [.ref (ad 0 7), .ref (ad 0 5), .ref (ad 0 3), .int (nI nw), .long 0, .retAddr 1, .int (nI t), u7, u8] [] (mm M (pbF ad f' t (s0N p wk nw t)) (up2 g' (ad 0 25) t (lN 0))) R
      refine go_blk 2 [] (pc' := 6) (vs' := [.ref (ad 0 7), .ref (ad 0 5), .ref (ad 0 3), .int (nI nw), .long 0, .retAddr 1, .int ((nI t) + 1), u7, u8]) (st' := []) (M' := mm M (pbF ad f' t (s0N p wk nw t)) (up2 g' (ad 0 25) t (lN 0))) (ps := []) rfl trivial ?_
      rw [show nI t + 1 = nI (t + 1) from nI_add t 1]
      refine ih _ _ _ _ (k1.pb hi) (fun t' ht' => ?_)
      by_cases e : t' = t
      · rw [e]; exact SA.pb hi
      · exact SA.keep hi (k2 t' (by omega)) e
  show Go d 58 0 0 0 [.ref (ad 0 7), .ref (ad 0 5), .ref (ad 0 3), .int (nI nw), .retAddr 0, .retAddr 0, .retAddr 0, .retAddr 0, .retAddr 0] [] (mm M f g) R
  refine go_blk 4 [] (pc' := 6) (vs' := [.ref (ad 0 7), .ref (ad 0 5), .ref (ad 0 3), .int (nI nw), .long 0, .retAddr 1, .int 0, .retAddr 0, .retAddr 0]) (st' := []) (M' := mm M f g) (ps := []) rfl trivial ?_
  exact begn 0 (Nat.zero_le _) f g _ _ (hsF.refl _ _ _) (fun t' ht' => absurd ht' (by omega))

