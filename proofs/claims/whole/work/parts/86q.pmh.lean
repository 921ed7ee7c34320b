/-! the class's planner: gather -/
def GI (p : Nat → Nat → Int32) (nt wk : Nat) (M : Mem) (ad : Nat → Nat → Nat) (jb : Nat → Nat) (f : Nat → Nat → Int32) (c : Nat) (r : Nat → Nat → Option Nat) (f' : Nat → Nat → Int32) : Prop :=
  (∀ a i k, ¬ (a = 0 ∧ i = 17) → r (ad a i) k = mR M (ad a i) k) ∧ (∀ a i k, ¬ (a = 0 ∧ i = 18) → ¬ (a = 0 ∧ i = 7 ∧ (k = 2 ∨ k = 4)) → f' (ad a i) k = f (ad a i) k) ∧
  f' (ad 0 7) 2 = nI (tdL p c wk).length ∧ f' (ad 0 7) 4 = nI nt ∧ ∀ k, k < (tdL p c wk).length → r (ad 0 17) k = some (ad 6 (jb ((tdL p c wk).getD k 0))) ∧ f' (ad 0 18) k = qv (inRw p nt ((tdL p c wk).getD k 0))
theorem GI.skip {p : Nat → Nat → Int32} {nt wk c : Nat} {M : Mem} {ad : Nat → Nat → Nat} {jb : Nat → Nat} {f f' : Nat → Nat → Int32} {r : Nat → Nat → Option Nat} (h : GI p nt wk M ad jb f c r f') (hn : ¬ (p 32 (7 * wk + c) = 1 ∧ p 39 (7 * wk + c) = -1)) : GI p nt wk M ad jb f (c + 1) r f' := by
  unfold GI at *
  rw [tdL_s, if_neg (fun y => hn (by rw [Bool.and_eq_true, beq_iff_eq, beq_iff_eq] at y; exact y)), List.append_nil]
  exact h
theorem GI.add {p : Nat → Nat → Int32} {nt wk c q : Nat} {M : Mem} {ad : Nat → Nat → Nat} {jb : Nat → Nat} {f f' : Nat → Nat → Int32} {r : Nat → Nat → Option Nat} (hi : Inj ad) (h : GI p nt wk M ad jb f c r f') (h1 : p 32 (7 * wk + c) = 1) (h2 : p 39 (7 * wk + c) = -1) (hq : (tdL p c wk).length = q) : GI p nt wk M ad jb f (c + 1) (up2 r (ad 0 17) q (some (ad 6 (jb c)))) (up2 (up2 f' (ad 0 18) q (qv (inRw p nt c))) (ad 0 7) 2 (nI (q + 1))) := by
  obtain ⟨g1, g2, g3, g4, g5⟩ := h
  have n0 : ∀ i j, ¬ i = j → ¬ ad 0 i = ad 0 j := fun i j z y => z (hi _ _ _ _ y).2
  unfold GI
  rw [tdL_s, if_pos (by rw [h1, h2]; rfl)]
  refine ⟨fun a i k z => ?_, fun a i k z1 z2 => ?_, ?_, ?_, fun k hk => ?_⟩
  · rw [up2_n _ _ (fun y => z (hi _ _ _ _ y.1))]; exact g1 a i k z
  · rw [up2_n _ _ (fun y => z2 ⟨(hi _ _ _ _ y.1).1, (hi _ _ _ _ y.1).2, Or.inl y.2⟩), up2_n _ _ (fun y => z1 (hi _ _ _ _ y.1))]; exact g2 a i k z1 z2
  · rw [up2_s, List.length_append, hq]; rfl
  · rw [up2_n _ _ (fun y => absurd y.2 (by decide)), up2_n _ _ (fun y => n0 7 18 (by decide) y.1)]; exact g4
  · rw [List.length_append, hq, List.length_singleton] at hk
    rw [getD_app, hq]
    by_cases e : k = q
    · rw [e, up2_s, up2_n _ _ (fun y => n0 18 7 (by decide) y.1), up2_s, if_neg (by omega), if_pos rfl]
      exact ⟨rfl, rfl⟩
    · rw [up2_n _ _ (fun y => e y.2), up2_n _ _ (fun y => n0 18 7 (by decide) y.1), up2_n _ _ (fun y => e y.2), if_pos (by omega)]
      exact g5 k (by omega)

set_option maxHeartbeats 4000000 in
set_option maxRecDepth 100000 in
theorem s_Te_hasInRow {d : Nat} {M : Mem} {f : Nat → Nat → Int32} {g : Nat → Nat → Int64} {ad : Nat → Nat → Nat} {R : Option Value → Mem → Prop} {p : Nat → Nat → Int32} {nt c t n : Nat} (hd : 0 ≤ d) (hT : Ts M ad nt) (ht : t < nt) (hc : c < 7) (n7 : n ≤ 7) (h51 : p 51 t = nI n) (h4 : f (ad 3 t) 4 = p 51 t) (h5 : ∀ i, i < n → f (ad 5 t) i = p 50 (7 * t + i)) (hR1 : hitR p c t = true → R (some (.int 1)) (mm M f g)) (hR0 : hitR p c t = false → R (some (.int 0)) (mm M f g)) : Call d 74 [.ref (ad 3 t), .int (nI c)] (mm M f g) R := by
  have loop : ∀ i, i ≤ n → (∀ i', i' < i → ¬ p 50 (7 * t + i') = nI c) → Go d 74 0 0 2 [.ref (ad 3 t), .int (nI c), .int (nI i)] [] (mm M f g) R := by
    refine up_ind (P := fun i => (∀ i', i' < i → ¬ p 50 (7 * t + i') = nI c) → Go d 74 0 0 2 [.ref (ad 3 t), .int (nI c), .int (nI i)] [] (mm M f g) R) n (fun hn => ?_) (fun i hlt ih hn => ?_)
    ·
      show Go d 74 0 0 2 [.ref (ad 3 t), .int (nI c), .int (nI n)] [] (mm M f g) R
      refine go_blk 3 [some (.int (nI n))] (pc' := 7) (vs' := [.ref (ad 3 t), .int (nI c), .int (nI n)]) (st' := [.int (nI n), .int (nI n)]) (M' := mm M f g) (ps := [ob (mm M f g) (ad 3 t) 8, (Value.int (f (ad 3 t) 4)) = .int (nI n)]) rfl ⟨(hT t (by assumption)).2.1, congrArg Value.int (h4.trans h51), trivial⟩ ?_
      refine go_icmp rfl (fun _ => ?_) (fun (z : ¬ (nI n ≤ (nI n))) => absurd (show nI n ≤ (nI n) from Int32.le_refl _) z)
      refine go_blk 1 [] (pc' := 29) (vs' := [.ref (ad 3 t), .int (nI c), .int (nI n)]) (st' := [.int 0]) (M' := mm M f g) (ps := []) rfl trivial ?_
      refine go_zret rfl rfl (Or.inl rfl) ?_
      refine hR0 (Bool.eq_false_iff.mpr (fun z => ?_))
      obtain ⟨i, i1, i2⟩ := (hitR_of h51 n7).mp z
      exact hn i i1 i2
    ·
      show Go d 74 0 0 2 [.ref (ad 3 t), .int (nI c), .int (nI i)] [] (mm M f g) R
      refine go_blk 3 [some (.int (nI n))] (pc' := 7) (vs' := [.ref (ad 3 t), .int (nI c), .int (nI i)]) (st' := [.int (nI n), .int (nI i)]) (M' := mm M f g) (ps := [ob (mm M f g) (ad 3 t) 8, (Value.int (f (ad 3 t) 4)) = .int (nI n)]) rfl ⟨(hT t (by assumption)).2.1, congrArg Value.int (h4.trans h51), trivial⟩ ?_
      refine go_icmp rfl (fun (z : nI n ≤ (nI i)) => absurd z (show ¬ (nI n ≤ (nI i)) from (Int32.not_le.mpr ((nI_lts (a := i) (b := n) (by omega) (by omega)).mpr hlt)))) (fun _ => ?_)
      refine go_blk 5 [some (.ref (ad 5 t)), some (.int (p 50 (7 * t + i)))] (pc' := 17) (vs' := [.ref (ad 3 t), .int (nI c), .int (nI i)]) (st' := [.int (nI c), .int (p 50 (7 * t + i))]) (M' := mm M f g) (ps := [ob (mm M f g) (ad 3 t) 8, mR (mm M f g) (ad 3 t) 3 = some (ad 5 t), va_rf (some (ad 5 t)) = .ref (ad 5 t), ob (mm M f g) (ad 5 t) 15, vp_in (nI i) (mN (mm M f g) (ad 5 t)), (Value.int (f (ad 5 t) ((nI i).toNatClampNeg))) = .int (p 50 (7 * t + i))]) rfl ⟨(hT t (by assumption)).2.1, (hT t (by assumption)).2.2.2.1, rfl, (hT t (by assumption)).2.2.2.2.1, (vpi (hT t (by assumption)).2.2.2.2.2 (by omega)), congrArg Value.int ((congrArg (fun z => f (ad 5 t) z) (nI_clamp (by omega))).trans (h5 i hlt)), trivial⟩ ?_
      refine go_icmp rfl (fun (c21 : ¬ (p 50 (7 * t + i)) = nI c) => ?_) (fun (c21 : ¬ (¬ (p 50 (7 * t + i)) = nI c)) => ?_)
      · -- ¬ (p 50 (7 * t + i)) = nI c
        refine go_blk 2 [] (pc' := 2) (vs' := [.ref (ad 3 t), .int (nI c), .int ((nI i) + 1)]) (st' := []) (M' := mm M f g) (ps := []) rfl trivial ?_
        rw [show nI i + 1 = nI (i + 1) from nI_add i 1]
        exact ih (fun i' hi' z => by
          by_cases e : i' = i
          · rw [e] at z; exact c21 z
          · exact hn i' (by omega) z)
      · -- ¬ (¬ (p 50 (7 * t + i)) = nI c)
        refine go_blk 1 [] (pc' := 21) (vs' := [.ref (ad 3 t), .int (nI c), .int (nI i)]) (st' := [.int 1]) (M' := mm M f g) (ps := []) rfl trivial ?_
        refine go_zret rfl rfl (Or.inr rfl) ?_
        exact hR1 ((hitR_of h51 n7).mpr ⟨i, hlt, Classical.not_not.mp c21⟩)
  show Go d 74 0 0 0 [.ref (ad 3 t), .int (nI c), .retAddr 0] [] (mm M f g) R
  refine go_blk 2 [] (pc' := 2) (vs' := [.ref (ad 3 t), .int (nI c), .int 0]) (st' := []) (M' := mm M f g) (ps := []) rfl trivial ?_
  exact loop 0 (Nat.zero_le _) (fun i' hi' => absurd hi' (by omega))

set_option maxHeartbeats 4000000 in
set_option maxRecDepth 100000 in
theorem s_Pl_teamWith {d : Nat} {M : Mem} {f : Nat → Nat → Int32} {g : Nat → Nat → Int64} {ad : Nat → Nat → Nat} {R : Option Value → Mem → Prop} {p : Nat → Nat → Int32} {nt c : Nat} (hd : 1 ≤ d) (hF : Fx M ad) (hT : Ts M ad nt) (nt3 : nt ≤ 3) (hc : c < 7) (c4 : f (ad 0 7) 4 = nI nt) (hr : ∀ t, t < nt → ∃ n, n ≤ 7 ∧ p 51 t = nI n ∧ f (ad 3 t) 4 = p 51 t ∧ ∀ i, i < n → f (ad 5 t) i = p 50 (7 * t + i)) (hR : R (some (.int (qv (inRw p nt c)))) (mm M f g)) : Call d 53 [.ref (ad 0 7), .ref (ad 0 3), .int (nI c)] (mm M f g) R := by
  have loop : ∀ t, t ≤ nt → (∀ t', t' < t → hitR p c t' = false) → Go d 53 0 0 2 [.ref (ad 0 7), .ref (ad 0 3), .int (nI c), .int (nI t)] [] (mm M f g) R := by
    refine up_ind (P := fun t => (∀ t', t' < t → hitR p c t' = false) → Go d 53 0 0 2 [.ref (ad 0 7), .ref (ad 0 3), .int (nI c), .int (nI t)] [] (mm M f g) R) nt (fun hn => ?_) (fun t ht ih hn => ?_)
    ·
      show Go d 53 0 0 2 [.ref (ad 0 7), .ref (ad 0 3), .int (nI c), .int (nI nt)] [] (mm M f g) R
      refine go_blk 3 [some (.int (nI nt))] (pc' := 7) (vs' := [.ref (ad 0 7), .ref (ad 0 3), .int (nI c), .int (nI nt)]) (st' := [.int (nI nt), .int (nI nt)]) (M' := mm M f g) (ps := [ob (mm M f g) (ad 0 7) 6, (Value.int (f (ad 0 7) 4)) = .int (nI nt)]) rfl ⟨(hF.o 7), congrArg Value.int c4, trivial⟩ ?_
      refine go_icmp rfl (fun _ => ?_) (fun (z : ¬ (nI nt ≤ (nI nt))) => absurd (show nI nt ≤ (nI nt) from Int32.le_refl _) z)
      refine go_blk 1 [] (pc' := 29) (vs' := [.ref (ad 0 7), .ref (ad 0 3), .int (nI c), .int (nI nt)]) (st' := [.int (-1)]) (M' := mm M f g) (ps := []) rfl trivial ?_
      refine go_iret rfl rfl ?_
      rw [inRw_none hn] at hR
      exact hR
    · obtain ⟨n, n7, n51, n4, n5⟩ := hr t ht
      show Go d 53 0 0 2 [.ref (ad 0 7), .ref (ad 0 3), .int (nI c), .int (nI t)] [] (mm M f g) R
      refine go_blk 3 [some (.int (nI nt))] (pc' := 7) (vs' := [.ref (ad 0 7), .ref (ad 0 3), .int (nI c), .int (nI t)]) (st' := [.int (nI nt), .int (nI t)]) (M' := mm M f g) (ps := [ob (mm M f g) (ad 0 7) 6, (Value.int (f (ad 0 7) 4)) = .int (nI nt)]) rfl ⟨(hF.o 7), congrArg Value.int c4, trivial⟩ ?_
      refine go_icmp rfl (fun (z : nI nt ≤ (nI t)) => absurd z (show ¬ (nI nt ≤ (nI t)) from (Int32.not_le.mpr ((nI_lts (a := t) (b := nt) (by omega) (by omega)).mpr ht)))) (fun _ => ?_)
      refine go_blk 4 [some (.ref (ad 3 t))] (pc' := 14) (vs' := [.ref (ad 0 7), .ref (ad 0 3), .int (nI c), .int (nI t)]) (st' := [.int (nI c), .ref (ad 3 t)]) (M' := mm M f g) (ps := [ob (mm M f g) (ad 0 3) 20, 17 ≤ 20 ∧ 20 < 22, vp_in (nI t) (mN (mm M f g) (ad 0 3)), mR (mm M f g) (ad 0 3) ((nI t).toNatClampNeg) = some (ad 3 t), va_rf (some (ad 3 t)) = .ref (ad 3 t)]) rfl ⟨(hF.o 3), (by decide), (vpi (hF.n 3) (show _ < 3 by omega)), (cl_rf rfl (by omega) (hT t (by assumption)).1), rfl, trivial⟩ ?_
      refine go_callV rfl rfl rfl (by omega) rfl (by decide) (by decide) (hT t (by assumption)).2.1 ?_
      refine s_Te_hasInRow (n := n) (by omega) hT ht hc n7 n51 n4 n5 (fun hh => ⟨ne_i, ?_⟩) (fun hh => ⟨ne_i, ?_⟩)
      · -- ('i', '1')
        show Go d 53 0 0 17 [.ref (ad 0 7), .ref (ad 0 3), .int (nI c), .int (nI t)] [.int 1] (mm M f g) R
        refine go_if rfl (fun (z : (1 : Int32) = 0) => absurd z (show ¬ ((1 : Int32) = 0) from (by decide))) (fun _ => ?_)
        refine go_blk 1 [] (pc' := 21) (vs' := [.ref (ad 0 7), .ref (ad 0 3), .int (nI c), .int (nI t)]) (st' := [.int (nI t)]) (M' := mm M f g) (ps := []) rfl trivial ?_
        refine go_iret rfl rfl ?_
        rw [inRw_some ht hh hn] at hR
        exact hR
      · -- ('i', '0')
        show Go d 53 0 0 17 [.ref (ad 0 7), .ref (ad 0 3), .int (nI c), .int (nI t)] [.int 0] (mm M f g) R
        refine go_if rfl (fun _ => ?_) (fun (z : ¬ ((0 : Int32) = 0)) => absurd (show (0 : Int32) = 0 from (by decide)) z)
        refine go_blk 2 [] (pc' := 2) (vs' := [.ref (ad 0 7), .ref (ad 0 3), .int (nI c), .int ((nI t) + 1)]) (st' := []) (M' := mm M f g) (ps := []) rfl trivial ?_
        rw [show nI t + 1 = nI (t + 1) from nI_add t 1]
        exact ih (fun t' ht' => by
          by_cases e : t' = t
          · rw [e]; exact hh
          · exact hn t' (by omega))
  show Go d 53 0 0 0 [.ref (ad 0 7), .ref (ad 0 3), .int (nI c), .retAddr 0] [] (mm M f g) R
  refine go_blk 2 [] (pc' := 2) (vs' := [.ref (ad 0 7), .ref (ad 0 3), .int (nI c), .int 0]) (st' := []) (M' := mm M f g) (ps := []) rfl trivial ?_
  exact loop 0 (Nat.zero_le _) (fun t' ht' => absurd ht' (by omega))

set_option maxHeartbeats 4000000 in
set_option maxRecDepth 100000 in
theorem s_Pl_gather {d : Nat} {M : Mem} {f : Nat → Nat → Int32} {g : Nat → Nat → Int64} {ad : Nat → Nat → Nat} {R : Option Value → Mem → Prop} {p : Nat → Nat → Int32} {nt nc wk : Nat} {jb : Nat → Nat} (hd : 2 ≤ d) (hi : Inj ad) (hF : Fx M ad) (hT : Ts M ad nt) (nt3 : nt ≤ 3) (nc7 : nc ≤ 7) (hr : ∀ t, t < nt → ∃ n, n ≤ 7 ∧ p 51 t = nI n ∧ f (ad 3 t) 4 = p 51 t ∧ ∀ i, i < n → f (ad 5 t) i = p 50 (7 * t + i)) (hj : ∀ c, c < nc → p 32 (7 * wk + c) = 1 → mR M (ad 0 5) c = some (ad 6 (jb c)) ∧ ob M (ad 6 (jb c)) 3 ∧ f (ad 6 (jb c)) 9 = p 39 (7 * wk + c)) (hjn : ∀ c, c < nc → ¬ p 32 (7 * wk + c) = 1 → mR M (ad 0 5) c = none) (hR : ∀ r f', GI p nt wk M ad jb f nc r f' → R none (mm (mr M r) f' g)) : Call d 52 [.ref (ad 0 7), .ref (ad 0 5), .int (nI nc), .ref (ad 0 3), .int (nI nt)] (mm M f g) R := by
  have loop : ∀ c, c ≤ nc → ∀ (r : Nat → Nat → Option Nat) (f' : Nat → Nat → Int32), GI p nt wk M ad jb f c r f' → Go d 52 0 0 14 [.ref (ad 0 7), .ref (ad 0 5), .int (nI nc), .ref (ad 0 3), .int (nI nt), .int (nI c)] [] (mm (mr M r) f' g) R := by
    refine up_ind (P := fun c => ∀ (r : Nat → Nat → Option Nat) (f' : Nat → Nat → Int32), GI p nt wk M ad jb f c r f' → Go d 52 0 0 14 [.ref (ad 0 7), .ref (ad 0 5), .int (nI nc), .ref (ad 0 3), .int (nI nt), .int (nI c)] [] (mm (mr M r) f' g) R) nc (fun r f' k => ?_) (fun c hlt ih r f' k => ?_)
    ·
      show Go d 52 0 0 14 [.ref (ad 0 7), .ref (ad 0 5), .int (nI nc), .ref (ad 0 3), .int (nI nt), .int (nI nc)] [] (mm (mr M r) f' g) R
      refine go_blk 2 [] (pc' := 17) (vs' := [.ref (ad 0 7), .ref (ad 0 5), .int (nI nc), .ref (ad 0 3), .int (nI nt), .int (nI nc)]) (st' := [.int (nI nc), .int (nI nc)]) (M' := mm (mr M r) f' g) (ps := []) rfl trivial ?_
      refine go_icmp rfl (fun _ => ?_) (fun (z : ¬ (nI nc ≤ (nI nc))) => absurd (show nI nc ≤ (nI nc) from Int32.le_refl _) z)
      refine go_vret rfl rfl ?_
      exact hR r f' k
    · obtain ⟨g1, g2, g3, g4, g5⟩ := id k
      have T7 := td_le (p := p) (nc := c) (wk := wk)
      obtain ⟨q, hq⟩ : ∃ q, (tdL p c wk).length = q := ⟨_, rfl⟩
      rw [hq] at g3 T7
      have hF1 : Fx (mr M r) ad := fx_mr hF (fun i j z => g1 0 i j (by omega))
      have r5 : r (ad 0 5) c = mR M (ad 0 5) c := g1 0 5 c (by omega)
      by_cases h32 : p 32 (7 * wk + c) = 1
      · obtain ⟨j1, j2, j3⟩ := hj c hlt h32
        have rc : r (ad 0 5) c = some (ad 6 (jb c)) := r5.trans j1
        have e9 : f' (ad 6 (jb c)) 9 = p 39 (7 * wk + c) := (g2 6 _ 9 (by omega) (by omega)).trans j3
        show Go d 52 0 0 14 [.ref (ad 0 7), .ref (ad 0 5), .int (nI nc), .ref (ad 0 3), .int (nI nt), .int (nI c)] [] (mm (mr M r) f' g) R
        refine go_blk 2 [] (pc' := 17) (vs' := [.ref (ad 0 7), .ref (ad 0 5), .int (nI nc), .ref (ad 0 3), .int (nI nt), .int (nI c)]) (st' := [.int (nI nc), .int (nI c)]) (M' := mm (mr M r) f' g) (ps := []) rfl trivial ?_
        refine go_icmp rfl (fun (z : nI nc ≤ (nI c)) => absurd z (show ¬ (nI nc ≤ (nI c)) from (Int32.not_le.mpr ((nI_lts (a := c) (b := nc) (by omega) (by omega)).mpr hlt)))) (fun _ => ?_)
        refine go_blk 2 [] (pc' := 24) (vs' := [.ref (ad 0 7), .ref (ad 0 5), .int (nI nc), .ref (ad 0 3), .int (nI nt), .int (nI c)]) (st' := [.int 7, .int (nI c)]) (M' := mm (mr M r) f' g) (ps := []) rfl trivial ?_
        refine go_icmp rfl (fun (z : 7 ≤ (nI c)) => absurd z (show ¬ (7 ≤ (nI c)) from (Int32.not_le.mpr ((nI_lts (a := c) (b := 7) (by omega) (by decide)).mpr (by omega))))) (fun _ => ?_)
        refine go_blk 3 [some (.ref (ad 6 (jb c)))] (pc' := 31) (vs' := [.ref (ad 0 7), .ref (ad 0 5), .int (nI nc), .ref (ad 0 3), .int (nI nt), .int (nI c)]) (st' := [.ref (ad 6 (jb c))]) (M' := mm (mr M r) f' g) (ps := [ob (mm (mr M r) f' g) (ad 0 5) 19, 17 ≤ 19 ∧ 19 < 22, vp_in (nI c) (mN (mm (mr M r) f' g) (ad 0 5)), mR (mm (mr M r) f' g) (ad 0 5) ((nI c).toNatClampNeg) = some (ad 6 (jb c)), va_rf (some (ad 6 (jb c))) = .ref (ad 6 (jb c))]) rfl ⟨(hF1.o 5), (by decide), (vpi (hF1.n 5) (show _ < 7 by omega)), (cl_rf rfl (by omega) rc), rfl, trivial⟩ ?_
        refine go_ifnull1 rfl ?_
        refine go_blk 5 [some (.ref (ad 6 (jb c))), some (.int (p 39 (7 * wk + c)))] (pc' := 42) (vs' := [.ref (ad 0 7), .ref (ad 0 5), .int (nI nc), .ref (ad 0 3), .int (nI nt), .int (nI c)]) (st' := [.int (-1), .int (p 39 (7 * wk + c))]) (M' := mm (mr M r) f' g) (ps := [ob (mm (mr M r) f' g) (ad 0 5) 19, 17 ≤ 19 ∧ 19 < 22, vp_in (nI c) (mN (mm (mr M r) f' g) (ad 0 5)), mR (mm (mr M r) f' g) (ad 0 5) ((nI c).toNatClampNeg) = some (ad 6 (jb c)), va_rf (some (ad 6 (jb c))) = .ref (ad 6 (jb c)), ob (mm (mr M r) f' g) (ad 6 (jb c)) 3, (Value.int (f' (ad 6 (jb c)) 9)) = .int (p 39 (7 * wk + c))]) rfl ⟨(hF1.o 5), (by decide), (vpi (hF1.n 5) (show _ < 7 by omega)), (cl_rf rfl (by omega) rc), rfl, j2, congrArg Value.int e9, trivial⟩ ?_
        refine go_icmp rfl (fun (c21 : ¬ (p 39 (7 * wk + c)) = (-1)) => ?_) (fun (c21 : ¬ (¬ (p 39 (7 * wk + c)) = (-1))) => ?_)
        · -- ¬ (p 39 (7 * wk + c)) = (-1)
          refine go_blk 2 [] (pc' := 14) (vs' := [.ref (ad 0 7), .ref (ad 0 5), .int (nI nc), .ref (ad 0 3), .int (nI nt), .int ((nI c) + 1)]) (st' := []) (M' := mm (mr M r) f' g) (ps := []) rfl trivial ?_
          rw [show nI c + 1 = nI (c + 1) from nI_add c 1]
          exact ih r f' (k.skip (fun z => c21 z.2))
        · -- ¬ (¬ (p 39 (7 * wk + c)) = (-1))
          refine go_blk 7 [some (.ref (ad 0 17)), some (.int (nI q)), some (.ref (ad 6 (jb c)))] (pc' := 57) (vs' := [.ref (ad 0 7), .ref (ad 0 5), .int (nI nc), .ref (ad 0 3), .int (nI nt), .int (nI c)]) (st' := [.ref (ad 6 (jb c)), .int (nI q), .ref (ad 0 17)]) (M' := mm (mr M r) f' g) (ps := [ob (mm (mr M r) f' g) (ad 0 7) 6, mR (mm (mr M r) f' g) (ad 0 7) 1 = some (ad 0 17), va_rf (some (ad 0 17)) = .ref (ad 0 17), ob (mm (mr M r) f' g) (ad 0 7) 6, (Value.int (f' (ad 0 7) 2)) = .int (nI q), ob (mm (mr M r) f' g) (ad 0 5) 19, 17 ≤ 19 ∧ 19 < 22, vp_in (nI c) (mN (mm (mr M r) f' g) (ad 0 5)), mR (mm (mr M r) f' g) (ad 0 5) ((nI c).toNatClampNeg) = some (ad 6 (jb c)), va_rf (some (ad 6 (jb c))) = .ref (ad 6 (jb c))]) rfl ⟨(hF1.o 7), (hF1.r 7 1 17), rfl, (hF1.o 7), congrArg Value.int g3, (hF1.o 5), (by decide), (vpi (hF1.n 5) (show _ < 7 by omega)), (cl_rf rfl (by omega) rc), rfl, trivial⟩ ?_
          refine go_blk 1 [] (pc' := 58) (vs' := [.ref (ad 0 7), .ref (ad 0 5), .int (nI nc), .ref (ad 0 3), .int (nI nt), .int (nI c)]) (st' := []) (M' := mm (sR (mr M r) (ad 0 17) ((nI q).toNatClampNeg) (some (ad 6 (jb c)))) f' g) (ps := [ob (mm (mr M r) f' g) (ad 0 17) 19, 17 ≤ 19 ∧ 19 < 22, ob (mm (mr M r) f' g) (ad 6 (jb c)) (zaI.getD (19 - 17) 0), vp_in (nI q) (mN (mm (mr M r) f' g) (ad 0 17))]) rfl ⟨(hF1.o 17), (by decide), j2, (vpi (hF1.n 17) (show _ < 7 by omega)), trivial⟩ ?_
          rw [nI_clamp (n := q) (by omega)]
          show Go d 52 0 0 58 [.ref (ad 0 7), .ref (ad 0 5), .int (nI nc), .ref (ad 0 3), .int (nI nt), .int (nI c)] [] (mm (mr M (up2 r (ad 0 17) q (some (ad 6 (jb c))))) f' g) R
          have hF1 : Fx (mr M (up2 r (ad 0 17) q (some (ad 6 (jb c))))) ad := fx_mr (M := mr M r) (r := up2 r (ad 0 17) q (some (ad 6 (jb c)))) hF1 (fun i j z => up2_n _ _ (fun y => by have := (hi _ _ _ _ y.1).2; omega))
          have hT1 : Ts (mr M (up2 r (ad 0 17) q (some (ad 6 (jb c))))) ad nt := fun t ht => by
            obtain ⟨z1, z2, ⟨z3, z4⟩, z5, z6⟩ := hT t ht
            have nr : ∀ a i j, ¬ (a = 0 ∧ i = 17) → up2 r (ad 0 17) q (some (ad 6 (jb c))) (ad a i) j = mR M (ad a i) j := fun a i j z => (up2_n _ _ (fun y => z (hi _ _ _ _ y.1))).trans (g1 a i j z)
            exact ⟨(nr 0 3 t (by omega)).trans z1, z2, ⟨(nr 3 t 2 (by omega)).trans z3, z4⟩, (nr 3 t 3 (by omega)).trans z5, z6⟩
          show Go d 52 0 0 58 [.ref (ad 0 7), .ref (ad 0 5), .int (nI nc), .ref (ad 0 3), .int (nI nt), .int (nI c)] [] (mm (mr M (up2 r (ad 0 17) q (some (ad 6 (jb c))))) f' g) R
          refine go_blk 7 [some (.ref (ad 0 18)), some (.int (nI q))] (pc' := 70) (vs' := [.ref (ad 0 7), .ref (ad 0 5), .int (nI nc), .ref (ad 0 3), .int (nI nt), .int (nI c)]) (st' := [.int (nI c), .ref (ad 0 3), .ref (ad 0 7), .int (nI q), .ref (ad 0 18)]) (M' := mm (mr M (up2 r (ad 0 17) q (some (ad 6 (jb c))))) f' g) (ps := [ob (mm (mr M (up2 r (ad 0 17) q (some (ad 6 (jb c))))) f' g) (ad 0 7) 6, mR (mm (mr M (up2 r (ad 0 17) q (some (ad 6 (jb c))))) f' g) (ad 0 7) 3 = some (ad 0 18), va_rf (some (ad 0 18)) = .ref (ad 0 18), ob (mm (mr M (up2 r (ad 0 17) q (some (ad 6 (jb c))))) f' g) (ad 0 7) 6, (Value.int (f' (ad 0 7) 2)) = .int (nI q)]) rfl ⟨(hF1.o 7), (hF1.r 7 3 18), rfl, (hF1.o 7), congrArg Value.int g3, trivial⟩ ?_
          refine go_callV rfl rfl rfl (by omega) rfl (by decide) (by decide) (hF1.o 7) ?_
          refine s_Pl_teamWith (p := p) (by omega) hF1 hT1 nt3 (by omega) g4 (fun t ht => by obtain ⟨n, a1, a2, a3, a4⟩ := hr t ht; exact ⟨n, a1, a2, (g2 3 t 4 (by omega) (by omega)).trans a3, fun i hi' => (g2 5 t i (by omega) (by omega)).trans (a4 i hi')⟩) ⟨ne_i, ?_⟩
          show Go d 52 0 0 73 [.ref (ad 0 7), .ref (ad 0 5), .int (nI nc), .ref (ad 0 3), .int (nI nt), .int (nI c)] [.int (qv (inRw p nt c)), .int (nI q), .ref (ad 0 18)] (mm (mr M (up2 r (ad 0 17) q (some (ad 6 (jb c))))) f' g) R
          refine go_blk 1 [] (pc' := 74) (vs' := [.ref (ad 0 7), .ref (ad 0 5), .int (nI nc), .ref (ad 0 3), .int (nI nt), .int (nI c)]) (st' := []) (M' := mm (mr M (up2 r (ad 0 17) q (some (ad 6 (jb c))))) (up2 f' (ad 0 18) ((nI q).toNatClampNeg) (qv (inRw p nt c))) g) (ps := [ob (mm (mr M (up2 r (ad 0 17) q (some (ad 6 (jb c))))) f' g) (ad 0 18) 15, vp_in (nI q) (mN (mm (mr M (up2 r (ad 0 17) q (some (ad 6 (jb c))))) f' g) (ad 0 18))]) rfl ⟨(hF1.o 18), (vpi (hF1.n 18) (show _ < 7 by omega)), trivial⟩ ?_
          rw [nI_clamp (n := q) (by omega)]
          refine go_blk 6 [some (.int (nI q))] (pc' := 84) (vs' := [.ref (ad 0 7), .ref (ad 0 5), .int (nI nc), .ref (ad 0 3), .int (nI nt), .int (nI c)]) (st' := []) (M' := mm (mr M (up2 r (ad 0 17) q (some (ad 6 (jb c))))) (up2 (up2 f' (ad 0 18) (q) (qv (inRw p nt c))) (ad 0 7) 2 ((nI q) + 1)) g) (ps := [(.ref (ad 0 7) : Value).category = 1, ob (mm (mr M (up2 r (ad 0 17) q (some (ad 6 (jb c))))) (up2 f' (ad 0 18) (q) (qv (inRw p nt c))) g) (ad 0 7) 6, (Value.int ((up2 f' (ad 0 18) (q) (qv (inRw p nt c))) (ad 0 7) 2)) = .int (nI q), ob (mm (mr M (up2 r (ad 0 17) q (some (ad 6 (jb c))))) (up2 f' (ad 0 18) (q) (qv (inRw p nt c))) g) (ad 0 7) 6]) rfl ⟨rfl, (hF1.o 7), congrArg Value.int (((up2_n _ _ (fun z => absurd (hi _ _ _ _ z.1).2 (by decide))).trans (rfl)).trans g3), (hF1.o 7), trivial⟩ ?_
          show Go d 52 0 0 84 [.ref (ad 0 7), .ref (ad 0 5), .int (nI nc), .ref (ad 0 3), .int (nI nt), .int (nI c)] [] (mm (mr M (up2 r (ad 0 17) q (some (ad 6 (jb c))))) (up2 (up2 f' (ad 0 18) (q) (qv (inRw p nt c))) (ad 0 7) 2 ((nI q) + 1)) g) R
          refine go_blk 2 [] (pc' := 14) (vs' := [.ref (ad 0 7), .ref (ad 0 5), .int (nI nc), .ref (ad 0 3), .int (nI nt), .int ((nI c) + 1)]) (st' := []) (M' := mm (mr M (up2 r (ad 0 17) q (some (ad 6 (jb c))))) (up2 (up2 f' (ad 0 18) (q) (qv (inRw p nt c))) (ad 0 7) 2 ((nI q) + 1)) g) (ps := []) rfl trivial ?_
          rw [show nI c + 1 = nI (c + 1) from nI_add c 1, show nI q + 1 = nI (q + 1) from nI_add q 1]
          exact ih _ _ (k.add hi h32 (Classical.not_not.mp c21) hq)
      · have rc : r (ad 0 5) c = none := r5.trans (hjn c hlt h32)
        show Go d 52 0 0 14 [.ref (ad 0 7), .ref (ad 0 5), .int (nI nc), .ref (ad 0 3), .int (nI nt), .int (nI c)] [] (mm (mr M r) f' g) R
        refine go_blk 2 [] (pc' := 17) (vs' := [.ref (ad 0 7), .ref (ad 0 5), .int (nI nc), .ref (ad 0 3), .int (nI nt), .int (nI c)]) (st' := [.int (nI nc), .int (nI c)]) (M' := mm (mr M r) f' g) (ps := []) rfl trivial ?_
        refine go_icmp rfl (fun (z : nI nc ≤ (nI c)) => absurd z (show ¬ (nI nc ≤ (nI c)) from (Int32.not_le.mpr ((nI_lts (a := c) (b := nc) (by omega) (by omega)).mpr hlt)))) (fun _ => ?_)
        refine go_blk 2 [] (pc' := 24) (vs' := [.ref (ad 0 7), .ref (ad 0 5), .int (nI nc), .ref (ad 0 3), .int (nI nt), .int (nI c)]) (st' := [.int 7, .int (nI c)]) (M' := mm (mr M r) f' g) (ps := []) rfl trivial ?_
        refine go_icmp rfl (fun (z : 7 ≤ (nI c)) => absurd z (show ¬ (7 ≤ (nI c)) from (Int32.not_le.mpr ((nI_lts (a := c) (b := 7) (by omega) (by decide)).mpr (by omega))))) (fun _ => ?_)
        refine go_blk 3 [some .null] (pc' := 31) (vs' := [.ref (ad 0 7), .ref (ad 0 5), .int (nI nc), .ref (ad 0 3), .int (nI nt), .int (nI c)]) (st' := [.null]) (M' := mm (mr M r) f' g) (ps := [ob (mm (mr M r) f' g) (ad 0 5) 19, 17 ≤ 19 ∧ 19 < 22, vp_in (nI c) (mN (mm (mr M r) f' g) (ad 0 5)), mR (mm (mr M r) f' g) (ad 0 5) ((nI c).toNatClampNeg) = none, va_rf none = .null]) rfl ⟨(hF1.o 5), (by decide), (vpi (hF1.n 5) (show _ < 7 by omega)), (cl_rf rfl (by omega) rc), rfl, trivial⟩ ?_
        refine go_ifnull0 rfl ?_
        refine go_blk 2 [] (pc' := 14) (vs' := [.ref (ad 0 7), .ref (ad 0 5), .int (nI nc), .ref (ad 0 3), .int (nI nt), .int ((nI c) + 1)]) (st' := []) (M' := mm (mr M r) f' g) (ps := []) rfl trivial ?_
        rw [show nI c + 1 = nI (c + 1) from nI_add c 1]
        exact ih r f' (k.skip (fun z => h32 z.1))
  show Go d 52 0 0 0 [.ref (ad 0 7), .ref (ad 0 5), .int (nI nc), .ref (ad 0 3), .int (nI nt), .retAddr 0] [] (mm M f g) R
  refine go_blk 8 [] (pc' := 14) (vs' := [.ref (ad 0 7), .ref (ad 0 5), .int (nI nc), .ref (ad 0 3), .int (nI nt), .int 0]) (st' := []) (M' := mm M (up2 (up2 f (ad 0 7) 2 0) (ad 0 7) 4 (nI nt)) g) (ps := [ob (mm M f g) (ad 0 7) 6, ob (mm M (up2 f (ad 0 7) 2 0) g) (ad 0 7) 6]) rfl ⟨(hF.o 7), (hF.o 7), trivial⟩ ?_
  refine loop 0 (Nat.zero_le _) (mR M) _ ⟨fun _ _ _ _ => rfl, fun a i k z1 z2 => ?_, ?_, up2_s _ _ _ _, fun k hk => absurd hk (Nat.not_lt_zero _)⟩
  · rw [up2_n _ _ (fun y => z2 ⟨(hi _ _ _ _ y.1).1, (hi _ _ _ _ y.1).2, Or.inr y.2⟩), up2_n _ _ (fun y => z2 ⟨(hi _ _ _ _ y.1).1, (hi _ _ _ _ y.1).2, Or.inl y.2⟩)]
  · rw [up2_n _ _ (fun y => absurd y.2 (by decide)), up2_s]; rfl

