/-! the model's planner: findPlan -/
def trG (ad : Nat → Nat → Nat) (f f' : Nat → Nat → Int32) : Prop := ∀ t i k, ¬ (t = 9 ∧ 53 ≤ i ∧ i ≤ 57) → ¬ (t = 10 ∧ i = 0 ∧ 58 ≤ k ∧ k ≤ 61) → ¬ (t = 10 ∧ i = 0 ∧ k = 0) → f' (ad t i) k = f (ad t i) k
theorem tdL_s {p : Nat → Nat → Int32} {c wk : Nat} : tdL p (c + 1) wk = tdL p c wk ++ (if (p 32 (7 * wk + c) == 1 && p 39 (7 * wk + c) == -1) = true then [c] else []) := by
  unfold tdL
  rw [List.range_succ, List.filter_append, List.filter_cons, List.filter_nil]
theorem td_of {p : Nat → Nat → Int32} {nc wk c : Nat} (hc : c < nc) : c ∈ tdL p nc wk ↔ p 32 (7 * wk + c) = 1 ∧ p 39 (7 * wk + c) = -1 := by
  unfold tdL
  rw [List.mem_filter, List.mem_range, Bool.and_eq_true, beq_iff_eq, beq_iff_eq]
  exact ⟨fun h => h.2, fun h => ⟨hc, h⟩⟩
/-- some plan, for a bound -/
theorem plan_ex {p : Nat → Nat → Int32} {nt nc wk : Nat} (h : tdL p nc wk = [] ∨ 0 < nt) : ∃ ρ, isPlan p nt nc wk ρ := by
  rcases h with h | h
  · refine ⟨fun _ => [], ?_⟩
    unfold isPlan
    rw [h]
    have : (List.range nt).flatMap (fun _ => ([] : List Nat)) = [] := by simp
    rw [this]
  · refine ⟨fun t => if t = 0 then tdL p nc wk else [], ?_⟩
    unfold isPlan
    have e : ∀ n, (List.range (n + 1)).flatMap (fun t => if t = 0 then tdL p nc wk else []) = tdL p nc wk := by
      intro n
      induction n with
      | zero => simp
      | succ n ih => rw [List.range_succ, List.flatMap_append, ih]; simp
    obtain ⟨n, hn⟩ : ∃ n, nt = n + 1 := ⟨nt - 1, by omega⟩
    rw [hn, e n]
theorem find_best {p : Nat → Nat → Int32} {nt nc wk nw : Nat} {ad : Nat → Nat → Nat} {f : Nat → Nat → Int32} {z : Nat × Nat × Nat} {x : List Nat} (hP : PW p nt nc wk nw) (hne : tdL p nc wk = [] ∨ 0 < nt) (hZ : MBs ad nt z x f) (hB : BR (KW p nt wk nw) (SFw nt 0 [] (tdL p nc wk)) (pk3 (1000000, 1000000, 1000000)) [] (pk3 z) x) :
    ∃ ρ, isBest p nt nc wk nw ρ ∧ pl3 p nt wk nw ρ nt = z ∧ (f (ad 10 0) 59 = nI z.1 ∧ f (ad 10 0) 60 = nI z.2.1 ∧ f (ad 10 0) 61 = nI z.2.2) ∧ ∀ t, t < 3 → (ρ t).length ≤ 7 ∧ f (ad 9 56) t = nI (ρ t).length ∧ ∀ i, i < (ρ t).length → f (ad 9 55) (7 * t + i) = nI ((ρ t).getD i 0) := by
  have sf : ∀ w, SFw nt 0 [] (tdL p nc wk) w ↔ Full nt 0 (tdL p nc wk) w := fun w => ⟨fun ⟨u, h1, h2⟩ => by rw [h1, List.nil_append]; exact h2, fun h => ⟨w, rfl, h⟩⟩
  rcases hB with ⟨-, -, h3⟩ | ⟨h1, h2, h3, h4⟩
  · obtain ⟨ρ, hρ⟩ := plan_ex hne
    have y := h3 _ ((sf _).mpr (plan_full' hP hρ))
    rw [plan_K hP hρ] at y
    obtain ⟨i1, i2, i3, i4⟩ := plan_ct hP hρ nt (Nat.le_refl _)
    have ln := plan_len hρ
    have l7 := td_le (p := p) (nc := nc) (wk := wk)
    have nc7 := hP.2.2.2
    exfalso
    unfold pk3 at y
    simp only at y
    omega
  · rcases hZ.2 with ⟨b, ρ, g1, g2, g3, g4⟩ | hz
    · have g7 : ∀ t, ∀ x ∈ ρ t, ¬ x = 7 := fun t x hx => by have := g3 t x hx; omega
      rw [g1] at h1 h2 h4
      have pl := (plan_full hP g2 g7).mp ((sf _).mp h1)
      refine ⟨ρ, best_of hP pl g2 (fun w hw => h4 w ((sf w).mpr hw)), ?_, hZ.1, g4⟩
      rw [plan_K hP pl] at h2
      exact (pk3_eq ⟨b.2.1, b.2.2⟩ (plan_bd hP pl) h2).symm
    · rw [hz] at h2
      omega

set_option maxHeartbeats 4000000 in
set_option maxRecDepth 100000 in
theorem s_Mo_findPlan {d : Nat} {M : Mem} {f : Nat → Nat → Int32} {g : Nat → Nat → Int64} {ad : Nat → Nat → Nat} {R : Option Value → Mem → Prop} {p : Nat → Nat → Int32} {nt nc wk nw : Nat} (hd : 30 ≤ d) (hi : Inj ad) (hM : Mx M ad) (hP : PW p nt nc wk nw) (nt3 : nt ≤ 3) (hwk : wk < 52) (hnw : nw ≤ 1440) (hT : ∀ t, t < nt → TW p wk t) (hr : ∀ t, t < nt → ∃ n, n ≤ 7 ∧ p 51 t = nI n ∧ ∀ i, i < n → ∃ k, k < 7 ∧ p 50 (7 * t + i) = nI k) (hb : MB p nt nc wk nw ad f) (h21 : f (ad 10 0) 21 = 1) (hj : ∀ c, c < nc → b01 (p 32 (7 * wk + c))) (hR0 : ∀ f', trG ad f f' → ¬ (tdL p nc wk = [] ∨ 0 < nt) → R (some (.int 0)) (mm M f' g)) (hR1 : ∀ f' ρ, trG ad f f' → (tdL p nc wk = [] ∨ 0 < nt) → isBest p nt nc wk nw ρ → (f' (ad 10 0) 59 = nI (pl3 p nt wk nw ρ nt).1 ∧ f' (ad 10 0) 60 = nI (pl3 p nt wk nw ρ nt).2.1 ∧ f' (ad 10 0) 61 = nI (pl3 p nt wk nw ρ nt).2.2) → (∀ t, t < 3 → (ρ t).length ≤ 7 ∧ f' (ad 9 56) t = nI (ρ t).length ∧ ∀ i, i < (ρ t).length → f' (ad 9 55) (7 * t + i) = nI ((ρ t).getD i 0)) → R (some (.int 1)) (mm M f' g)) : Call d 220 [.ref (ad 10 0)] (mm M f g) R := by
  have nc7 := hP.2.2.2
  obtain ⟨f0, hf0⟩ : ∃ f0, up2 (up2 f (ad 10 0) 0 0) (ad 10 0) 58 0 = f0 := ⟨_, rfl⟩
  have t0 : trG ad f f0 := fun t i k z1 z2 z3 => by
    rw [← hf0]
    simp only [up2_ad hi]
    rw [if_neg (by omega), if_neg (by omega)]
  have f58 : f0 (ad 10 0) 58 = nI 0 := by rw [← hf0]; exact up2_s _ _ _ _
  have b0 : MB p nt nc wk nw ad f0 := by
    obtain ⟨g1, g2, g3, g4, g5, g6⟩ := hb
    refine ⟨fun i k hp => (t0 9 i k (fun y => ppS_n hp y.2) (by omega) (by omega)).trans (g1 i k hp), ?_, ?_, ?_, ?_, ?_⟩
    · rw [t0 10 0 31 (by omega) (by omega) (by omega)]; exact g2
    · rw [t0 10 0 17 (by omega) (by omega) (by omega)]; exact g3
    · rw [t0 10 0 19 (by omega) (by omega) (by omega)]; exact g4
    · rw [t0 10 0 20 (by omega) (by omega) (by omega)]; exact g5
    · rw [t0 10 0 30 (by omega) (by omega) (by omega)]; exact g6
  have td7 := td_le (p := p) (nc := nc) (wk := wk)
  have tail : ∀ f', trF ad f0 f' → MN ad nc (fun _ => []) (tdL p nc wk) f' → MBs ad nt (1000000, 1000000, 1000000) [] f' → (tdL p nc wk = [] ∨ 0 < nt) → Go d 220 0 0 153 [.ref (ad 10 0), .int (nI 3)] [] (mm M f' g) R := by
    intro f' k1 k2 k3 hne
    have kb := b0.tr k1
    have fin : ∀ f2 z2 x2, trF ad f' f2 → MBs ad nt z2 x2 f2 → BR (KW p nt wk nw) (SFw nt 0 [] (tdL p nc wk)) (pk3 (1000000, 1000000, 1000000)) [] (pk3 z2) x2 → R (some (.int 1)) (mm M f2 g) := fun f2 z2 x2 e1 e3 e4 => by
      obtain ⟨ρ, r1, r2, r3, r4⟩ := find_best hP hne e3 e4
      refine hR1 f2 ρ (fun t i k z1 z2 z3 => ((k1.trans e1) t i k z1 z2).trans (t0 t i k z1 z2 z3)) hne r1 (by rw [r2]; exact r3) r4
    have ln0 : lnR (fun _ => ([] : List Nat)) 3 = 0 := rfl
    have tn : ∀ s : Nat × Nat × Nat, (0 < nt → s = s0N p wk nw 0) → TN p nt nc wk nw 0 (s0N p wk nw 0) (fun _ => []) (tdL p nc wk) (0, 0, 0) [] 0 := fun s hs => by
      refine ⟨Nat.zero_le _, fun z => hP.s0 z, ⟨td_nd, fun c hc => hc⟩, by omega, ⟨Nat.zero_le _, Nat.zero_le _, Nat.zero_le _⟩, by rw [ln0]; exact Nat.le_refl _, fun _ _ => rfl, fun _ => rfl, fun t x hx => (by cases hx), rfl, fun w => ?_⟩
      rw [List.nil_append]
      unfold KW pk3
      simp only [Nat.zero_mul, Nat.zero_add]
    have TR : ∀ (a2 a3 a4 : Int32) (R' : Option Value → Mem → Prop), (0 < nt → a2 = nI (s0N p wk nw 0).1 ∧ a3 = nI (s0N p wk nw 0).2.1 ∧ a4 = nI (s0N p wk nw 0).2.2) → (∀ f2 z2 x2, trF ad f' f2 → MBs ad nt z2 x2 f2 → BR (KW p nt wk nw) (SFw nt 0 [] (tdL p nc wk)) (pk3 (1000000, 1000000, 1000000)) [] (pk3 z2) x2 → R' none (mm M f2 g)) → Call (d - 1) 218 [.ref (ad 10 0), .int 0, .int a2, .int a3, .int a4, .int 0, .int 0, .int 0] (mm M f' g) R' := fun a2 a3 a4 R' ha hR' =>
      s_Mo_tryRows hi hM hP nt3 hwk hnw hT hr 20 (d - 1) 0 (s0N p wk nw 0) (fun _ => []) (tdL p nc wk) (0, 0, 0) [] 0 f' (1000000, 1000000, 1000000) [] a2 a3 a4 R' (by omega) (by omega) kb k2 k3 (tn _ (fun _ => rfl)) ha (fun f2 z2 x2 e1 _ e3 e4 => hR' f2 z2 x2 e1 e3 e4)
    by_cases h0 : nt = 0
    ·
      show Go d 220 0 0 153 [.ref (ad 10 0), .int (nI 3)] [] (mm M f' g) R
      refine go_blk 2 [some (.int (nI nt))] (pc' := 157) (vs' := [.ref (ad 10 0), .int (nI 3)]) (st' := [.int (nI nt)]) (M' := mm M f' g) (ps := [ob (mm M f' g) (ad 10 0) 12, (Value.int (f' (ad 10 0) 30)) = .int (nI nt)]) rfl ⟨hM.1, congrArg Value.int kb.2.2.2.2.2, trivial⟩ ?_
      refine go_if rfl (fun (z : ¬ (nI nt) = 0) => absurd z (show ¬ (¬ (nI nt) = 0) from (fun z => z (by rw [h0]; rfl)))) (fun _ => ?_)
      refine go_blk 8 [] (pc' := 168) (vs' := [.ref (ad 10 0), .int (nI 3)]) (st' := [.int 0, .int 0, .int 0, .int 0, .int 0, .int 0, .int 0, .ref (ad 10 0)]) (M' := mm M f' g) (ps := []) rfl trivial ?_
      refine go_callV rfl rfl rfl (by omega) rfl (by decide) (by decide) hM.1 ?_
      refine TR _ _ _ _ (fun z => absurd z (by omega)) (fun f2 z2 x2 e1 e3 e4 => ⟨ne_v, ?_⟩)
      · -- ('v',)
        show Go d 220 0 0 171 [.ref (ad 10 0), .int (nI 3)] [] (mm M f2 g) R
        refine go_blk 2 [] (pc' := 200) (vs' := [.ref (ad 10 0), .int (nI 3)]) (st' := [.int 1]) (M' := mm M f2 g) (ps := []) rfl trivial ?_
        refine go_zret rfl rfl (Or.inr rfl) ?_
        exact fin f2 z2 x2 e1 e3 e4
    ·
      show Go d 220 0 0 153 [.ref (ad 10 0), .int (nI 3)] [] (mm M f' g) R
      refine go_blk 2 [some (.int (nI nt))] (pc' := 157) (vs' := [.ref (ad 10 0), .int (nI 3)]) (st' := [.int (nI nt)]) (M' := mm M f' g) (ps := [ob (mm M f' g) (ad 10 0) 12, (Value.int (f' (ad 10 0) 30)) = .int (nI nt)]) rfl ⟨hM.1, congrArg Value.int kb.2.2.2.2.2, trivial⟩ ?_
      refine go_if rfl (fun _ => ?_) (fun (z : ¬ (¬ (nI nt) = 0)) => absurd (show ¬ (nI nt) = 0 from (nI_ne0 (n := nt) (by omega) (by omega))) z)
      refine go_blk 4 [] (pc' := 178) (vs' := [.ref (ad 10 0), .int (nI 3)]) (st' := [.int 0, .ref (ad 10 0), .int 0, .ref (ad 10 0)]) (M' := mm M f' g) (ps := []) rfl trivial ?_
      refine go_callV rfl rfl rfl (by omega) rfl (by decide) (by decide) hM.1 ?_
      refine s_Mo_startTime (t := 0) (by omega) hM kb (by omega) hwk hnw (hT 0 (by omega)) ⟨ne_i, ?_⟩
      show Go d 220 0 0 181 [.ref (ad 10 0), .int (nI 3)] [.int (nI (stN p wk nw 0)), .int 0, .ref (ad 10 0)] (mm M f' g) R
      refine go_blk 11 [some (.ref (ad 9 48)), some (.int (nI (s0N p wk nw 0).2.1)), some (.ref (ad 9 47)), some (.int (nI (s0N p wk nw 0).2.2))] (pc' := 196) (vs' := [.ref (ad 10 0), .int (nI 3)]) (st' := [.int 0, .int 0, .int 0, .int (nI (s0N p wk nw 0).2.2), .int (nI (s0N p wk nw 0).2.1), .int (nI (stN p wk nw 0)), .int 0, .ref (ad 10 0)]) (M' := mm M f' g) (ps := [ob (mm M f' g) (ad 10 0) 12, mR (mm M f' g) (ad 10 0) 48 = some (ad 9 48), va_rf (some (ad 9 48)) = .ref (ad 9 48), ob (mm M f' g) (ad 9 48) 15, vp_in 0 (mN (mm M f' g) (ad 9 48)), (Value.int (f' (ad 9 48) ((0 : Int32).toNatClampNeg))) = .int (nI (s0N p wk nw 0).2.1), ob (mm M f' g) (ad 10 0) 12, mR (mm M f' g) (ad 10 0) 47 = some (ad 9 47), va_rf (some (ad 9 47)) = .ref (ad 9 47), ob (mm M f' g) (ad 9 47) 15, vp_in 0 (mN (mm M f' g) (ad 9 47)), (Value.int (f' (ad 9 47) ((0 : Int32).toNatClampNeg))) = .int (nI (s0N p wk nw 0).2.2)]) rfl ⟨hM.1, (hM.r 48 15 3), rfl, (hM.o 48 15 3), (vp_eq (show (0 : Int32) = nI 0 from rfl) (vpi (hM.n 48 15 3) (by omega))), congrArg Value.int ((congrArg (fun z => f' (ad 9 48) z) (cl_of (show (0 : Int32) = nI 0 from rfl) (by omega))).trans ((kb.1 48 _ rfl).trans (rg_n (hP.2.1 0 (by omega)).2.2.1 (by decide)).1)), hM.1, (hM.r 47 15 3), rfl, (hM.o 47 15 3), (vp_eq (show (0 : Int32) = nI 0 from rfl) (vpi (hM.n 47 15 3) (by omega))), congrArg Value.int ((congrArg (fun z => f' (ad 9 47) z) (cl_of (show (0 : Int32) = nI 0 from rfl) (by omega))).trans ((kb.1 47 _ rfl).trans (rg_n (hP.2.1 0 (by omega)).2.2.2 (by decide)).1)), trivial⟩ ?_
      refine go_callV rfl rfl rfl (by omega) rfl (by decide) (by decide) hM.1 ?_
      refine TR _ _ _ _ (fun _ => ⟨rfl, rfl, rfl⟩) (fun f2 z2 x2 e1 e3 e4 => ⟨ne_v, ?_⟩)
      · -- ('v',)
        show Go d 220 0 0 199 [.ref (ad 10 0), .int (nI 3)] [] (mm M f2 g) R
        refine go_blk 1 [] (pc' := 200) (vs' := [.ref (ad 10 0), .int (nI 3)]) (st' := [.int 1]) (M' := mm M f2 g) (ps := []) rfl trivial ?_
        refine go_zret rfl rfl (Or.inr rfl) ?_
        exact fin f2 z2 x2 e1 e3 e4
  have mid : (tdL p nc wk = [] ∨ 0 < nt) → ∀ t, t ≤ 3 → ∀ f', trF ad f0 f' → (∀ c, c < nc → f' (ad 9 57) c = if c ∈ tdL p nc wk then 1 else 0) → f' (ad 10 0) 58 = nI (tdL p nc wk).length → (f' (ad 10 0) 59 = nI 1000000 ∧ f' (ad 10 0) 60 = nI 1000000 ∧ f' (ad 10 0) 61 = nI 1000000) → (∀ k, k < t → f' (ad 9 54) k = 0) → Go d 220 0 0 135 [.ref (ad 10 0), .int (nI t)] [] (mm M f' g) R := by
    intro hne
    refine up_ind (P := fun t => ∀ f', trF ad f0 f' → (∀ c, c < nc → f' (ad 9 57) c = if c ∈ tdL p nc wk then 1 else 0) → f' (ad 10 0) 58 = nI (tdL p nc wk).length → (f' (ad 10 0) 59 = nI 1000000 ∧ f' (ad 10 0) 60 = nI 1000000 ∧ f' (ad 10 0) 61 = nI 1000000) → (∀ k, k < t → f' (ad 9 54) k = 0) → Go d 220 0 0 135 [.ref (ad 10 0), .int (nI t)] [] (mm M f' g) R) 3 (fun f' k1 k2 k3 k4 k5 => ?_) (fun t hlt ih f' k1 k2 k3 k4 k5 => ?_)
    ·
      show Go d 220 0 0 135 [.ref (ad 10 0), .int (nI 3)] [] (mm M f' g) R
      refine go_blk 2 [] (pc' := 137) (vs' := [.ref (ad 10 0), .int (nI 3)]) (st' := [.int 3, .int (nI 3)]) (M' := mm M f' g) (ps := []) rfl trivial ?_
      refine go_icmp rfl (fun _ => ?_) (fun (z : ¬ (3 ≤ (nI 3))) => absurd (show 3 ≤ (nI 3) from (by decide)) z)
      exact tail f' k1 ⟨k2, k3, fun t ht => ⟨k5 t ht, fun i hlt => absurd hlt (Nat.not_lt_zero _)⟩⟩ ⟨k4, Or.inr rfl⟩ hne
    ·
      show Go d 220 0 0 135 [.ref (ad 10 0), .int (nI t)] [] (mm M f' g) R
      refine go_blk 2 [] (pc' := 137) (vs' := [.ref (ad 10 0), .int (nI t)]) (st' := [.int 3, .int (nI t)]) (M' := mm M f' g) (ps := []) rfl trivial ?_
      refine go_icmp rfl (fun (z : 3 ≤ (nI t)) => absurd z (show ¬ (3 ≤ (nI t)) from (Int32.not_le.mpr ((nI_lts (a := t) (b := 3) (by omega) (by omega)).mpr hlt)))) (fun _ => ?_)
      refine go_blk 7 [some (.ref (ad 9 54))] (pc' := 135) (vs' := [.ref (ad 10 0), .int ((nI t) + 1)]) (st' := []) (M' := mm M (up2 f' (ad 9 54) ((nI t).toNatClampNeg) 0) g) (ps := [ob (mm M f' g) (ad 10 0) 12, mR (mm M f' g) (ad 10 0) 54 = some (ad 9 54), va_rf (some (ad 9 54)) = .ref (ad 9 54), ob (mm M f' g) (ad 9 54) 15, vp_in (nI t) (mN (mm M f' g) (ad 9 54))]) rfl ⟨hM.1, (hM.r 54 15 3), rfl, (hM.o 54 15 3), (vpi (hM.n 54 15 3) (by omega)), trivial⟩ ?_
      rw [nI_clamp (n := t) (by omega)]
      rw [show nI t + 1 = nI (t + 1) from nI_add t 1]
      refine ih _ (k1.up hi (Or.inl (by omega))) (fun c hc => ?_) ?_ ⟨?_, ?_, ?_⟩ (fun k hk => ?_)
      · rw [up2_n _ _ (fun y => absurd (hi _ _ _ _ y.1).2 (by decide))]; exact k2 c hc
      · rw [up2_n _ _ (fun y => absurd (hi _ _ _ _ y.1).1 (by decide))]; exact k3
      · rw [up2_n _ _ (fun y => absurd (hi _ _ _ _ y.1).1 (by decide))]; exact k4.1
      · rw [up2_n _ _ (fun y => absurd (hi _ _ _ _ y.1).1 (by decide))]; exact k4.2.1
      · rw [up2_n _ _ (fun y => absurd (hi _ _ _ _ y.1).1 (by decide))]; exact k4.2.2
      · by_cases e : k = t
        · rw [e, up2_s]
        · rw [up2_n _ _ (fun y => e y.2)]; exact k5 k (by omega)
  have fst : ∀ c, c ≤ nc → ∀ f', trF ad f0 f' → (∀ c', c' < c → f' (ad 9 57) c' = if c' ∈ tdL p nc wk then 1 else 0) → f' (ad 10 0) 58 = nI (tdL p c wk).length → Go d 220 0 0 21 [.ref (ad 10 0), .int (nI c)] [] (mm M f' g) R := by
    refine up_ind (P := fun c => ∀ f', trF ad f0 f' → (∀ c', c' < c → f' (ad 9 57) c' = if c' ∈ tdL p nc wk then 1 else 0) → f' (ad 10 0) 58 = nI (tdL p c wk).length → Go d 220 0 0 21 [.ref (ad 10 0), .int (nI c)] [] (mm M f' g) R) nc (fun f' k1 k2 k3 => ?_) (fun c hlt ih f' k1 k2 k3 => ?_)
    · have kb := b0.tr k1
      obtain ⟨q, hq⟩ : ∃ q, (tdL p nc wk).length = q := ⟨_, rfl⟩
      rw [hq] at k3
      by_cases hne : tdL p nc wk = [] ∨ 0 < nt
      · have hq0 : nt = 0 → q = 0 := fun z => by
          rcases hne with y | y
          · rw [y] at hq; exact hq.symm
          · omega
        show Go d 220 0 0 21 [.ref (ad 10 0), .int (nI nc)] [] (mm M f' g) R
        refine go_blk 3 [some (.int (nI nc))] (pc' := 26) (vs' := [.ref (ad 10 0), .int (nI nc)]) (st' := [.int (nI nc), .int (nI nc)]) (M' := mm M f' g) (ps := [ob (mm M f' g) (ad 10 0) 12, (Value.int (f' (ad 10 0) 17)) = .int (nI nc)]) rfl ⟨hM.1, congrArg Value.int kb.2.2.1, trivial⟩ ?_
        refine go_icmp rfl (fun _ => ?_) (fun (z : ¬ (nI nc ≤ (nI nc))) => absurd (show nI nc ≤ (nI nc) from Int32.le_refl _) z)
        refine go_blk 2 [some (.int (nI nt))] (pc' := 100) (vs' := [.ref (ad 10 0), .int (nI nc)]) (st' := [.int (nI nt)]) (M' := mm M f' g) (ps := [ob (mm M f' g) (ad 10 0) 12, (Value.int (f' (ad 10 0) 30)) = .int (nI nt)]) rfl ⟨hM.1, congrArg Value.int kb.2.2.2.2.2, trivial⟩ ?_
        refine go_if rfl (fun (c21 : ¬ (nI nt) = 0) => ?_) (fun (c21 : ¬ (¬ (nI nt) = 0)) => ?_)
        · -- ¬ (nI nt) = 0
          have nc21 : ¬ nt = 0 := fun q => c21 ((nI_eqs (a := nt) (b := 0) (by omega) (by omega)).mpr q)
          refine go_blk 11 [] (pc' := 135) (vs' := [.ref (ad 10 0), .int 0]) (st' := []) (M' := mm M (up2 (up2 (up2 f' (ad 10 0) 59 1000000) (ad 10 0) 60 1000000) (ad 10 0) 61 1000000) g) (ps := [ob (mm M f' g) (ad 10 0) 12, ob (mm M (up2 f' (ad 10 0) 59 1000000) g) (ad 10 0) 12, ob (mm M (up2 (up2 f' (ad 10 0) 59 1000000) (ad 10 0) 60 1000000) g) (ad 10 0) 12]) rfl ⟨hM.1, hM.1, hM.1, trivial⟩ ?_
          exact mid hne 0 (by omega) _ (((k1.up hi (Or.inr (by omega))).up hi (Or.inr (by omega))).up hi (Or.inr (by omega))) (fun c hc => by rw [up2_n _ _ (fun y => absurd (hi _ _ _ _ y.1).1 (by decide)), up2_n _ _ (fun y => absurd (hi _ _ _ _ y.1).1 (by decide)), up2_n _ _ (fun y => absurd (hi _ _ _ _ y.1).1 (by decide))]; exact k2 c hc) (by rw [up2_n _ _ (fun y => absurd y.2 (by decide)), up2_n _ _ (fun y => absurd y.2 (by decide)), up2_n _ _ (fun y => absurd y.2 (by decide)), hq]; exact k3) ⟨by rw [up2_n _ _ (fun y => absurd y.2 (by decide)), up2_n _ _ (fun y => absurd y.2 (by decide)), up2_s]; rfl, by rw [up2_n _ _ (fun y => absurd y.2 (by decide)), up2_s]; rfl, by rw [up2_s]; rfl⟩ (fun k hk => absurd hk (by omega))
        · -- ¬ (¬ (nI nt) = 0)
          have nc21 : nt = 0 := (nI_eqs (a := nt) (b := 0) (by omega) (by omega)).mp (Classical.not_not.mp c21)
          refine go_blk 2 [some (.int (nI q))] (pc' := 107) (vs' := [.ref (ad 10 0), .int (nI nc)]) (st' := [.int (nI q)]) (M' := mm M f' g) (ps := [ob (mm M f' g) (ad 10 0) 12, (Value.int (f' (ad 10 0) 58)) = .int (nI q)]) rfl ⟨hM.1, congrArg Value.int k3, trivial⟩ ?_
          refine go_if rfl (fun _ => ?_) (fun (z : ¬ ((nI q) ≤ 0)) => absurd (show (nI q) ≤ 0 from (by rw [hq0 (Classical.byContradiction (fun y => c21 (nI_ne0 (n := nt) (by omega) (by omega))))]; decide)) z)
          refine go_blk 11 [] (pc' := 135) (vs' := [.ref (ad 10 0), .int 0]) (st' := []) (M' := mm M (up2 (up2 (up2 f' (ad 10 0) 59 1000000) (ad 10 0) 60 1000000) (ad 10 0) 61 1000000) g) (ps := [ob (mm M f' g) (ad 10 0) 12, ob (mm M (up2 f' (ad 10 0) 59 1000000) g) (ad 10 0) 12, ob (mm M (up2 (up2 f' (ad 10 0) 59 1000000) (ad 10 0) 60 1000000) g) (ad 10 0) 12]) rfl ⟨hM.1, hM.1, hM.1, trivial⟩ ?_
          exact mid hne 0 (by omega) _ (((k1.up hi (Or.inr (by omega))).up hi (Or.inr (by omega))).up hi (Or.inr (by omega))) (fun c hc => by rw [up2_n _ _ (fun y => absurd (hi _ _ _ _ y.1).1 (by decide)), up2_n _ _ (fun y => absurd (hi _ _ _ _ y.1).1 (by decide)), up2_n _ _ (fun y => absurd (hi _ _ _ _ y.1).1 (by decide))]; exact k2 c hc) (by rw [up2_n _ _ (fun y => absurd y.2 (by decide)), up2_n _ _ (fun y => absurd y.2 (by decide)), up2_n _ _ (fun y => absurd y.2 (by decide)), hq]; exact k3) ⟨by rw [up2_n _ _ (fun y => absurd y.2 (by decide)), up2_n _ _ (fun y => absurd y.2 (by decide)), up2_s]; rfl, by rw [up2_n _ _ (fun y => absurd y.2 (by decide)), up2_s]; rfl, by rw [up2_s]; rfl⟩ (fun k hk => absurd hk (by omega))
      ·
        show Go d 220 0 0 21 [.ref (ad 10 0), .int (nI nc)] [] (mm M f' g) R
        refine go_blk 3 [some (.int (nI nc))] (pc' := 26) (vs' := [.ref (ad 10 0), .int (nI nc)]) (st' := [.int (nI nc), .int (nI nc)]) (M' := mm M f' g) (ps := [ob (mm M f' g) (ad 10 0) 12, (Value.int (f' (ad 10 0) 17)) = .int (nI nc)]) rfl ⟨hM.1, congrArg Value.int kb.2.2.1, trivial⟩ ?_
        refine go_icmp rfl (fun _ => ?_) (fun (z : ¬ (nI nc ≤ (nI nc))) => absurd (show nI nc ≤ (nI nc) from Int32.le_refl _) z)
        refine go_blk 2 [some (.int (nI nt))] (pc' := 100) (vs' := [.ref (ad 10 0), .int (nI nc)]) (st' := [.int (nI nt)]) (M' := mm M f' g) (ps := [ob (mm M f' g) (ad 10 0) 12, (Value.int (f' (ad 10 0) 30)) = .int (nI nt)]) rfl ⟨hM.1, congrArg Value.int kb.2.2.2.2.2, trivial⟩ ?_
        refine go_if rfl (fun (z : ¬ (nI nt) = 0) => absurd z (show ¬ (¬ (nI nt) = 0) from (fun z => z (by rw [show nt = 0 by omega]; rfl)))) (fun _ => ?_)
        refine go_blk 2 [some (.int (nI q))] (pc' := 107) (vs' := [.ref (ad 10 0), .int (nI nc)]) (st' := [.int (nI q)]) (M' := mm M f' g) (ps := [ob (mm M f' g) (ad 10 0) 12, (Value.int (f' (ad 10 0) 58)) = .int (nI q)]) rfl ⟨hM.1, congrArg Value.int k3, trivial⟩ ?_
        refine go_if rfl (fun (z : (nI q) ≤ 0) => absurd z (show ¬ ((nI q) ≤ 0) from (fun z => by have := (nI_les (a := q) (b := 0) (by omega) (by decide)).mp z; exact hne (Or.inl (List.length_eq_zero_iff.mp (by omega)))))) (fun _ => ?_)
        refine go_blk 1 [] (pc' := 111) (vs' := [.ref (ad 10 0), .int (nI nc)]) (st' := [.int 0]) (M' := mm M f' g) (ps := []) rfl trivial ?_
        refine go_zret rfl rfl (Or.inl rfl) ?_
        exact hR0 f' (fun t i k z1 z2 z3 => (k1 t i k z1 z2).trans (t0 t i k z1 z2 z3)) hne
    · have kb := b0.tr k1
      obtain ⟨q, hq⟩ : ∃ q, (tdL p c wk).length = q := ⟨_, rfl⟩
      have q7 := td_le (p := p) (nc := c) (wk := wk)
      rw [hq] at k3
      have o57 : ∀ c', c' < c → f' (ad 9 57) c' = if c' ∈ tdL p nc wk then 1 else 0 := k2
      have mem := td_of (p := p) (wk := wk) hlt
      show Go d 220 0 0 21 [.ref (ad 10 0), .int (nI c)] [] (mm M f' g) R
      refine go_blk 3 [some (.int (nI nc))] (pc' := 26) (vs' := [.ref (ad 10 0), .int (nI c)]) (st' := [.int (nI nc), .int (nI c)]) (M' := mm M f' g) (ps := [ob (mm M f' g) (ad 10 0) 12, (Value.int (f' (ad 10 0) 17)) = .int (nI nc)]) rfl ⟨hM.1, congrArg Value.int kb.2.2.1, trivial⟩ ?_
      refine go_icmp rfl (fun (z : nI nc ≤ (nI c)) => absurd z (show ¬ (nI nc ≤ (nI c)) from (Int32.not_le.mpr ((nI_lts (a := c) (b := nc) (by omega) (by omega)).mpr hlt)))) (fun _ => ?_)
      refine go_blk 7 [some (.ref (ad 9 57)), some (.ref (ad 9 32))] (pc' := 40) (vs' := [.ref (ad 10 0), .int (nI c)]) (st' := [.int (nI c), .ref (ad 10 0), .ref (ad 9 32), .int (nI c), .ref (ad 9 57)]) (M' := mm M f' g) (ps := [ob (mm M f' g) (ad 10 0) 12, mR (mm M f' g) (ad 10 0) 57 = some (ad 9 57), va_rf (some (ad 9 57)) = .ref (ad 9 57), ob (mm M f' g) (ad 10 0) 12, mR (mm M f' g) (ad 10 0) 32 = some (ad 9 32), va_rf (some (ad 9 32)) = .ref (ad 9 32)]) rfl ⟨hM.1, (hM.r 57 13 7), rfl, hM.1, (hM.r 32 13 364), rfl, trivial⟩ ?_
      refine go_callV rfl rfl rfl (by omega) rfl (by decide) (by decide) hM.1 ?_
      show Go (d - 1) 207 0 0 0 [.ref (ad 10 0), .int (nI c)] [] (mm M f' g) _
      refine go_blk 6 [some (.int (nI wk))] (pc' := 9) (vs' := [.ref (ad 10 0), .int (nI c)]) (st' := [.int ((7 * (nI wk)) + (nI c))]) (M' := mm M f' g) (ps := [ob (mm M f' g) (ad 10 0) 12, (Value.int (f' (ad 10 0) 19)) = .int (nI wk)]) rfl ⟨hM.1, congrArg Value.int kb.2.2.2.1, trivial⟩ ?_
      refine go_iret rfl rfl ?_
      refine ⟨ne_i, ?_⟩
      show Go d 220 0 0 43 [.ref (ad 10 0), .int (nI c)] [.int ((7 * (nI wk)) + (nI c)), .ref (ad 9 32), .int (nI c), .ref (ad 9 57)] (mm M f' g) R
      refine go_blk 1 [some (.int (p 32 (7 * wk + c)))] (pc' := 44) (vs' := [.ref (ad 10 0), .int (nI c)]) (st' := [.int (p 32 (7 * wk + c)), .int (nI c), .ref (ad 9 57)]) (M' := mm M f' g) (ps := [ob (mm M f' g) (ad 9 32) 13, 13 = 13 ∨ 13 = 14, vp_in ((7 * (nI wk)) + (nI c)) (mN (mm M f' g) (ad 9 32)), (Value.int (f' (ad 9 32) (((7 * (nI wk)) + (nI c)).toNatClampNeg))) = .int (p 32 (7 * wk + c))]) rfl ⟨(hM.o 32 13 364), (by decide), (vp_eq (eq_add (eq_mul (show (7 : Int32) = nI 7 from rfl) rfl) rfl) (vpi (hM.n 32 13 364) (by omega))), congrArg Value.int ((congrArg (fun z => f' (ad 9 32) z) (cl_of (eq_add (eq_mul (show (7 : Int32) = nI 7 from rfl) rfl) rfl) (by omega))).trans (kb.1 32 _ rfl)), trivial⟩ ?_
      refine go_if rfl (fun (c21 : (p 32 (7 * wk + c)) = 0) => ?_) (fun (c21 : ¬ ((p 32 (7 * wk + c)) = 0)) => ?_)
      · -- (p 32 (7 * wk + c)) = 0
        refine go_blk 2 [] (pc' := 67) (vs' := [.ref (ad 10 0), .int (nI c)]) (st' := []) (M' := mm M (up2 f' (ad 9 57) ((nI c).toNatClampNeg) 0) g) (ps := [ob (mm M f' g) (ad 9 57) 13, vp_in (nI c) (mN (mm M f' g) (ad 9 57))]) rfl ⟨(hM.o 57 13 7), (vpi (hM.n 57 13 7) (by omega)), trivial⟩ ?_
        rw [nI_clamp (n := c) (by omega)]
        refine go_blk 7 [some (.int (nI q)), some (.ref (ad 9 57)), some (.int 0)] (pc' := 78) (vs' := [.ref (ad 10 0), .int (nI c)]) (st' := [.int 0, .int (nI q), .ref (ad 10 0)]) (M' := mm M (up2 f' (ad 9 57) (c) 0) g) (ps := [(.ref (ad 10 0) : Value).category = 1, ob (mm M (up2 f' (ad 9 57) (c) 0) g) (ad 10 0) 12, (Value.int ((up2 f' (ad 9 57) (c) 0) (ad 10 0) 58)) = .int (nI q), ob (mm M (up2 f' (ad 9 57) (c) 0) g) (ad 10 0) 12, mR (mm M (up2 f' (ad 9 57) (c) 0) g) (ad 10 0) 57 = some (ad 9 57), va_rf (some (ad 9 57)) = .ref (ad 9 57), ob (mm M (up2 f' (ad 9 57) (c) 0) g) (ad 9 57) 13, 13 = 13 ∨ 13 = 14, vp_in (nI c) (mN (mm M (up2 f' (ad 9 57) (c) 0) g) (ad 9 57)), (Value.int ((up2 f' (ad 9 57) (c) 0) (ad 9 57) ((nI c).toNatClampNeg))) = .int 0]) rfl ⟨rfl, hM.1, congrArg Value.int (((up2_n _ _ (fun z => absurd (hi _ _ _ _ z.1).1 (by decide))).trans (rfl)).trans k3), hM.1, (hM.r 57 13 7), rfl, (hM.o 57 13 7), (by decide), (vpi (hM.n 57 13 7) (by omega)), congrArg Value.int ((congrArg (fun z => (up2 f' (ad 9 57) (c) 0) (ad 9 57) z) (nI_clamp (by omega))).trans (up2_s _ _ _ _)), trivial⟩ ?_
        show Go d 220 0 0 78 [.ref (ad 10 0), .int (nI c)] [.int 0, .int (nI q), .ref (ad 10 0)] (mm M (up2 f' (ad 9 57) (c) 0) g) R
        refine go_if rfl (fun _ => ?_) (fun (z : ¬ ((0 : Int32) = 0)) => absurd (show (0 : Int32) = 0 from (by decide)) z)
        refine go_blk 5 [] (pc' := 21) (vs' := [.ref (ad 10 0), .int ((nI c) + 1)]) (st' := []) (M' := mm M (up2 (up2 f' (ad 9 57) (c) 0) (ad 10 0) 58 ((nI q) + 0)) g) (ps := [ob (mm M (up2 f' (ad 9 57) (c) 0) g) (ad 10 0) 12]) rfl ⟨hM.1, trivial⟩ ?_
        have hin : ¬ c ∈ tdL p nc wk := fun y => (fun z => absurd (z.1.symm.trans c21) (by decide)) (mem.mp y)
        have e1 : (tdL p (c + 1) wk).length = q := by rw [tdL_s, if_neg (fun y => hin (mem.mpr (by rw [Bool.and_eq_true, beq_iff_eq, beq_iff_eq] at y; exact y))), List.append_nil, hq]
        rw [Int32.add_zero, ← e1]
        rw [show nI c + 1 = nI (c + 1) from nI_add c 1]
        refine ih _ ((k1.up hi (Or.inl (by omega))).up hi (Or.inr (by omega))) (fun c' hc' => ?_) (up2_s _ _ _ _)
        rw [up2_n _ _ (fun y => absurd (hi _ _ _ _ y.1).1 (by decide))]
        by_cases e : c' = c
        · rw [e, up2_s, if_neg hin]
        · rw [up2_n _ _ (fun y => e y.2)]; exact o57 c' (by omega)
      · -- ¬ ((p 32 (7 * wk + c)) = 0)
        refine go_blk 4 [some (.ref (ad 9 39))] (pc' := 53) (vs' := [.ref (ad 10 0), .int (nI c)]) (st' := [.int (nI c), .ref (ad 10 0), .ref (ad 9 39), .int (nI c), .ref (ad 9 57)]) (M' := mm M f' g) (ps := [ob (mm M f' g) (ad 10 0) 12, mR (mm M f' g) (ad 10 0) 39 = some (ad 9 39), va_rf (some (ad 9 39)) = .ref (ad 9 39)]) rfl ⟨hM.1, (hM.r 39 15 364), rfl, trivial⟩ ?_
        refine go_callV rfl rfl rfl (by omega) rfl (by decide) (by decide) hM.1 ?_
        show Go (d - 1) 207 0 0 0 [.ref (ad 10 0), .int (nI c)] [] (mm M f' g) _
        refine go_blk 6 [some (.int (nI wk))] (pc' := 9) (vs' := [.ref (ad 10 0), .int (nI c)]) (st' := [.int ((7 * (nI wk)) + (nI c))]) (M' := mm M f' g) (ps := [ob (mm M f' g) (ad 10 0) 12, (Value.int (f' (ad 10 0) 19)) = .int (nI wk)]) rfl ⟨hM.1, congrArg Value.int kb.2.2.2.1, trivial⟩ ?_
        refine go_iret rfl rfl ?_
        refine ⟨ne_i, ?_⟩
        show Go d 220 0 0 56 [.ref (ad 10 0), .int (nI c)] [.int ((7 * (nI wk)) + (nI c)), .ref (ad 9 39), .int (nI c), .ref (ad 9 57)] (mm M f' g) R
        refine go_blk 2 [some (.int (p 39 (7 * wk + c)))] (pc' := 58) (vs' := [.ref (ad 10 0), .int (nI c)]) (st' := [.int (-1), .int (p 39 (7 * wk + c)), .int (nI c), .ref (ad 9 57)]) (M' := mm M f' g) (ps := [ob (mm M f' g) (ad 9 39) 15, vp_in ((7 * (nI wk)) + (nI c)) (mN (mm M f' g) (ad 9 39)), (Value.int (f' (ad 9 39) (((7 * (nI wk)) + (nI c)).toNatClampNeg))) = .int (p 39 (7 * wk + c))]) rfl ⟨(hM.o 39 15 364), (vp_eq (eq_add (eq_mul (show (7 : Int32) = nI 7 from rfl) rfl) rfl) (vpi (hM.n 39 15 364) (by omega))), congrArg Value.int ((congrArg (fun z => f' (ad 9 39) z) (cl_of (eq_add (eq_mul (show (7 : Int32) = nI 7 from rfl) rfl) rfl) (by omega))).trans (kb.1 39 _ rfl)), trivial⟩ ?_
        refine go_icmp rfl (fun (c22 : ¬ (p 39 (7 * wk + c)) = (-1)) => ?_) (fun (c22 : ¬ (¬ (p 39 (7 * wk + c)) = (-1))) => ?_)
        · -- ¬ (p 39 (7 * wk + c)) = (-1)
          refine go_blk 2 [] (pc' := 67) (vs' := [.ref (ad 10 0), .int (nI c)]) (st' := []) (M' := mm M (up2 f' (ad 9 57) ((nI c).toNatClampNeg) 0) g) (ps := [ob (mm M f' g) (ad 9 57) 13, vp_in (nI c) (mN (mm M f' g) (ad 9 57))]) rfl ⟨(hM.o 57 13 7), (vpi (hM.n 57 13 7) (by omega)), trivial⟩ ?_
          rw [nI_clamp (n := c) (by omega)]
          refine go_blk 7 [some (.int (nI q)), some (.ref (ad 9 57)), some (.int 0)] (pc' := 78) (vs' := [.ref (ad 10 0), .int (nI c)]) (st' := [.int 0, .int (nI q), .ref (ad 10 0)]) (M' := mm M (up2 f' (ad 9 57) (c) 0) g) (ps := [(.ref (ad 10 0) : Value).category = 1, ob (mm M (up2 f' (ad 9 57) (c) 0) g) (ad 10 0) 12, (Value.int ((up2 f' (ad 9 57) (c) 0) (ad 10 0) 58)) = .int (nI q), ob (mm M (up2 f' (ad 9 57) (c) 0) g) (ad 10 0) 12, mR (mm M (up2 f' (ad 9 57) (c) 0) g) (ad 10 0) 57 = some (ad 9 57), va_rf (some (ad 9 57)) = .ref (ad 9 57), ob (mm M (up2 f' (ad 9 57) (c) 0) g) (ad 9 57) 13, 13 = 13 ∨ 13 = 14, vp_in (nI c) (mN (mm M (up2 f' (ad 9 57) (c) 0) g) (ad 9 57)), (Value.int ((up2 f' (ad 9 57) (c) 0) (ad 9 57) ((nI c).toNatClampNeg))) = .int 0]) rfl ⟨rfl, hM.1, congrArg Value.int (((up2_n _ _ (fun z => absurd (hi _ _ _ _ z.1).1 (by decide))).trans (rfl)).trans k3), hM.1, (hM.r 57 13 7), rfl, (hM.o 57 13 7), (by decide), (vpi (hM.n 57 13 7) (by omega)), congrArg Value.int ((congrArg (fun z => (up2 f' (ad 9 57) (c) 0) (ad 9 57) z) (nI_clamp (by omega))).trans (up2_s _ _ _ _)), trivial⟩ ?_
          show Go d 220 0 0 78 [.ref (ad 10 0), .int (nI c)] [.int 0, .int (nI q), .ref (ad 10 0)] (mm M (up2 f' (ad 9 57) (c) 0) g) R
          refine go_if rfl (fun _ => ?_) (fun (z : ¬ ((0 : Int32) = 0)) => absurd (show (0 : Int32) = 0 from (by decide)) z)
          refine go_blk 5 [] (pc' := 21) (vs' := [.ref (ad 10 0), .int ((nI c) + 1)]) (st' := []) (M' := mm M (up2 (up2 f' (ad 9 57) (c) 0) (ad 10 0) 58 ((nI q) + 0)) g) (ps := [ob (mm M (up2 f' (ad 9 57) (c) 0) g) (ad 10 0) 12]) rfl ⟨hM.1, trivial⟩ ?_
          have hin : ¬ c ∈ tdL p nc wk := fun y => (fun z => c22 z.2) (mem.mp y)
          have e1 : (tdL p (c + 1) wk).length = q := by rw [tdL_s, if_neg (fun y => hin (mem.mpr (by rw [Bool.and_eq_true, beq_iff_eq, beq_iff_eq] at y; exact y))), List.append_nil, hq]
          rw [Int32.add_zero, ← e1]
          rw [show nI c + 1 = nI (c + 1) from nI_add c 1]
          refine ih _ ((k1.up hi (Or.inl (by omega))).up hi (Or.inr (by omega))) (fun c' hc' => ?_) (up2_s _ _ _ _)
          rw [up2_n _ _ (fun y => absurd (hi _ _ _ _ y.1).1 (by decide))]
          by_cases e : c' = c
          · rw [e, up2_s, if_neg hin]
          · rw [up2_n _ _ (fun y => e y.2)]; exact o57 c' (by omega)
        · -- ¬ (¬ (p 39 (7 * wk + c)) = (-1))
          refine go_blk 3 [] (pc' := 67) (vs' := [.ref (ad 10 0), .int (nI c)]) (st' := []) (M' := mm M (up2 f' (ad 9 57) ((nI c).toNatClampNeg) 1) g) (ps := [ob (mm M f' g) (ad 9 57) 13, vp_in (nI c) (mN (mm M f' g) (ad 9 57))]) rfl ⟨(hM.o 57 13 7), (vpi (hM.n 57 13 7) (by omega)), trivial⟩ ?_
          rw [nI_clamp (n := c) (by omega)]
          refine go_blk 7 [some (.int (nI q)), some (.ref (ad 9 57)), some (.int 1)] (pc' := 78) (vs' := [.ref (ad 10 0), .int (nI c)]) (st' := [.int 1, .int (nI q), .ref (ad 10 0)]) (M' := mm M (up2 f' (ad 9 57) (c) 1) g) (ps := [(.ref (ad 10 0) : Value).category = 1, ob (mm M (up2 f' (ad 9 57) (c) 1) g) (ad 10 0) 12, (Value.int ((up2 f' (ad 9 57) (c) 1) (ad 10 0) 58)) = .int (nI q), ob (mm M (up2 f' (ad 9 57) (c) 1) g) (ad 10 0) 12, mR (mm M (up2 f' (ad 9 57) (c) 1) g) (ad 10 0) 57 = some (ad 9 57), va_rf (some (ad 9 57)) = .ref (ad 9 57), ob (mm M (up2 f' (ad 9 57) (c) 1) g) (ad 9 57) 13, 13 = 13 ∨ 13 = 14, vp_in (nI c) (mN (mm M (up2 f' (ad 9 57) (c) 1) g) (ad 9 57)), (Value.int ((up2 f' (ad 9 57) (c) 1) (ad 9 57) ((nI c).toNatClampNeg))) = .int 1]) rfl ⟨rfl, hM.1, congrArg Value.int (((up2_n _ _ (fun z => absurd (hi _ _ _ _ z.1).1 (by decide))).trans (rfl)).trans k3), hM.1, (hM.r 57 13 7), rfl, (hM.o 57 13 7), (by decide), (vpi (hM.n 57 13 7) (by omega)), congrArg Value.int ((congrArg (fun z => (up2 f' (ad 9 57) (c) 1) (ad 9 57) z) (nI_clamp (by omega))).trans (up2_s _ _ _ _)), trivial⟩ ?_
          show Go d 220 0 0 78 [.ref (ad 10 0), .int (nI c)] [.int 1, .int (nI q), .ref (ad 10 0)] (mm M (up2 f' (ad 9 57) (c) 1) g) R
          refine go_if rfl (fun (z : (1 : Int32) = 0) => absurd z (show ¬ ((1 : Int32) = 0) from (by decide))) (fun _ => ?_)
          refine go_blk 6 [] (pc' := 21) (vs' := [.ref (ad 10 0), .int ((nI c) + 1)]) (st' := []) (M' := mm M (up2 (up2 f' (ad 9 57) (c) 1) (ad 10 0) 58 ((nI q) + 1)) g) (ps := [ob (mm M (up2 f' (ad 9 57) (c) 1) g) (ad 10 0) 12]) rfl ⟨hM.1, trivial⟩ ?_
          have hin : c ∈ tdL p nc wk := mem.mpr ⟨b01_1 (hj c hlt) c21, Classical.not_not.mp c22⟩
          have e1 : (tdL p (c + 1) wk).length = q + 1 := by rw [tdL_s, if_pos (by rw [(mem.mp hin).1, (mem.mp hin).2]; rfl), List.length_append, hq]; rfl
          rw [show nI q + 1 = nI (q + 1) from nI_add q 1, ← e1]
          rw [show nI c + 1 = nI (c + 1) from nI_add c 1]
          refine ih _ ((k1.up hi (Or.inl (by omega))).up hi (Or.inr (by omega))) (fun c' hc' => ?_) (up2_s _ _ _ _)
          rw [up2_n _ _ (fun y => absurd (hi _ _ _ _ y.1).1 (by decide))]
          by_cases e : c' = c
          · rw [e, up2_s, if_pos hin]
          · rw [up2_n _ _ (fun y => e y.2)]; exact o57 c' (by omega)
  show Go d 220 0 0 0 [.ref (ad 10 0), .retAddr 0] [] (mm M f g) R
  refine go_blk 5 [some (.int 1)] (pc' := 9) (vs' := [.ref (ad 10 0), .retAddr 0]) (st' := [.int 1]) (M' := mm M (up2 f (ad 10 0) 0 0) g) (ps := [ob (mm M f g) (ad 10 0) 12, ob (mm M (up2 f (ad 10 0) 0 0) g) (ad 10 0) 12, (Value.int ((up2 f (ad 10 0) 0 0) (ad 10 0) 21)) = .int 1]) rfl ⟨hM.1, hM.1, congrArg Value.int (((up2_n _ _ (fun z => absurd z.2 (by decide))).trans (rfl)).trans h21), trivial⟩ ?_
  refine go_if rfl (fun _ => ?_) (fun (z : ¬ (¬ (1 : Int32) = 0)) => absurd (show ¬ (1 : Int32) = 0 from (by decide)) z)
  refine go_blk 5 [] (pc' := 21) (vs' := [.ref (ad 10 0), .int 0]) (st' := []) (M' := mm M (up2 (up2 f (ad 10 0) 0 0) (ad 10 0) 58 0) g) (ps := [ob (mm M (up2 f (ad 10 0) 0 0) g) (ad 10 0) 12]) rfl ⟨hM.1, trivial⟩ ?_
  rw [hf0]
  exact fst 0 (Nat.zero_le _) f0 (trF.refl _ _) (fun c' hc' => absurd hc' (by omega)) f58

set_option maxHeartbeats 4000000 in
set_option maxRecDepth 100000 in
theorem s_Mo_findPlan0 {d : Nat} {M : Mem} {f : Nat → Nat → Int32} {g : Nat → Nat → Int64} {ad : Nat → Nat → Nat} {R : Option Value → Mem → Prop} (hd : 0 ≤ d) (hM : Mx M ad) (h21 : f (ad 10 0) 21 = 0) (hR : R (some (.int 0)) (mm M (up2 f (ad 10 0) 0 0) g)) : Call d 220 [.ref (ad 10 0)] (mm M f g) R := by
  show Go d 220 0 0 0 [.ref (ad 10 0), .retAddr 0] [] (mm M f g) R
  refine go_blk 5 [some (.int 0)] (pc' := 9) (vs' := [.ref (ad 10 0), .retAddr 0]) (st' := [.int 0]) (M' := mm M (up2 f (ad 10 0) 0 0) g) (ps := [ob (mm M f g) (ad 10 0) 12, ob (mm M (up2 f (ad 10 0) 0 0) g) (ad 10 0) 12, (Value.int ((up2 f (ad 10 0) 0 0) (ad 10 0) 21)) = .int 0]) rfl ⟨hM.1, hM.1, congrArg Value.int (((up2_n _ _ (fun z => absurd z.2 (by decide))).trans (rfl)).trans h21), trivial⟩ ?_
  refine go_if rfl (fun (z : ¬ (0 : Int32) = 0) => absurd z (show ¬ (¬ (0 : Int32) = 0) from (by decide))) (fun _ => ?_)
  refine go_blk 1 [] (pc' := 13) (vs' := [.ref (ad 10 0), .retAddr 0]) (st' := [.int 0]) (M' := mm M (up2 f (ad 10 0) 0 0) g) (ps := []) rfl trivial ?_
  refine go_zret rfl rfl (Or.inl rfl) ?_
  exact hR

