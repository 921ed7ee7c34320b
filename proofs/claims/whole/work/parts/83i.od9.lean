/-! openDay: makeJobs, the loop -/
set_option maxHeartbeats 4000000 in
set_option maxRecDepth 100000 in
theorem s_CY_makeJobs {d : Nat} {R : Option Value → Mem → Prop} {r0 : Nat → Nat → Option Nat} {f0 : Nat → Nat → Int32} {M0 : Mem} {a0 : Nat → Nat → Nat} {nc nb nt wk nw nx nl ne nk kd : Nat} {Q W : Nat → Option Nat} (hd : 3 ≤ d) (hW : WI M0 a0 nc nb nt wk nw nx nl ne nk kd false) (hwk : wk < 52) (hQb : ∀ c b, c < nc → Q c = some b → b < nb) (hQn : ∀ c, c < nc → Q c = none → mR M0 (a0 0 4) (7 * wk + c) = none) (hWb : ∀ c b, c < nc → W c = some b → b < nb ∧ mI M0 (a0 9 6) b = nI c ∧ mI M0 (a0 9 7) b + 1 = nI wk ∧ ¬ hJ (vw a0 (mI M0)) wk false b) (hWu : ∀ c c' b, c < nc → c' < c → W c = some b → ¬ W c' = some b) (hW0 : wk = 0 → ∀ c, c < nc → W c = none) (hWs : ∀ w, w + 1 = wk → ∀ c, c < nc → mR M0 (a0 0 4) (7 * w + c) = (W c).map (a0 2)) (h0 : JSb M0 a0 nc nb nt nx wk ne Q W 0 M0 a0 r0 f0) (hR : ∀ M ad r f, JSb M0 a0 nc nb nt nx wk ne Q W nc M ad r f → R (some (.int (nI (cnQ W nc)))) (mm (mr M r) f (mJ M))) : Call d 172 [.ref (a0 0 0)] (mm (mr M0 r0) f0 (mJ M0)) R := by
  have key : ∀ c, c ≤ nc → ∀ (M : Mem) (ad : Nat → Nat → Nat) (r : Nat → Nat → Option Nat) (f : Nat → Nat → Int32) (u3 : Value) (bc bs : Nat), JSb M0 a0 nc nb nt nx wk ne Q W c M ad r f → 7 ≤ bc + c → 84 ≤ bs + 12 * c → Go d 172 bc bs 4 [.ref (ad 0 0), .int (nI (cnQ W c)), .int (nI c), u3] [] (mm (mr M r) f (mJ M)) R := by
    refine up_ind (P := fun c => ∀ (M : Mem) (ad : Nat → Nat → Nat) (r : Nat → Nat → Option Nat) (f : Nat → Nat → Int32) (u3 : Value) (bc bs : Nat), JSb M0 a0 nc nb nt nx wk ne Q W c M ad r f → 7 ≤ bc + c → 84 ≤ bs + 12 * c → Go d 172 bc bs 4 [.ref (ad 0 0), .int (nI (cnQ W c)), .int (nI c), u3] [] (mm (mr M r) f (mJ M)) R) nc (fun M ad r f u3 bc bs h hb1 hb2 => ?_) (fun c hc ih M ad r f u3 bc bs h hb1 hb2 => ?_)
    ·
      obtain ⟨hi, ⟨hF, hC, hB⟩, ⟨nc1, wk1⟩, ⟨nc3, nb3⟩, -, -⟩ := JS_env hW h
      show Go d 172 bc bs 4 [.ref (ad 0 0), .int (nI (cnQ W nc)), .int (nI nc), u3] [] (mm (mr M r) f (mJ M)) R
      refine go_blk 3 [some (.int (nI nc))] (pc' := 9) (vs' := [.ref (ad 0 0), .int (nI (cnQ W nc)), .int (nI nc), u3]) (st' := [.int (nI nc), .int (nI nc)]) (M' := mm (mr M r) f (mJ M)) (ps := [ob (mm (mr M r) f (mJ M)) (ad 0 0) 11, (Value.int (f (ad 0 0) 1)) = .int (nI nc)]) rfl ⟨(hF.o 0), congrArg Value.int nc1, trivial⟩ ?_
      refine go_icmp rfl (fun _ => ?_) (fun (z : ¬ (nI nc ≤ (nI nc))) => absurd (show nI nc ≤ (nI nc) from Int32.le_refl _) z)
      refine go_blk 1 [] (pc' := 85) (vs' := [.ref (ad 0 0), .int (nI (cnQ W nc)), .int (nI nc), u3]) (st' := [.int (nI (cnQ W nc))]) (M' := mm (mr M r) f (mJ M)) (ps := []) rfl trivial ?_
      refine go_iret rfl rfl ?_
      exact hR M ad r f h
    · obtain ⟨hi, ⟨hF, hC, hB⟩, ⟨nc1, wk1⟩, ⟨nc3, nb3⟩, -, -⟩ := JS_env hW h
      have call1 : ∀ R2 : Option Value → Mem → Prop, R2 (some (va_rf ((W c).map (ad 2)))) (mm (mr M r) f (mJ M)) → Call (d - 1) 166 [.ref (ad 0 0), .int (nI wk - 1), .int (nI c)] (mm (mr M r) f (mJ M)) R2 := fun R2 h2 => by
        by_cases hz : wk = 0
        · rw [hW0 hz c hc] at h2
          rw [hz]
          exact s_CY_stayNo (by omega) h2
        · obtain ⟨w, hw⟩ : ∃ w, w + 1 = wk := ⟨wk - 1, by omega⟩
          rw [← hw, nI_pred w]
          refine s_CY_stayAt (by omega) hF hC nc1 nc3 (by omega) hc ?_ h2
          obtain ⟨q1, -, q3⟩ := h.1.2.2 0 4 (Ux.k0 (by omega))
          refine (h.2.1 0 4 _ (Ux.k0 (by omega)) (by omega) (by omega) (by omega)).trans ?_
          rw [q1, q3, hWs w hw c hc]
          cases hb : W c with
          | none => rfl
          | some b =>
            show some (a0 2 b) = some (ad 2 b)
            rw [(h.1.2.2 2 b (Ux.k2 (hWb c b hc hb).1)).1]
      cases hb : W c with
      | none =>
        rw [hb] at call1
        show Go d 172 bc bs 4 [.ref (ad 0 0), .int (nI (cnQ W c)), .int (nI c), u3] [] (mm (mr M r) f (mJ M)) R
        refine go_blk 3 [some (.int (nI nc))] (pc' := 9) (vs' := [.ref (ad 0 0), .int (nI (cnQ W c)), .int (nI c), u3]) (st' := [.int (nI nc), .int (nI c)]) (M' := mm (mr M r) f (mJ M)) (ps := [ob (mm (mr M r) f (mJ M)) (ad 0 0) 11, (Value.int (f (ad 0 0) 1)) = .int (nI nc)]) rfl ⟨(hF.o 0), congrArg Value.int nc1, trivial⟩ ?_
        refine go_icmp rfl (fun (z : nI nc ≤ (nI c)) => absurd z (show ¬ (nI nc ≤ (nI c)) from (Int32.not_le.mpr ((nI_lts (a := c) (b := nc) (by omega) (by omega)).mpr hc)))) (fun _ => ?_)
        refine go_blk 6 [some (.int (nI wk))] (pc' := 20) (vs' := [.ref (ad 0 0), .int (nI (cnQ W c)), .int (nI c), u3]) (st' := [.int (nI c), .int ((nI wk) - 1), .ref (ad 0 0)]) (M' := mm (mr M r) f (mJ M)) (ps := [ob (mm (mr M r) f (mJ M)) (ad 0 0) 11, (Value.int (f (ad 0 0) 7)) = .int (nI wk)]) rfl ⟨(hF.o 0), congrArg Value.int wk1, trivial⟩ ?_
        refine go_callV rfl rfl rfl (by omega) rfl (Nat.zero_le _) (Nat.zero_le _) (hF.o 0) ?_
        refine call1 _ ⟨ne_0, ?_⟩
        show Go d 172 bc bs 23 [.ref (ad 0 0), .int (nI (cnQ W c)), .int (nI c), u3] [.null] (mm (mr M r) f (mJ M)) R
        refine go_blk 5 [some (.ref (ad 0 5))] (pc' := 30) (vs' := [.ref (ad 0 0), .int (nI (cnQ W c)), .int (nI c), .null]) (st' := [.null, .int (nI c), .ref (ad 0 5)]) (M' := mm (mr M r) f (mJ M)) (ps := [ob (mm (mr M r) f (mJ M)) (ad 0 0) 11, mR (mm (mr M r) f (mJ M)) (ad 0 0) 11 = some (ad 0 5), va_rf (some (ad 0 5)) = .ref (ad 0 5)]) rfl ⟨(hF.o 0), (hF.r 0 11 5), rfl, trivial⟩ ?_
        refine go_blk 1 [] (pc' := 31) (vs' := [.ref (ad 0 0), .int (nI (cnQ W c)), .int (nI c), .null]) (st' := []) (M' := mm (sR (mr M r) (ad 0 5) ((nI c).toNatClampNeg) none) f (mJ M)) (ps := [ob (mm (mr M r) f (mJ M)) (ad 0 5) 19, 17 ≤ 19 ∧ 19 < 22, vp_in (nI c) (mN (mm (mr M r) f (mJ M)) (ad 0 5))]) rfl ⟨hF.o 5, (by decide), (vpi (hF.n 5) (show c < 7 by omega)), trivial⟩ ?_
        rw [nI_clamp (n := c) (by omega)]
        show Go d 172 bc bs 31 [.ref (ad 0 0), .int (nI (cnQ W c)), .int (nI c), .null] [] (mm (mr M (up2 r (ad 0 5) c none)) f (mJ M)) R
        show Go d 172 bc bs 31 [.ref (ad 0 0), .int (nI (cnQ W c)), .int (nI c), .null] [] (mm (mr M (up2 r (ad 0 5) c none)) f (mJ M)) R
        refine go_blk 1 [] (pc' := 32) (vs' := [.ref (ad 0 0), .int (nI (cnQ W c)), .int (nI c), .null]) (st' := [.null]) (M' := mm (mr M (up2 r (ad 0 5) c none)) f (mJ M)) (ps := []) rfl trivial ?_
        refine go_ifnull0 rfl ?_
        refine go_blk 2 [] (pc' := 4) (vs' := [.ref (ad 0 0), .int (nI (cnQ W c)), .int ((nI c) + 1), .null]) (st' := []) (M' := mm (mr M (up2 r (ad 0 5) c none)) f (mJ M)) (ps := []) rfl trivial ?_
        rw [show nI c + 1 = nI (c + 1) from nI_add c 1, ← cnQ_n hb]
        exact ih M ad _ f _ bc bs ((h.nul hi hQb).skip hb (up2_s _ _ _ _)) (by omega) (by omega)
      | some b =>
        obtain ⟨hbn, -, -, hbJ⟩ := hWb c b hc hb
        rw [hb] at call1
        show Go d 172 bc bs 4 [.ref (ad 0 0), .int (nI (cnQ W c)), .int (nI c), u3] [] (mm (mr M r) f (mJ M)) R
        refine go_blk 3 [some (.int (nI nc))] (pc' := 9) (vs' := [.ref (ad 0 0), .int (nI (cnQ W c)), .int (nI c), u3]) (st' := [.int (nI nc), .int (nI c)]) (M' := mm (mr M r) f (mJ M)) (ps := [ob (mm (mr M r) f (mJ M)) (ad 0 0) 11, (Value.int (f (ad 0 0) 1)) = .int (nI nc)]) rfl ⟨(hF.o 0), congrArg Value.int nc1, trivial⟩ ?_
        refine go_icmp rfl (fun (z : nI nc ≤ (nI c)) => absurd z (show ¬ (nI nc ≤ (nI c)) from (Int32.not_le.mpr ((nI_lts (a := c) (b := nc) (by omega) (by omega)).mpr hc)))) (fun _ => ?_)
        refine go_blk 6 [some (.int (nI wk))] (pc' := 20) (vs' := [.ref (ad 0 0), .int (nI (cnQ W c)), .int (nI c), u3]) (st' := [.int (nI c), .int ((nI wk) - 1), .ref (ad 0 0)]) (M' := mm (mr M r) f (mJ M)) (ps := [ob (mm (mr M r) f (mJ M)) (ad 0 0) 11, (Value.int (f (ad 0 0) 7)) = .int (nI wk)]) rfl ⟨(hF.o 0), congrArg Value.int wk1, trivial⟩ ?_
        refine go_callV rfl rfl rfl (by omega) rfl (Nat.zero_le _) (Nat.zero_le _) (hF.o 0) ?_
        refine call1 _ ⟨ne_a, ?_⟩
        show Go d 172 bc bs 23 [.ref (ad 0 0), .int (nI (cnQ W c)), .int (nI c), u3] [.ref (ad 2 b)] (mm (mr M r) f (mJ M)) R
        refine go_blk 5 [some (.ref (ad 0 5))] (pc' := 30) (vs' := [.ref (ad 0 0), .int (nI (cnQ W c)), .int (nI c), .ref (ad 2 b)]) (st' := [.null, .int (nI c), .ref (ad 0 5)]) (M' := mm (mr M r) f (mJ M)) (ps := [ob (mm (mr M r) f (mJ M)) (ad 0 0) 11, mR (mm (mr M r) f (mJ M)) (ad 0 0) 11 = some (ad 0 5), va_rf (some (ad 0 5)) = .ref (ad 0 5)]) rfl ⟨(hF.o 0), (hF.r 0 11 5), rfl, trivial⟩ ?_
        refine go_blk 1 [] (pc' := 31) (vs' := [.ref (ad 0 0), .int (nI (cnQ W c)), .int (nI c), .ref (ad 2 b)]) (st' := []) (M' := mm (sR (mr M r) (ad 0 5) ((nI c).toNatClampNeg) none) f (mJ M)) (ps := [ob (mm (mr M r) f (mJ M)) (ad 0 5) 19, 17 ≤ 19 ∧ 19 < 22, vp_in (nI c) (mN (mm (mr M r) f (mJ M)) (ad 0 5))]) rfl ⟨hF.o 5, (by decide), (vpi (hF.n 5) (show c < 7 by omega)), trivial⟩ ?_
        rw [nI_clamp (n := c) (by omega)]
        show Go d 172 bc bs 31 [.ref (ad 0 0), .int (nI (cnQ W c)), .int (nI c), .ref (ad 2 b)] [] (mm (mr M (up2 r (ad 0 5) c none)) f (mJ M)) R
        show Go d 172 bc bs 31 [.ref (ad 0 0), .int (nI (cnQ W c)), .int (nI c), .ref (ad 2 b)] [] (mm (mr M (up2 r (ad 0 5) c none)) f (mJ M)) R
        refine go_blk 1 [] (pc' := 32) (vs' := [.ref (ad 0 0), .int (nI (cnQ W c)), .int (nI c), .ref (ad 2 b)]) (st' := [.ref (ad 2 b)]) (M' := mm (mr M (up2 r (ad 0 5) c none)) f (mJ M)) (ps := []) rfl trivial ?_
        refine go_ifnull1 rfl ?_
        refine go_blk 1 [] (pc' := 36) (vs' := [.ref (ad 0 0), .int (nI (cnQ W c)), .int (nI c), .ref (ad 2 b)]) (st' := [.ref (ad 2 b)]) (M' := mm (mr M (up2 r (ad 0 5) c none)) f (mJ M)) (ps := []) rfl trivial ?_
        refine go_new rfl (by decide) (by omega) (show (12 : Nat) ≤ bs by omega) (fun q hq => ?_)
        have hal := (h.nul hi hQb).al (b := b) hQb (fun c' b' hc' hb' => (hWb c' b' (by omega) hb').1) hq hbJ (fun c' hc' => hWu c c' b hc hc' hb)
        have nqx : ∀ t i, Ux M0 a0 nc nb nt nx wk t i → swp ad q 6 b t i = ad t i := fun t i u => swp_old (Ux.n6 hbJ u) (fun z => hq (z ▸ h.1.inL u))
        have e0 := nqx 0 0 (Ux.k0 (by omega))
        have e2 := nqx 2 b (Ux.k2 hbn)
        have e6 : swp ad q 6 b 6 b = q := swp_new ad q 6 b
        have hm := mj_half (d := d) (bc := bc - 1) (bs := bs - 12) (R := R) hd hW hwk hQb hQn hWb hWu hc hb hal (by rw [e6]; exact alO_ob M q 3) (by rw [e6]; simp [va_up]) (by rw [e6]; simp [va_up]) (fun r f u3 hj => ih _ _ r f u3 _ _ hj (by omega) (by omega))
        rw [e0, e2, e6] at hm
        exact hm
  show Go d 172 7 84 0 [.ref (a0 0 0), .retAddr 0, .retAddr 0, .retAddr 0] [] (mm (mr M0 r0) f0 (mJ M0)) R
  refine go_blk 4 [] (pc' := 4) (vs' := [.ref (a0 0 0), .int 0, .int 0, .retAddr 0]) (st' := []) (M' := mm (mr M0 r0) f0 (mJ M0)) (ps := []) rfl trivial ?_
  exact key 0 (Nat.zero_le _) M0 a0 r0 f0 _ 7 84 h0 (by omega) (by omega)

