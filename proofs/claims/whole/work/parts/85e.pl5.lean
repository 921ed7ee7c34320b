/-! the model's planner: pieces of tryRows -/
theorem s_Mo_goN {d : Nat} {M : Mem} {f : Nat → Nat → Int32} {g : Nat → Nat → Int64} {ad : Nat → Nat → Nat} {R : Option Value → Mem → Prop} {p : Nat → Nat → Int32} {nt nc wk nw a c l : Nat} (hd : 2 ≤ d) (hM : Mx M ad) (hb : MB p nt nc wk nw ad f) (hwk : wk < 52) (hc : c < 7) (ha : a < 8) (e : mnD p (p 0 0) (7 * wk + c) a c (nI l) = nI (goN p wk a c l)) (hR : R (some (.int (nI (goN p wk a c l)))) (mm M f g)) : Call d 213 [.ref (ad 10 0), .int (nI a), .int (nI c), .int (nI l)] (mm M f g) R :=
  s_Mo_minutesTo (D := p) (rs := p 0 0) hd hM hb.2.2.2.1 hwk hc (fun k => hb.1 36 k rfl) hb.2.1 (fun k => hb.1 29 k rfl) ha (by rw [e]; exact hR)
theorem s_Mo_sbN {d : Nat} {M : Mem} {f : Nat → Nat → Int32} {g : Nat → Nat → Int64} {ad : Nat → Nat → Nat} {R : Option Value → Mem → Prop} {p : Nat → Nat → Int32} {nt nc wk nw t c l : Nat} (hd : 1 ≤ d) (hM : Mx M ad) (hb : MB p nt nc wk nw ad f) (hwk : wk < 52) (hc : c < 7) (ht : t < 3) (e : sbD p t (7 * wk + c) (nI l) = nI (sbN p wk t c l)) (hR : R (some (.int (nI (sbN p wk t c l)))) (mm M f g)) : Call d 215 [.ref (ad 10 0), .int (nI t), .int (nI c), .int (nI l)] (mm M f g) R :=
  s_Mo_setsBehind (D := p) hd hM hb.2.2.2.1 hwk hc (fun k => hb.1 36 k rfl) (fun k => hb.1 28 k rfl) ht (by rw [e]; exact hR)
theorem s_JM_max0S {d : Nat} {M : Mem} {f : Nat → Nat → Int32} {g : Nat → Nat → Int64} {R : Option Value → Mem → Prop} {a b : Nat} (ha : a < 2 ^ 30) (hb : b < 2 ^ 30) (hR : R (some (.int (nI (a - b)))) (mm M f g)) : Call d 0 [.int 0, .int (nI a - nI b)] (mm M f g) R := by
  refine s_JM_max0 (Nat.zero_le _) ?_
  have e : (if (0 : Int32) < nI a - nI b then nI a - nI b else 0) = nI (a - b) := by
    have s := pk_sub_toInt (a := a) (b := b) ha hb
    by_cases z : (0 : Int32) < nI a - nI b
    · rw [if_pos z]
      apply Int32.toInt_inj.mp
      rw [i32_lt, s] at z
      have z2 : (0 : Int) < (a : Int) - (b : Int) := z
      rw [s, nI_toInt (by omega)]
      omega
    · rw [if_neg z]
      rw [i32_lt, s] at z
      have z2 : ¬ (0 : Int) < (a : Int) - (b : Int) := z
      rw [show a - b = 0 by omega]; rfl
  rw [e]
  exact hR
theorem s_Mo_inRow3 {d : Nat} {M : Mem} {f : Nat → Nat → Int32} {g : Nat → Nat → Int64} {ad : Nat → Nat → Nat} {R : Option Value → Mem → Prop} {p : Nat → Nat → Int32} {nt nc wk nw c : Nat} (t : Nat) (hd : 0 ≤ d) (hM : Mx M ad) (hb : MB p nt nc wk nw ad f) (nt3 : nt ≤ 3) (hc : c < 7) (hr : ∀ t, t < nt → ∃ n, n ≤ 7 ∧ p 51 t = nI n ∧ ∀ i, i < n → ∃ k, k < 7 ∧ p 50 (7 * t + i) = nI k)
    (h0 : mvN p nt t c = 0 → R (some (.int (-1))) (mm M f g)) (h1 : mvN p nt t c = 0 → R (some (.int (nI t))) (mm M f g)) (h2 : ∀ t', t' < nt → ¬ t' = t → mvN p nt t c = 1 → R (some (.int (nI t'))) (mm M f g)) : Call d 216 [.ref (ad 10 0), .int (nI c)] (mm M f g) R := by
  refine s_Mo_inRow hd hM hb nt3 hc hr ?_
  unfold mvN at h0 h1 h2
  cases e : inRw p nt c with
  | none => rw [e] at h0; exact h0 rfl
  | some t' =>
    rw [e] at h1 h2
    simp only at h1 h2
    have ht' : t' < nt := by
      rw [inRw_hit, List.find?_range_eq_some] at e
      exact List.mem_range.mp e.2.1
    by_cases z : t' = t
    · rw [z]; exact h1 (if_pos z)
    · exact h2 t' ht' z (if_neg z)

set_option maxHeartbeats 4000000 in
set_option maxRecDepth 100000 in
theorem lp_cpA {d : Nat} {M : Mem} {f : Nat → Nat → Int32} {g : Nat → Nat → Int64} {ad : Nat → Nat → Nat} {R : Option Value → Mem → Prop} {u1 u2 u3 u4 u5 u6 u7 u9 u10 u11 u12 : Value} (hi : Inj ad) (hM : Mx M ad) (hR : Go d 218 0 0 78 [.ref (ad 10 0), u1, u2, u3, u4, u5, u6, u7, .int (nI 21), u9, u10, u11, u12] [] (mm M (cpF ad 55 53 21 f) g) R) : ∀ k, k ≤ 21 → Go d 218 0 0 51 [.ref (ad 10 0), u1, u2, u3, u4, u5, u6, u7, .int (nI k), u9, u10, u11, u12] [] (mm M (cpF ad 55 53 k f) g) R := by
  refine up_ind (P := fun k => Go d 218 0 0 51 [.ref (ad 10 0), u1, u2, u3, u4, u5, u6, u7, .int (nI k), u9, u10, u11, u12] [] (mm M (cpF ad 55 53 k f) g) R) 21 ?_ (fun k hlt ih => ?_)
  ·
    show Go d 218 0 0 51 [.ref (ad 10 0), u1, u2, u3, u4, u5, u6, u7, .int (nI 21), u9, u10, u11, u12] [] (mm M (cpF ad 55 53 21 f) g) R
    refine go_blk 2 [] (pc' := 55) (vs' := [.ref (ad 10 0), u1, u2, u3, u4, u5, u6, u7, .int (nI 21), u9, u10, u11, u12]) (st' := [.int 21, .int (nI 21)]) (M' := mm M (cpF ad 55 53 21 f) g) (ps := []) rfl trivial ?_
    refine go_icmp rfl (fun _ => ?_) (fun (z : ¬ (21 ≤ (nI 21))) => absurd (show 21 ≤ (nI 21) from (by decide)) z)
    exact hR
  ·
    show Go d 218 0 0 51 [.ref (ad 10 0), u1, u2, u3, u4, u5, u6, u7, .int (nI k), u9, u10, u11, u12] [] (mm M (cpF ad 55 53 k f) g) R
    refine go_blk 2 [] (pc' := 55) (vs' := [.ref (ad 10 0), u1, u2, u3, u4, u5, u6, u7, .int (nI k), u9, u10, u11, u12]) (st' := [.int 21, .int (nI k)]) (M' := mm M (cpF ad 55 53 k f) g) (ps := []) rfl trivial ?_
    refine go_icmp rfl (fun (z : 21 ≤ (nI k)) => absurd z (show ¬ (21 ≤ (nI k)) from (Int32.not_le.mpr ((nI_lts (a := k) (b := 21) (by omega) (by omega)).mpr hlt)))) (fun _ => ?_)
    refine go_blk 10 [some (.ref (ad 9 55)), some (.ref (ad 9 53)), some (.int (f (ad 9 53) k))] (pc' := 51) (vs' := [.ref (ad 10 0), u1, u2, u3, u4, u5, u6, u7, .int ((nI k) + 1), u9, u10, u11, u12]) (st' := []) (M' := mm M (up2 (cpF ad 55 53 k f) (ad 9 55) ((nI k).toNatClampNeg) (f (ad 9 53) k)) g) (ps := [ob (mm M (cpF ad 55 53 k f) g) (ad 10 0) 12, mR (mm M (cpF ad 55 53 k f) g) (ad 10 0) 55 = some (ad 9 55), va_rf (some (ad 9 55)) = .ref (ad 9 55), ob (mm M (cpF ad 55 53 k f) g) (ad 10 0) 12, mR (mm M (cpF ad 55 53 k f) g) (ad 10 0) 53 = some (ad 9 53), va_rf (some (ad 9 53)) = .ref (ad 9 53), ob (mm M (cpF ad 55 53 k f) g) (ad 9 53) 15, vp_in (nI k) (mN (mm M (cpF ad 55 53 k f) g) (ad 9 53)), (Value.int ((cpF ad 55 53 k f) (ad 9 53) ((nI k).toNatClampNeg))) = .int (f (ad 9 53) k), ob (mm M (cpF ad 55 53 k f) g) (ad 9 55) 15, vp_in (nI k) (mN (mm M (cpF ad 55 53 k f) g) (ad 9 55))]) rfl ⟨hM.1, (hM.r 55 15 21), rfl, hM.1, (hM.r 53 15 21), rfl, (hM.o 53 15 21), (vpi (hM.n 53 15 21) (by omega)), congrArg Value.int ((congrArg (fun z => (cpF ad 55 53 k f) (ad 9 53) z) (nI_clamp (by omega))).trans (cpF_n hi (by omega))), (hM.o 55 15 21), (vpi (hM.n 55 15 21) (by omega)), trivial⟩ ?_
    rw [nI_clamp (n := k) (by omega)]
    rw [cpF_s, show nI k + 1 = nI (k + 1) from nI_add k 1]
    exact ih

set_option maxHeartbeats 4000000 in
set_option maxRecDepth 100000 in
theorem lp_cpB {d : Nat} {M : Mem} {f : Nat → Nat → Int32} {g : Nat → Nat → Int64} {ad : Nat → Nat → Nat} {R : Option Value → Mem → Prop} {u1 u2 u3 u4 u5 u6 u7 u9 u10 u11 u12 : Value} (hi : Inj ad) (hM : Mx M ad) (hR : R none (mm M (cpF ad 56 54 3 f) g)) : ∀ k, k ≤ 3 → Go d 218 0 0 81 [.ref (ad 10 0), u1, u2, u3, u4, u5, u6, u7, .int (nI k), u9, u10, u11, u12] [] (mm M (cpF ad 56 54 k f) g) R := by
  refine up_ind (P := fun k => Go d 218 0 0 81 [.ref (ad 10 0), u1, u2, u3, u4, u5, u6, u7, .int (nI k), u9, u10, u11, u12] [] (mm M (cpF ad 56 54 k f) g) R) 3 ?_ (fun k hlt ih => ?_)
  ·
    show Go d 218 0 0 81 [.ref (ad 10 0), u1, u2, u3, u4, u5, u6, u7, .int (nI 3), u9, u10, u11, u12] [] (mm M (cpF ad 56 54 3 f) g) R
    refine go_blk 2 [] (pc' := 84) (vs' := [.ref (ad 10 0), u1, u2, u3, u4, u5, u6, u7, .int (nI 3), u9, u10, u11, u12]) (st' := [.int 3, .int (nI 3)]) (M' := mm M (cpF ad 56 54 3 f) g) (ps := []) rfl trivial ?_
    refine go_icmp rfl (fun _ => ?_) (fun (z : ¬ (3 ≤ (nI 3))) => absurd (show 3 ≤ (nI 3) from (by decide)) z)
    refine go_vret rfl rfl ?_
    exact hR
  ·
    show Go d 218 0 0 81 [.ref (ad 10 0), u1, u2, u3, u4, u5, u6, u7, .int (nI k), u9, u10, u11, u12] [] (mm M (cpF ad 56 54 k f) g) R
    refine go_blk 2 [] (pc' := 84) (vs' := [.ref (ad 10 0), u1, u2, u3, u4, u5, u6, u7, .int (nI k), u9, u10, u11, u12]) (st' := [.int 3, .int (nI k)]) (M' := mm M (cpF ad 56 54 k f) g) (ps := []) rfl trivial ?_
    refine go_icmp rfl (fun (z : 3 ≤ (nI k)) => absurd z (show ¬ (3 ≤ (nI k)) from (Int32.not_le.mpr ((nI_lts (a := k) (b := 3) (by omega) (by omega)).mpr hlt)))) (fun _ => ?_)
    refine go_blk 10 [some (.ref (ad 9 56)), some (.ref (ad 9 54)), some (.int (f (ad 9 54) k))] (pc' := 81) (vs' := [.ref (ad 10 0), u1, u2, u3, u4, u5, u6, u7, .int ((nI k) + 1), u9, u10, u11, u12]) (st' := []) (M' := mm M (up2 (cpF ad 56 54 k f) (ad 9 56) ((nI k).toNatClampNeg) (f (ad 9 54) k)) g) (ps := [ob (mm M (cpF ad 56 54 k f) g) (ad 10 0) 12, mR (mm M (cpF ad 56 54 k f) g) (ad 10 0) 56 = some (ad 9 56), va_rf (some (ad 9 56)) = .ref (ad 9 56), ob (mm M (cpF ad 56 54 k f) g) (ad 10 0) 12, mR (mm M (cpF ad 56 54 k f) g) (ad 10 0) 54 = some (ad 9 54), va_rf (some (ad 9 54)) = .ref (ad 9 54), ob (mm M (cpF ad 56 54 k f) g) (ad 9 54) 15, vp_in (nI k) (mN (mm M (cpF ad 56 54 k f) g) (ad 9 54)), (Value.int ((cpF ad 56 54 k f) (ad 9 54) ((nI k).toNatClampNeg))) = .int (f (ad 9 54) k), ob (mm M (cpF ad 56 54 k f) g) (ad 9 56) 15, vp_in (nI k) (mN (mm M (cpF ad 56 54 k f) g) (ad 9 56))]) rfl ⟨hM.1, (hM.r 56 15 3), rfl, hM.1, (hM.r 54 15 3), rfl, (hM.o 54 15 3), (vpi (hM.n 54 15 3) (by omega)), congrArg Value.int ((congrArg (fun z => (cpF ad 56 54 k f) (ad 9 54) z) (nI_clamp (by omega))).trans (cpF_n hi (by omega))), (hM.o 56 15 3), (vpi (hM.n 56 15 3) (by omega)), trivial⟩ ?_
    rw [nI_clamp (n := k) (by omega)]
    rw [cpF_s, show nI k + 1 = nI (k + 1) from nI_add k 1]
    exact ih

