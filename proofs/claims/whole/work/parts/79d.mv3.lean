/-! moves: the class's lists -/
def mr (M : Mem) (r : Nat → Nat → Option Nat) : Mem := (mL M, mK M, mN M, mI M, mJ M, r, mSb M, mSl M, mSx M)
theorem fxR_s : ∀ q ∈ fxR, q.1 = 0 ∨ q.1 = 6 ∨ q.1 = 7 ∨ q.1 = 16 ∨ q.1 = 9 ∨ q.1 = 10 := by decide
theorem fx_mr {M : Mem} {ad : Nat → Nat → Nat} {r : Nat → Nat → Option Nat} (h : Fx M ad) (hr : ∀ i k, (i = 0 ∨ i = 6 ∨ i = 7 ∨ i = 16 ∨ i = 9 ∨ i = 10) → r (ad 0 i) k = mR M (ad 0 i) k) : Fx (mr M r) ad := ⟨h.1, fun q hq => (hr q.1 q.2.1 (fxR_s q hq)).trans (h.2 q hq)⟩
/-- references that the invariant doesn't look at -/
def irR (t i k : Nat) : Prop := (t = 0 ∧ (i = 11 ∨ i = 13)) ∨ (t = 10 ∧ i = 0 ∧ k = 82)
theorem WI.mr {M : Mem} {ad : Nat → Nat → Nat} {nc nb nt wk nw nx nl ne nk kd : Nat} {op : Bool} {rr : Nat → Nat → Option Nat} (h : WI M ad nc nb nt wk nw nx nl ne nk kd op) (r : ∀ t i k, ¬ irR t i k → rr (ad t i) k = mR M (ad t i) k) : WI (mr M rr) ad nc nb nt wk nw nx nl ne nk kd op := by
  obtain ⟨hi, ⟨hF, hM, hC, hB, hT, hX⟩, h1, ⟨jO, jR, jB, jX, jL⟩, kO, kC, kD, kP, kX⟩ := h
  have r0 : ∀ i k, ¬ (i = 11 ∨ i = 13) → rr (ad 0 i) k = mR M (ad 0 i) k := fun i k z => r 0 i k (by unfold irR; omega)
  have rn : ∀ t i k, ¬ t = 0 → ¬ t = 10 → rr (ad t i) k = mR M (ad t i) k := fun t i k z1 z2 => r t i k (by unfold irR; omega)
  have m82 : ∀ q ∈ moL, ¬ q.1 = 82 := by decide
  refine ⟨hi, ⟨fx_mr hF (fun i k z => r0 i k (by omega)), ⟨hM.1, fun q hq => ⟨(r 10 0 q.1 (by unfold irR; have := m82 q hq; omega)).trans (hM.2 q hq).1, (hM.2 q hq).2⟩⟩, fun c hc => ⟨(r0 1 c (by decide)).trans (hC c hc).1, (hC c hc).2⟩, fun b hb => ⟨(r0 2 b (by decide)).trans (hB b hb).1, (hB b hb).2⟩, fun t ht => ?_, ?_⟩, h1, ⟨jO, ?_, jB, jX, ?_⟩, kO, kC, kD, ?_, kX⟩
  · obtain ⟨z1, z2, ⟨z3, z4⟩, z5, z6⟩ := hT t ht
    exact ⟨(r0 3 t (by decide)).trans z1, z2, ⟨(rn 3 t 2 (by decide) (by decide)).trans z3, z4⟩, (rn 3 t 3 (by decide) (by decide)).trans z5, z6⟩
  · exact ⟨(r0 10 0 (by decide)).trans hX.1, fun i q => (r0 36 i (by decide)).trans (hX.2.1 i q), fun i q => ⟨(hX.2.2 i q).1, (rn 7 i 0 (by decide) (by decide)).trans (hX.2.2 i q).2.1, (hX.2.2 i q).2.2⟩⟩
  · refine ⟨fun b hb => ⟨fun q => ?_, fun q => (rn 2 b 12 (by decide) (by decide)).trans ((jR.1 b hb).2 q)⟩, fun w c hw hc => ?_, fun ho c hc => ?_⟩
    · obtain ⟨z1, z2, z3⟩ := (jR.1 b hb).1 q
      exact ⟨(rn 2 b 12 (by decide) (by decide)).trans z1, z2, (rn 6 b 0 (by decide) (by decide)).trans z3⟩
    · rcases jR.2.1 w c hw hc with ⟨b, hb, q1, q2, q3, q4⟩ | ⟨q1, q2⟩
      · exact Or.inl ⟨b, hb, q1, q2, q3, (r0 4 _ (by decide)).trans q4⟩
      · exact Or.inr ⟨(r0 4 _ (by decide)).trans q1, q2⟩
    · rcases jR.2.2 ho c hc with ⟨b, hb, q1, q2, q3⟩ | ⟨q1, q2⟩
      · exact Or.inl ⟨b, hb, q1, q2, (r0 5 _ (by decide)).trans q3⟩
      · exact Or.inr ⟨(r0 5 _ (by decide)).trans q1, q2⟩
  · refine ⟨jL.1, fun i q => ?_⟩
    obtain ⟨z1, z2, b, hb, z3, z4, z5⟩ := jL.2 i q
    exact ⟨z1, z2, b, hb, z3, (r0 38 i (by decide)).trans z4, z5⟩
  · rcases kP with q | ⟨q1, q2⟩
    · exact Or.inl q
    · refine Or.inr ⟨q1, fun ho => ?_⟩
      obtain ⟨g1, g2, g3⟩ := q2 ho
      refine ⟨g1, fun k c hk => ?_, g3⟩
      obtain ⟨b, hb, z1, z2, z3⟩ := g2 k c hk
      exact ⟨b, hb, z1, z2, (r0 17 k (by decide)).trans z3⟩
/-- the problem: V i k, the model's array i -/
def gsP (V : Nat → Nat → Int32) (w b : Nat) : Bool := !(V 15 b == 0) && (V 7 b == nI w) && !(V 5 (7 * w + (V 6 b).toNatClampNeg) == 0)
def frP (V : Nat → Nat → Int32) (nb w c : Nat) : Bool := (V 5 (7 * w + c) == 0) && (List.range nb).all (fun b => !(!(V 15 b == 0) && (V 6 b == nI c) && (V 7 b == nI w)))
def okQ (V : Nat → Nat → Int32) (c b : Nat) : Bool := decide (V 8 b ≤ V 1 c) && (!(V 4 c == 0) || V 14 b == 0)
def dsP (V : Nat → Nat → Int32) (c b : Nat) : Int32 := if 0 ≤ V 2 c - V 10 b then V 2 c - V 10 b else -(V 2 c - V 10 b)
theorem frP_of {V : Nat → Nat → Int32} {nb w c : Nat} : frP V nb w c = true ↔ V 5 (7 * w + c) = 0 ∧ ∀ b, b < nb → ¬ (¬ V 15 b = 0 ∧ V 6 b = nI c ∧ V 7 b = nI w) := by
  unfold frP
  simp only [Bool.and_eq_true, beq_iff_eq, List.all_eq_true, List.mem_range]
  refine and_congr_right (fun _ => forall_congr' (fun b => imp_congr_right (fun _ => ?_)))
  by_cases h1 : V 15 b = 0 <;> by_cases h2 : V 6 b = nI c <;> by_cases h3 : V 7 b = nI w <;> simp [h1, h2, h3]
theorem gsP_of {V : Nat → Nat → Int32} {w b : Nat} : gsP V w b = true ↔ ¬ V 15 b = 0 ∧ V 7 b = nI w ∧ ¬ V 5 (7 * w + (V 6 b).toNatClampNeg) = 0 := by
  unfold gsP
  simp only [Bool.and_eq_true, Bool.not_eq_true', beq_eq_false_iff_ne, beq_iff_eq, ne_eq, and_assoc]
theorem gs_len {V : Nat → Nat → Int32} {nb nc w : Nat} (hc : ∀ b, b < nb → ∃ c, c < nc ∧ V 6 b = nI c) (hu : ∀ a b, a < nb → b < nb → ¬ V 15 a = 0 → ¬ V 15 b = 0 → V 6 a = V 6 b → V 7 a = V 7 b → a = b) (hnc : nc ≤ 7) (n : Nat) (hn : n ≤ nb) : (gsL (gsP V w) n).length ≤ 7 := by
  have hm : ∀ x, x ∈ gsL (gsP V w) n → x < nb ∧ gsP V w x = true := fun x hx => by
    have := List.mem_filter.mp hx
    exact ⟨by have := List.mem_range.mp this.1; omega, this.2⟩
  refine Nat.le_trans (inj_len (h := fun b => (V 6 b).toNatClampNeg) (n := nc) _ (gs_nodup _ _) (fun x hx => ?_) (fun x y hx hy e => ?_)) hnc
  · obtain ⟨c, c1, c2⟩ := hc x (hm x hx).1
    show (V 6 x).toNatClampNeg < nc
    rw [c2, nI_clamp (by omega)]; exact c1
  · obtain ⟨c, c1, c2⟩ := hc x (hm x hx).1
    obtain ⟨c', d1, d2⟩ := hc y (hm y hy).1
    have e' : (V 6 x).toNatClampNeg = (V 6 y).toNatClampNeg := e
    rw [c2, d2, nI_clamp (by omega), nI_clamp (by omega)] at e'
    obtain ⟨p1, p2, -⟩ := gsP_of.mp (hm x hx).2
    obtain ⟨q1, q2, -⟩ := gsP_of.mp (hm y hy).2
    exact hu x y (hm x hx).1 (hm y hy).1 p1 q1 (by rw [c2, d2, e']) (p2.trans q2.symm)
/-- references and ints while the lists are made -/
def FM (M : Mem) (ad : Nat → Nat → Nat) (V : Nat → Nat → Int32) (nb w c n : Nat) (r : Nat → Nat → Option Nat) (f : Nat → Nat → Int32) : Prop :=
  (∀ x k, ¬ x = ad 0 11 → ¬ x = ad 0 13 → r x k = mR M x k) ∧ (∀ x k, ¬ x = ad 0 6 → ¬ x = ad 0 12 → f x k = mI M x k) ∧ (f (ad 0 6) 2 = nI c ∧ f (ad 0 6) 4 = nI (gsL (gsP V w) n).length) ∧
  (∀ j, j < c → r (ad 0 11) j = some (ad 1 j) ∧ f (ad 0 12) j = if frP V nb w j = true then 1 else 0) ∧ ∀ k, k < (gsL (gsP V w) n).length → r (ad 0 13) k = some (ad 2 ((gsL (gsP V w) n).getD k 0))
theorem FM.addC {M : Mem} {ad : Nat → Nat → Nat} {V : Nat → Nat → Int32} {nb w c n : Nat} {r : Nat → Nat → Option Nat} {f : Nat → Nat → Int32} {y : Int32} (hi : Inj ad) (h : FM M ad V nb w c n r f) (hy : y = if frP V nb w c = true then 1 else 0) : FM M ad V nb w (c + 1) n (up2 r (ad 0 11) c (some (ad 1 c))) (up2 (up2 f (ad 0 12) c y) (ad 0 6) 2 (nI (c + 1))) := by
  have n612 : ∀ i j, ¬ i = j → ¬ ad 0 i = ad 0 j := fun i j z y => z (hi _ _ _ _ y).2
  obtain ⟨h1, h2, ⟨h3, h4⟩, h5, h6⟩ := h
  refine ⟨fun x k z1 z2 => ?_, fun x k z1 z2 => ?_, ⟨up2_s _ _ _ _, ?_⟩, fun j hj => ?_, fun k hk => ?_⟩
  · rw [up2_n _ _ (fun z => z1 z.1)]; exact h1 x k z1 z2
  · rw [up2_n _ _ (fun z => z1 z.1), up2_n _ _ (fun z => z2 z.1)]; exact h2 x k z1 z2
  · rw [up2_n _ _ (fun z => absurd z.2 (by decide)), up2_n _ _ (fun z => n612 6 12 (by decide) z.1)]; exact h4
  · rw [up2_n _ _ (fun z => n612 12 6 (by decide) z.1)]
    by_cases q : j = c
    · subst q; rw [up2_s, up2_s]; exact ⟨rfl, hy⟩
    · rw [up2_n _ _ (fun z => q z.2), up2_n _ _ (fun z => q z.2)]; exact h5 j (by omega)
  · rw [up2_n _ _ (fun z => n612 13 11 (by decide) z.1)]; exact h6 k hk
theorem FM.skip {M : Mem} {ad : Nat → Nat → Nat} {V : Nat → Nat → Int32} {nb w c n : Nat} {r : Nat → Nat → Option Nat} {f : Nat → Nat → Int32} (h : FM M ad V nb w c n r f) (hp : ¬ gsP V w n = true) : FM M ad V nb w c (n + 1) r f := by
  have e : gsL (gsP V w) (n + 1) = gsL (gsP V w) n := by rw [gs_succ, if_neg hp, List.append_nil]
  unfold FM at *
  rw [e]; exact h
theorem FM.addB {M : Mem} {ad : Nat → Nat → Nat} {V : Nat → Nat → Int32} {nb w c n : Nat} {r : Nat → Nat → Option Nat} {f : Nat → Nat → Int32} (hi : Inj ad) (h : FM M ad V nb w c n r f) (hp : gsP V w n = true) : FM M ad V nb w c (n + 1) (up2 r (ad 0 13) (gsL (gsP V w) n).length (some (ad 2 n))) (up2 f (ad 0 6) 4 (nI ((gsL (gsP V w) n).length + 1))) := by
  have n612 : ∀ i j, ¬ i = j → ¬ ad 0 i = ad 0 j := fun i j z y => z (hi _ _ _ _ y).2
  have e : gsL (gsP V w) (n + 1) = gsL (gsP V w) n ++ [n] := by rw [gs_succ, if_pos hp]
  obtain ⟨h1, h2, ⟨h3, h4⟩, h5, h6⟩ := h
  unfold FM
  rw [e, List.length_append]
  refine ⟨fun x k z1 z2 => ?_, fun x k z1 z2 => ?_, ⟨?_, up2_s _ _ _ _⟩, fun j hj => ?_, fun k hk => ?_⟩
  · rw [up2_n _ _ (fun z => z2 z.1)]; exact h1 x k z1 z2
  · rw [up2_n _ _ (fun z => z1 z.1)]; exact h2 x k z1 z2
  · rw [up2_n _ _ (fun z => absurd z.2 (by decide))]; exact h3
  · rw [up2_n _ _ (fun z => n612 11 13 (by decide) z.1), up2_n _ _ (fun z => n612 12 6 (by decide) z.1)]; exact h5 j hj
  · by_cases q : k = (gsL (gsP V w) n).length
    · subst q; rw [up2_s, gtD_app]
    · have hk2 : k < (gsL (gsP V w) n).length := by simp at hk; omega
      rw [up2_n _ _ (fun z => q z.2), h6 k hk2, List.getD_eq_getElem?_getD, List.getD_eq_getElem?_getD, List.getElem?_append_left hk2]

set_option maxRecDepth 100000 in
theorem s_Mv_addC0 {d : Nat} {M : Mem} {f : Nat → Nat → Int32} {g : Nat → Nat → Int64} {ad : Nat → Nat → Nat} {R : Option Value → Mem → Prop} {r : Nat → Nat → Option Nat} {k : Nat} (hi : Inj ad) (hF : Fx (mr M r) ad) (hk : k < 7) (hn : f (ad 0 6) 2 = nI k) (ho : ob M (ad 1 k) 2) (hR : R none (mm (mr M (up2 r (ad 0 11) k (some (ad 1 k)))) (up2 (up2 f (ad 0 12) k 0) (ad 0 6) 2 (nI (k + 1))) g)) : Call d 38 [.ref (ad 0 6), .ref (ad 1 k), .int 0] (mm (mr M r) f g) R := by
  show Go d 38 0 0 0 [.ref (ad 0 6), .ref (ad 1 k), .int 0] [] (mm (mr M r) f g) R
  refine go_blk 3 [some (.int (nI k))] (pc' := 6) (vs' := [.ref (ad 0 6), .ref (ad 1 k), .int 0]) (st' := [.int 7, .int (nI k)]) (M' := mm (mr M r) f g) (ps := [ob (mm (mr M r) f g) (ad 0 6) 5, (Value.int (f (ad 0 6) 2)) = .int (nI k)]) rfl ⟨(hF.o 6), congrArg Value.int hn, trivial⟩ ?_
  refine go_icmp rfl (fun (z : 7 ≤ (nI k)) => absurd z (show ¬ (7 ≤ (nI k)) from (Int32.not_le.mpr ((nI_lts (a := k) (b := 7) (by omega) (by decide)).mpr hk)))) (fun _ => ?_)
  refine go_blk 5 [some (.ref (ad 0 11)), some (.int (nI k))] (pc' := 18) (vs' := [.ref (ad 0 6), .ref (ad 1 k), .int 0]) (st' := [.ref (ad 1 k), .int (nI k), .ref (ad 0 11)]) (M' := mm (mr M r) f g) (ps := [ob (mm (mr M r) f g) (ad 0 6) 5, mR (mm (mr M r) f g) (ad 0 6) 0 = some (ad 0 11), va_rf (some (ad 0 11)) = .ref (ad 0 11), ob (mm (mr M r) f g) (ad 0 6) 5, (Value.int (f (ad 0 6) 2)) = .int (nI k)]) rfl ⟨(hF.o 6), (hF.r 6 0 11), rfl, (hF.o 6), congrArg Value.int hn, trivial⟩ ?_
  refine go_blk 1 [] (pc' := 19) (vs' := [.ref (ad 0 6), .ref (ad 1 k), .int 0]) (st' := []) (M' := mm (sR (mr M r) (ad 0 11) ((nI k).toNatClampNeg) (some (ad 1 k))) f g) (ps := [ob (mm (mr M r) f g) (ad 0 11) 18, 17 ≤ 18 ∧ 18 < 22, ob (mm (mr M r) f g) (ad 1 k) (zaI.getD (18 - 17) 0), vp_in (nI k) (mN (mm (mr M r) f g) (ad 0 11))]) rfl ⟨(hF.o 11), (by decide), ho, (vpi (hF.n 11) hk), trivial⟩ ?_
  rw [nI_clamp (n := k) (by omega)]
  show Go d 38 0 0 19 [.ref (ad 0 6), .ref (ad 1 k), .int 0] [] (mm (mr M (up2 r (ad 0 11) k (some (ad 1 k)))) f g) R
  have hF : Fx (mr M (up2 r (ad 0 11) k (some (ad 1 k)))) ad := fx_mr (M := mr M r) (r := up2 r (ad 0 11) k (some (ad 1 k))) hF (fun i j z => up2_n _ _ (fun y => by have := (hi _ _ _ _ y.1).2; omega))
  show Go d 38 0 0 19 [.ref (ad 0 6), .ref (ad 1 k), .int 0] [] (mm (mr M (up2 r (ad 0 11) k (some (ad 1 k)))) f g) R
  refine go_blk 12 [some (.ref (ad 0 12)), some (.int (nI k)), some (.int (nI k))] (pc' := 39) (vs' := [.ref (ad 0 6), .ref (ad 1 k), .int 0]) (st' := []) (M' := mm (mr M (up2 r (ad 0 11) k (some (ad 1 k)))) (up2 (up2 f (ad 0 12) ((nI k).toNatClampNeg) 0) (ad 0 6) 2 ((nI k) + 1)) g) (ps := [ob (mm (mr M (up2 r (ad 0 11) k (some (ad 1 k)))) f g) (ad 0 6) 5, mR (mm (mr M (up2 r (ad 0 11) k (some (ad 1 k)))) f g) (ad 0 6) 1 = some (ad 0 12), va_rf (some (ad 0 12)) = .ref (ad 0 12), ob (mm (mr M (up2 r (ad 0 11) k (some (ad 1 k)))) f g) (ad 0 6) 5, (Value.int (f (ad 0 6) 2)) = .int (nI k), ob (mm (mr M (up2 r (ad 0 11) k (some (ad 1 k)))) f g) (ad 0 12) 13, vp_in (nI k) (mN (mm (mr M (up2 r (ad 0 11) k (some (ad 1 k)))) f g) (ad 0 12)), (.ref (ad 0 6) : Value).category = 1, ob (mm (mr M (up2 r (ad 0 11) k (some (ad 1 k)))) (up2 f (ad 0 12) ((nI k).toNatClampNeg) 0) g) (ad 0 6) 5, (Value.int ((up2 f (ad 0 12) ((nI k).toNatClampNeg) 0) (ad 0 6) 2)) = .int (nI k), ob (mm (mr M (up2 r (ad 0 11) k (some (ad 1 k)))) (up2 f (ad 0 12) ((nI k).toNatClampNeg) 0) g) (ad 0 6) 5]) rfl ⟨(hF.o 6), (hF.r 6 1 12), rfl, (hF.o 6), congrArg Value.int hn, (hF.o 12), (vpi (hF.n 12) hk), rfl, (hF.o 6), congrArg Value.int (((up2_n _ _ (fun z => absurd (hi _ _ _ _ z.1).2 (by decide))).trans (rfl)).trans hn), (hF.o 6), trivial⟩ ?_
  rw [nI_clamp (n := k) (by omega)]
  refine go_vret rfl rfl ?_
  rw [show nI k + 1 = nI (k + 1) from nI_add k 1]
  exact hR

set_option maxRecDepth 100000 in
theorem s_Mv_addC1 {d : Nat} {M : Mem} {f : Nat → Nat → Int32} {g : Nat → Nat → Int64} {ad : Nat → Nat → Nat} {R : Option Value → Mem → Prop} {r : Nat → Nat → Option Nat} {k : Nat} (hi : Inj ad) (hF : Fx (mr M r) ad) (hk : k < 7) (hn : f (ad 0 6) 2 = nI k) (ho : ob M (ad 1 k) 2) (hR : R none (mm (mr M (up2 r (ad 0 11) k (some (ad 1 k)))) (up2 (up2 f (ad 0 12) k 1) (ad 0 6) 2 (nI (k + 1))) g)) : Call d 38 [.ref (ad 0 6), .ref (ad 1 k), .int 1] (mm (mr M r) f g) R := by
  show Go d 38 0 0 0 [.ref (ad 0 6), .ref (ad 1 k), .int 1] [] (mm (mr M r) f g) R
  refine go_blk 3 [some (.int (nI k))] (pc' := 6) (vs' := [.ref (ad 0 6), .ref (ad 1 k), .int 1]) (st' := [.int 7, .int (nI k)]) (M' := mm (mr M r) f g) (ps := [ob (mm (mr M r) f g) (ad 0 6) 5, (Value.int (f (ad 0 6) 2)) = .int (nI k)]) rfl ⟨(hF.o 6), congrArg Value.int hn, trivial⟩ ?_
  refine go_icmp rfl (fun (z : 7 ≤ (nI k)) => absurd z (show ¬ (7 ≤ (nI k)) from (Int32.not_le.mpr ((nI_lts (a := k) (b := 7) (by omega) (by decide)).mpr hk)))) (fun _ => ?_)
  refine go_blk 5 [some (.ref (ad 0 11)), some (.int (nI k))] (pc' := 18) (vs' := [.ref (ad 0 6), .ref (ad 1 k), .int 1]) (st' := [.ref (ad 1 k), .int (nI k), .ref (ad 0 11)]) (M' := mm (mr M r) f g) (ps := [ob (mm (mr M r) f g) (ad 0 6) 5, mR (mm (mr M r) f g) (ad 0 6) 0 = some (ad 0 11), va_rf (some (ad 0 11)) = .ref (ad 0 11), ob (mm (mr M r) f g) (ad 0 6) 5, (Value.int (f (ad 0 6) 2)) = .int (nI k)]) rfl ⟨(hF.o 6), (hF.r 6 0 11), rfl, (hF.o 6), congrArg Value.int hn, trivial⟩ ?_
  refine go_blk 1 [] (pc' := 19) (vs' := [.ref (ad 0 6), .ref (ad 1 k), .int 1]) (st' := []) (M' := mm (sR (mr M r) (ad 0 11) ((nI k).toNatClampNeg) (some (ad 1 k))) f g) (ps := [ob (mm (mr M r) f g) (ad 0 11) 18, 17 ≤ 18 ∧ 18 < 22, ob (mm (mr M r) f g) (ad 1 k) (zaI.getD (18 - 17) 0), vp_in (nI k) (mN (mm (mr M r) f g) (ad 0 11))]) rfl ⟨(hF.o 11), (by decide), ho, (vpi (hF.n 11) hk), trivial⟩ ?_
  rw [nI_clamp (n := k) (by omega)]
  show Go d 38 0 0 19 [.ref (ad 0 6), .ref (ad 1 k), .int 1] [] (mm (mr M (up2 r (ad 0 11) k (some (ad 1 k)))) f g) R
  have hF : Fx (mr M (up2 r (ad 0 11) k (some (ad 1 k)))) ad := fx_mr (M := mr M r) (r := up2 r (ad 0 11) k (some (ad 1 k))) hF (fun i j z => up2_n _ _ (fun y => by have := (hi _ _ _ _ y.1).2; omega))
  show Go d 38 0 0 19 [.ref (ad 0 6), .ref (ad 1 k), .int 1] [] (mm (mr M (up2 r (ad 0 11) k (some (ad 1 k)))) f g) R
  refine go_blk 12 [some (.ref (ad 0 12)), some (.int (nI k)), some (.int (nI k))] (pc' := 39) (vs' := [.ref (ad 0 6), .ref (ad 1 k), .int 1]) (st' := []) (M' := mm (mr M (up2 r (ad 0 11) k (some (ad 1 k)))) (up2 (up2 f (ad 0 12) ((nI k).toNatClampNeg) 1) (ad 0 6) 2 ((nI k) + 1)) g) (ps := [ob (mm (mr M (up2 r (ad 0 11) k (some (ad 1 k)))) f g) (ad 0 6) 5, mR (mm (mr M (up2 r (ad 0 11) k (some (ad 1 k)))) f g) (ad 0 6) 1 = some (ad 0 12), va_rf (some (ad 0 12)) = .ref (ad 0 12), ob (mm (mr M (up2 r (ad 0 11) k (some (ad 1 k)))) f g) (ad 0 6) 5, (Value.int (f (ad 0 6) 2)) = .int (nI k), ob (mm (mr M (up2 r (ad 0 11) k (some (ad 1 k)))) f g) (ad 0 12) 13, vp_in (nI k) (mN (mm (mr M (up2 r (ad 0 11) k (some (ad 1 k)))) f g) (ad 0 12)), (.ref (ad 0 6) : Value).category = 1, ob (mm (mr M (up2 r (ad 0 11) k (some (ad 1 k)))) (up2 f (ad 0 12) ((nI k).toNatClampNeg) 1) g) (ad 0 6) 5, (Value.int ((up2 f (ad 0 12) ((nI k).toNatClampNeg) 1) (ad 0 6) 2)) = .int (nI k), ob (mm (mr M (up2 r (ad 0 11) k (some (ad 1 k)))) (up2 f (ad 0 12) ((nI k).toNatClampNeg) 1) g) (ad 0 6) 5]) rfl ⟨(hF.o 6), (hF.r 6 1 12), rfl, (hF.o 6), congrArg Value.int hn, (hF.o 12), (vpi (hF.n 12) hk), rfl, (hF.o 6), congrArg Value.int (((up2_n _ _ (fun z => absurd (hi _ _ _ _ z.1).2 (by decide))).trans (rfl)).trans hn), (hF.o 6), trivial⟩ ?_
  rw [nI_clamp (n := k) (by omega)]
  refine go_vret rfl rfl ?_
  rw [show nI k + 1 = nI (k + 1) from nI_add k 1]
  exact hR

set_option maxRecDepth 100000 in
theorem s_Mv_addB {d : Nat} {M : Mem} {f : Nat → Nat → Int32} {g : Nat → Nat → Int64} {ad : Nat → Nat → Nat} {R : Option Value → Mem → Prop} {r : Nat → Nat → Option Nat} {k b : Nat} (hi : Inj ad) (hF : Fx (mr M r) ad) (hk : k < 7) (hn : f (ad 0 6) 4 = nI k) (ho : ob M (ad 2 b) 0) (hR : R none (mm (mr M (up2 r (ad 0 13) k (some (ad 2 b)))) (up2 f (ad 0 6) 4 (nI (k + 1))) g)) : Call d 39 [.ref (ad 0 6), .ref (ad 2 b)] (mm (mr M r) f g) R := by
  show Go d 39 0 0 0 [.ref (ad 0 6), .ref (ad 2 b)] [] (mm (mr M r) f g) R
  refine go_blk 3 [some (.int (nI k))] (pc' := 6) (vs' := [.ref (ad 0 6), .ref (ad 2 b)]) (st' := [.int 7, .int (nI k)]) (M' := mm (mr M r) f g) (ps := [ob (mm (mr M r) f g) (ad 0 6) 5, (Value.int (f (ad 0 6) 4)) = .int (nI k)]) rfl ⟨(hF.o 6), congrArg Value.int hn, trivial⟩ ?_
  refine go_icmp rfl (fun (z : 7 ≤ (nI k)) => absurd z (show ¬ (7 ≤ (nI k)) from (Int32.not_le.mpr ((nI_lts (a := k) (b := 7) (by omega) (by decide)).mpr hk)))) (fun _ => ?_)
  refine go_blk 5 [some (.ref (ad 0 13)), some (.int (nI k))] (pc' := 18) (vs' := [.ref (ad 0 6), .ref (ad 2 b)]) (st' := [.ref (ad 2 b), .int (nI k), .ref (ad 0 13)]) (M' := mm (mr M r) f g) (ps := [ob (mm (mr M r) f g) (ad 0 6) 5, mR (mm (mr M r) f g) (ad 0 6) 3 = some (ad 0 13), va_rf (some (ad 0 13)) = .ref (ad 0 13), ob (mm (mr M r) f g) (ad 0 6) 5, (Value.int (f (ad 0 6) 4)) = .int (nI k)]) rfl ⟨(hF.o 6), (hF.r 6 3 13), rfl, (hF.o 6), congrArg Value.int hn, trivial⟩ ?_
  refine go_blk 1 [] (pc' := 19) (vs' := [.ref (ad 0 6), .ref (ad 2 b)]) (st' := []) (M' := mm (sR (mr M r) (ad 0 13) ((nI k).toNatClampNeg) (some (ad 2 b))) f g) (ps := [ob (mm (mr M r) f g) (ad 0 13) 17, 17 ≤ 17 ∧ 17 < 22, ob (mm (mr M r) f g) (ad 2 b) (zaI.getD (17 - 17) 0), vp_in (nI k) (mN (mm (mr M r) f g) (ad 0 13))]) rfl ⟨(hF.o 13), (by decide), ho, (vpi (hF.n 13) hk), trivial⟩ ?_
  rw [nI_clamp (n := k) (by omega)]
  show Go d 39 0 0 19 [.ref (ad 0 6), .ref (ad 2 b)] [] (mm (mr M (up2 r (ad 0 13) k (some (ad 2 b)))) f g) R
  have hF : Fx (mr M (up2 r (ad 0 13) k (some (ad 2 b)))) ad := fx_mr (M := mr M r) (r := up2 r (ad 0 13) k (some (ad 2 b))) hF (fun i j z => up2_n _ _ (fun y => by have := (hi _ _ _ _ y.1).2; omega))
  show Go d 39 0 0 19 [.ref (ad 0 6), .ref (ad 2 b)] [] (mm (mr M (up2 r (ad 0 13) k (some (ad 2 b)))) f g) R
  refine go_blk 6 [some (.int (nI k))] (pc' := 29) (vs' := [.ref (ad 0 6), .ref (ad 2 b)]) (st' := []) (M' := mm (mr M (up2 r (ad 0 13) k (some (ad 2 b)))) (up2 f (ad 0 6) 4 ((nI k) + 1)) g) (ps := [(.ref (ad 0 6) : Value).category = 1, ob (mm (mr M (up2 r (ad 0 13) k (some (ad 2 b)))) f g) (ad 0 6) 5, (Value.int (f (ad 0 6) 4)) = .int (nI k), ob (mm (mr M (up2 r (ad 0 13) k (some (ad 2 b)))) f g) (ad 0 6) 5]) rfl ⟨rfl, (hF.o 6), congrArg Value.int hn, (hF.o 6), trivial⟩ ?_
  refine go_vret rfl rfl ?_
  rw [show nI k + 1 = nI (k + 1) from nI_add k 1]
  exact hR

