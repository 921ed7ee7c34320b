/-! the beginning: steps of the constructors, over memory by places -/
def SubS (S S' : Nat → Nat → Option (Nat × Nat)) : Prop := ∀ t i v, S t i = some v → S' t i = some v
theorem SubS.rf {S : Nat → Nat → Option (Nat × Nat)} : SubS S S := fun _ _ _ h => h
theorem SubS.tr {S S' S'' : Nat → Nat → Option (Nat × Nat)} (h : SubS S S') (h' : SubS S' S'') : SubS S S'' := fun t i v z => h' t i v (h t i v z)
theorem SubS.up {S : Nat → Nat → Option (Nat × Nat)} {t i : Nat} {v : Nat × Nat} (h : S t i = none) : SubS S (upS S t i v) := fun t' i' w hw => by
  rw [upS_n (fun z => by rw [z.1, z.2, h] at hw; cases hw)]
  exact hw
theorem adS.rf {S : Nat → Nat → Option (Nat × Nat)} {ad : Nat → Nat → Nat} : adS S ad ad := fun _ _ _ _ => rfl
theorem adS.tr {S S' : Nat → Nat → Option (Nat × Nat)} {ad ad' ad'' : Nat → Nat → Nat} (h : adS S ad ad') (hs : SubS S S') (h' : adS S' ad' ad'') : adS S ad ad'' := fun t i v z => (h' t i v (hs t i v z)).trans (h t i v z)
/-- since ad0, S0: memory by places, with old addresses kept, the script kept -/
def MW (ad0 : Nat → Nat → Nat) (S0 : Nat → Nat → Option (Nat × Nat)) (sc : Nat × Nat × (Nat → Int32)) (M : Mem) (ad : Nat → Nat → Nat) (S : Nat → Nat → Option (Nat × Nat)) (φ : VI) (ψ : VJ) (χ : Nat → Nat → Nat → Option (Nat × Nat)) : Prop :=
  MV M ad S φ ψ χ ∧ adS S0 ad0 ad ∧ SubS S0 S ∧ mSc M = sc
/-- what a constructor does -/
def CT (d id t i : Nat) (S : Nat → Nat → Option (Nat × Nat)) (φ : VI) (ψ : VJ) (χ : Nat → Nat → Nat → Option (Nat × Nat)) (S' : Nat → Nat → Option (Nat × Nat)) (φ' : VI) (ψ' : VJ) (χ' : Nat → Nat → Nat → Option (Nat × Nat)) : Prop :=
  ∀ (M : Mem) (ad : Nat → Nat → Nat) (sc : Nat × Nat × (Nat → Int32)) (R : Option Value → Mem → Prop), MW ad S sc M ad S φ ψ χ → (∀ M' ad', MW ad S sc M' ad' S' φ' ψ' χ' → R none M') → Call d id [.ref (ad t i)] M R
section
variable {ad0 ad : Nat → Nat → Nat} {S0 S : Nat → Nat → Option (Nat × Nat)} {sc : Nat × Nat × (Nat → Int32)} {M : Mem} {φ : VI} {ψ : VJ} {χ : Nat → Nat → Nat → Option (Nat × Nat)} {R : Option Value → Mem → Prop} {d k bc bs bc' bs' pc pc1 pc3 t i f t' i' c n C m : Nat} {vs : List Value} {x : Int32} {y : Int64}
theorem MW.at0 {w : Nat × Nat} (h : MW ad0 S0 sc M ad S φ ψ χ) (h0 : S0 t i = some w) : ad t i = ad0 t i := h.2.1 t i w h0
theorem MW.grow {M' : Mem} {ad' : Nat → Nat → Nat} {v : Nat × Nat} (h : MW ad0 S0 sc M ad S φ ψ χ) (hn : S t i = none) (h1 : MV M' ad' (upS S t i v) φ ψ χ) (h2 : adS S ad ad') (h3 : mSc M' = mSc M) : MW ad0 S0 sc M' ad' (upS S t i v) φ ψ χ :=
  ⟨h1, h.2.1.tr h.2.2.1 h2, h.2.2.1.tr (SubS.up hn), h3.trans h.2.2.2⟩
theorem MW.setR {w w' : Nat × Nat} (h : MW ad0 S0 sc M ad S φ ψ χ) (hS : S t i = some w) (hS' : S t' i' = some w') : MW ad0 S0 sc (sR M (ad t i) f (some (ad t' i'))) ad S φ ψ (up3 χ t i f (some (t', i'))) :=
  ⟨h.1.setR (k := f) hS hS', h.2.1, h.2.2.1, h.2.2.2⟩
theorem MW.setI {w : Nat × Nat} (h : MW ad0 S0 sc M ad S φ ψ χ) (hS : S t i = some w) : MW ad0 S0 sc (sI M (ad t i) f x) ad S (up3 φ t i f x) ψ χ :=
  ⟨h.1.setI (k := f) hS, h.2.1, h.2.2.1, h.2.2.2⟩
theorem MW.setJ {w : Nat × Nat} (h : MW ad0 S0 sc M ad S φ ψ χ) (hS : S t i = some w) : MW ad0 S0 sc (sJ M (ad t i) f y) ad S φ (up3 ψ t i f y) χ :=
  ⟨h.1.setJ (k := f) hS, h.2.1, h.2.2.1, h.2.2.2⟩
theorem MW.ob {c n : Nat} (h : MW ad0 S0 sc M ad S φ ψ χ) (hS : S t i = some (c, n)) : ob M (ad t i) c := (h.1.2.2.1 t i c n hS).1
theorem MW.ln {c n : Nat} (h : MW ad0 S0 sc M ad S φ ψ χ) (hS : S t i = some (c, n)) : mN M (ad t i) = n := (h.1.2.2.1 t i c n hS).2.1
theorem MW.r {c n : Nat} (h : MW ad0 S0 sc M ad S φ ψ χ) (hS : S t i = some (c, n)) (hx : χ t i f = some (t', i')) : mR M (ad t i) f = some (ad t' i') := by
  rw [(h.1.2.2.1 t i c n hS).2.2.2.2 f, hx]
  rfl
/-- this.f = new x[n], of numbers -/
theorem st_arr {at0 : ArrayType} {p0 len b ty : Nat} {x0 : Int32} {w0 : Int64} {ts : List (Int32 × Nat)} (h : MW ad0 S0 sc M ad S φ ψ χ) (h0 : S0 t i = some (C, m)) (hn : S t' i' = none)
    (b1 : ∀ a M, blk 2 [] k pc (.ref a :: vs) [] M = some ([], pc1, .ref a :: vs, [.int x, .ref a], M)) (b2 : fet k pc1 = some (p0, .newarray at0, len, c, b, ty, x0, w0, ts))
    (b3 : ∀ a q M, blk 1 [] k (pc1 + 2) (.ref a :: vs) [.ref q, .ref a] M = some ([ob M a C], pc3, .ref a :: vs, [], sR M a f (some q)))
    (hx : ¬ x < 0 ∧ x.toNatClampNeg = n ∧ n ≤ 100000) (hb : bc' + 1 ≤ bc ∧ bs' + n ≤ bs)
    (hr : ∀ M' ad', MW ad0 S0 sc M' ad' (upS S t' i' (c, n)) φ ψ (up3 χ t i f (some (t', i'))) → Go d k bc' bs' pc3 (.ref (ad0 t i) :: vs) [] M' R) : Go d k bc bs pc (.ref (ad0 t i) :: vs) [] M R := by
  refine go_blk 2 [] (b1 _ _) trivial ?_
  obtain ⟨hx1, hx2, hx3⟩ := hx
  refine go_newa b2 hx1 (by omega) (by omega) (by omega) (fun q hq => ?_)
  rw [hx2]
  obtain ⟨ad', g1, g2, g3⟩ := h.1.alA hq hn c n
  have h' := h.grow hn g1 g2 rfl
  obtain ⟨M1, hM1⟩ : ∃ M1, alA M q c n = M1 := ⟨_, rfl⟩
  rw [hM1] at h' ⊢
  have hS : upS S t' i' (c, n) t i = some (C, m) := h'.2.2.1 t i _ h0
  have e0 := h'.at0 h0
  refine go_blk 1 [] (b3 _ _ _) ⟨by rw [← e0]; exact h'.ob hS, trivial⟩ ?_
  rw [← e0, ← g3]
  have := hr _ _ (h'.setR (f := f) hS (upS_s S t' i' (c, n)))
  rw [← e0] at this
  exact this.mono (Nat.le_refl _) (by omega) (by omega) (fun _ _ z => z)
/-- this.f = new X[n] -/
theorem st_aarr {p0 len b ty ix : Nat} {x0 : Int32} {w0 : Int64} {ts : List (Int32 × Nat)} (h : MW ad0 S0 sc M ad S φ ψ χ) (h0 : S0 t i = some (C, m)) (hn : S t' i' = none)
    (b1 : ∀ a M, blk 2 [] k pc (.ref a :: vs) [] M = some ([], pc1, .ref a :: vs, [.int x, .ref a], M)) (b2 : fet k pc1 = some (p0, .anewarray ix, len, c, b, ty, x0, w0, ts))
    (b3 : ∀ a q M, blk 1 [] k (pc1 + 3) (.ref a :: vs) [.ref q, .ref a] M = some ([ob M a C], pc3, .ref a :: vs, [], sR M a f (some q)))
    (hx : ¬ x < 0 ∧ x.toNatClampNeg = n ∧ n ≤ 100000) (hb : bc' + 1 ≤ bc ∧ bs' + n ≤ bs)
    (hr : ∀ M' ad', MW ad0 S0 sc M' ad' (upS S t' i' (c, n)) φ ψ (up3 χ t i f (some (t', i'))) → Go d k bc' bs' pc3 (.ref (ad0 t i) :: vs) [] M' R) : Go d k bc bs pc (.ref (ad0 t i) :: vs) [] M R := by
  refine go_blk 2 [] (b1 _ _) trivial ?_
  obtain ⟨hx1, hx2, hx3⟩ := hx
  refine go_anewa b2 hx1 (by omega) (by omega) (by omega) (fun q hq => ?_)
  rw [hx2]
  obtain ⟨ad', g1, g2, g3⟩ := h.1.alA hq hn c n
  have h' := h.grow hn g1 g2 rfl
  obtain ⟨M1, hM1⟩ : ∃ M1, alA M q c n = M1 := ⟨_, rfl⟩
  rw [hM1] at h' ⊢
  have hS : upS S t' i' (c, n) t i = some (C, m) := h'.2.2.1 t i _ h0
  have e0 := h'.at0 h0
  refine go_blk 1 [] (b3 _ _ _) ⟨by rw [← e0]; exact h'.ob hS, trivial⟩ ?_
  rw [← e0, ← g3]
  have := hr _ _ (h'.setR (f := f) hS (upS_s S t' i' (c, n)))
  rw [← e0] at this
  exact this.mono (Nat.le_refl _) (by omega) (by omega) (fun _ _ z => z)
/-- this.f = a number -/
theorem st_int (h : MW ad0 S0 sc M ad S φ ψ χ) (h0 : S0 t i = some (C, m))
    (b1 : ∀ a M, blk 3 [] k pc (.ref a :: vs) [] M = some ([ob M a C], pc3, .ref a :: vs, [], sI M a f x))
    (hr : ∀ M', MW ad0 S0 sc M' ad S (up3 φ t i f x) ψ χ → Go d k bc bs pc3 (.ref (ad0 t i) :: vs) [] M' R) : Go d k bc bs pc (.ref (ad0 t i) :: vs) [] M R := by
  have hS : S t i = some (C, m) := h.2.2.1 t i _ h0
  have e0 := h.at0 h0
  refine go_blk 3 [] (b1 _ _) ⟨by rw [← e0]; exact h.ob hS, trivial⟩ ?_
  refine hr _ ?_
  rw [← e0]
  exact h.setI hS
theorem st_lng (h : MW ad0 S0 sc M ad S φ ψ χ) (h0 : S0 t i = some (C, m))
    (b1 : ∀ a M, blk 3 [] k pc (.ref a :: vs) [] M = some ([ob M a C], pc3, .ref a :: vs, [], sJ M a f y))
    (hr : ∀ M', MW ad0 S0 sc M' ad S φ (up3 ψ t i f y) χ → Go d k bc bs pc3 (.ref (ad0 t i) :: vs) [] M' R) : Go d k bc bs pc (.ref (ad0 t i) :: vs) [] M R := by
  have hS : S t i = some (C, m) := h.2.2.1 t i _ h0
  have e0 := h.at0 h0
  refine go_blk 3 [] (b1 _ _) ⟨by rw [← e0]; exact h.ob hS, trivial⟩ ?_
  refine hr _ ?_
  rw [← e0]
  exact h.setJ hS
/-- this.f = new X() -/
theorem st_obj {ix ix2 cal p0 len b ty p0' len' b' ty' d' : Nat} {x0 x0' : Int32} {w0 w0' : Int64} {ts ts' : List (Int32 × Nat)} {S' : Nat → Nat → Option (Nat × Nat)} {φ' : VI} {ψ' : VJ} {χ' : Nat → Nat → Nat → Option (Nat × Nat)} (h : MW ad0 S0 sc M ad S φ ψ χ) (h0 : S0 t i = some (C, m)) (hn : S t' i' = none)
    (b1 : ∀ a M, blk 1 [] k pc (.ref a :: vs) [] M = some ([], pc1, .ref a :: vs, [.ref a], M)) (b2 : fet k pc1 = some (p0, .new ix, len, c, b, ty, x0, w0, ts)) (hc : c < 13)
    (b3 : ∀ a q M, blk 1 [] k (pc1 + 3) (.ref a :: vs) [.ref q, .ref a] M = some ([(Value.ref q).category = 1], pc1 + 4, .ref a :: vs, [.ref q, .ref q, .ref a], M))
    (b4 : fet k (pc1 + 4) = some (p0', .invokespecial ix2, len', cal, b', ty', x0', w0', ts')) (hcal : cal ≠ 9000) (hpN : pN (tbl cal) = 0) (hck : ∀ q a, cok cal 1 [.ref q, .ref q, .ref a] = true)
    (b5 : ∀ a q M, blk 1 [] k (pc1 + 4 + 3) (.ref a :: vs) [.ref q, .ref a] M = some ([ob M a C], pc3, .ref a :: vs, [], sR M a f (some q)))
    (hd : d' + 1 = d) (hb : bc' + (pMc (tbl cal) + 1) ≤ bc ∧ bs' + (pMs (tbl cal) + clNn c) ≤ bs)
    (hct : CT d' cal t' i' (upS S t' i' (c, 0)) φ ψ χ S' φ' ψ' χ')
    (hr : ∀ M' ad', MW ad0 S0 sc M' ad' S' φ' ψ' (up3 χ' t i f (some (t', i'))) → Go d k bc' bs' pc3 (.ref (ad0 t i) :: vs) [] M' R) : Go d k bc bs pc (.ref (ad0 t i) :: vs) [] M R := by
  refine go_blk 1 [] (b1 _ _) trivial ?_
  refine go_new b2 hc (by omega) (by omega) (fun q hq => ?_)
  refine go_blk 1 [] (b3 _ _ _) ⟨rfl, trivial⟩ ?_
  obtain ⟨ad', g1, g2, g3⟩ := h.1.alO hq hn c
  have h' := h.grow hn g1 g2 rfl
  obtain ⟨M1, hM1⟩ : ∃ M1, alO M q c = M1 := ⟨_, rfl⟩
  rw [hM1] at h' ⊢
  subst hd
  refine go_callI (q := q) (as := []) (rest := [.ref q, .ref (ad0 t i)]) b4 hcal (by rw [hpN]; rfl) (by rw [hpN]; rfl) (by omega) (hck _ _) (by omega) (by omega) ?_
  rw [← g3]
  refine hct M1 ad' sc _ ⟨h'.1, adS.rf, SubS.rf, h'.2.2.2⟩ (fun M2 ad2 h2 => ⟨rfl, ?_⟩)
  have h3 : MW ad0 S0 sc M2 ad2 S' φ' ψ' χ' := ⟨h2.1, h'.2.1.tr h'.2.2.1 h2.2.1, h'.2.2.1.tr h2.2.2.1, h2.2.2.2⟩
  have hS : S' t i = some (C, m) := h3.2.2.1 t i _ h0
  have e0 := h3.at0 h0
  have e1 : ad2 t' i' = ad' t' i' := h2.2.1 t' i' _ (upS_s S t' i' (c, 0))
  refine go_blk 1 [] (b5 _ _ _) ⟨by rw [← e0]; exact h3.ob hS, trivial⟩ ?_
  rw [← e0, ← e1]
  have := hr _ _ (h3.setR (f := f) hS (h2.2.2.1 t' i' _ (upS_s S t' i' (c, 0))))
  rw [← e0] at this
  exact this.mono (Nat.le_refl _) (by omega) (by omega) (fun _ _ z => z)
/-- super() -/
theorem st_sup {p0 len b ty ix : Nat} {x0 : Int32} {w0 : Int64} {ts : List (Int32 × Nat)} {a : Nat}
    (b1 : ∀ a M, blk 1 [] k pc (.ref a :: vs) [] M = some ([], pc1, .ref a :: vs, [.ref a], M)) (b2 : fet k pc1 = some (p0, .invokespecial ix, len, 9000, b, ty, x0, w0, ts)) (hd : 1 ≤ d)
    (hr : Go d k bc bs (pc1 + 3) (.ref a :: vs) [] M R) : Go d k bc bs pc (.ref a :: vs) [] M R := by
  refine go_blk 1 [] (b1 _ _) trivial ?_
  exact go_obj b2 hd (by decide) hr
/-- ranges written -/
def rng (φ : VI) (t i n : Nat) (v : Int32) : VI := fun t' i' k => if t' = t ∧ i' = i ∧ k < n then v else φ t' i' k
theorem MW.fill {w : Nat × Nat} (h : MW ad0 S0 sc M ad S φ ψ χ) (hS : S t i = some w) : MW ad0 S0 sc (mm M (fil (ad t i) n x (mI M)) (mJ M)) ad S (rng φ t i n x) ψ χ := by
  refine ⟨h.1.set (r := mR M) (fun t1 i1 v hv k => ?_) (fun t1 i1 v hv k => (h.1.2.2.1 t1 i1 v.1 v.2 hv).2.2.2.1 k) (fun t1 i1 v hv k => (h.1.2.2.1 t1 i1 v.1 v.2 hv).2.2.2.2 k) (fun t1 i1 hv => ⟨fun k => ?_, (h.1.2.2.2.1 t1 i1 hv).2⟩) h.1.2.2.2.2, h.2.1, h.2.2.1, h.2.2.2⟩
  · unfold fil rng
    by_cases e : t1 = t ∧ i1 = i ∧ k < n
    · rw [if_pos e, if_pos ⟨by rw [e.1, e.2.1], e.2.2⟩]
    · rw [if_neg e, if_neg (fun z => e ⟨(h.1.1 _ _ _ _ z.1).1, (h.1.1 _ _ _ _ z.1).2, z.2⟩)]
      exact (h.1.2.2.1 t1 i1 v.1 v.2 hv).2.2.1 k
  · unfold rng
    rw [if_neg (fun z => by rw [z.1, z.2.1, hS] at hv; cases hv)]
    exact (h.1.2.2.2.1 t1 i1 hv).1 k
/-- for (i = ..; i < n; i++) this.f[i] = x -/
theorem st_fill {p0 len b ty : Nat} {o : Int} {x0 : Int32} {w0 : Int64} {ts : List (Int32 × Nat)} {pcE a ar : Nat} (ho : ob M a C) (hr : mR M a f = some ar) (hoa : ob M ar 15) (hn : mN M ar = n) (h31 : n < 2 ^ 31)
    (b1 : ∀ (y : Int32) M, blk 2 [] k pc [.ref a, .int y] [] M = some ([], pc1, [.ref a, .int y], [.int (nI n), .int y], M)) (b2 : fet k pc1 = some (p0, .if_icmp .ge o, len, pcE, b, ty, x0, w0, ts))
    (b3 : ∀ (y : Int32) M, ∃ ps, blk 7 [some (.ref ar)] k (pc1 + 3) [.ref a, .int y] [] M = some (ps, pc, [.ref a, .int (y + 1)], [], sI M ar y.toNatClampNeg x) ∧ (ob M a C → mR M a f = some ar → ob M ar 15 → vp_in y (mN M ar) → allP ps))
    (hE : Go d k bc bs pcE [.ref a, .int (nI n)] [] (mm M (fil ar n x (mI M)) (mJ M)) R) : Go d k bc bs pc [.ref a, .int 0] [] M R := by
  have loop : ∀ j, j ≤ n → Go d k bc bs pc [.ref a, .int (nI j)] [] (mm M (fil ar j x (mI M)) (mJ M)) R := by
    refine up_ind n ?_ (fun j hj ih => ?_)
    · refine go_blk 2 [] (b1 _ _) trivial ?_
      exact go_icmp b2 (fun _ => hE) (fun (z : ¬ (nI n ≤ nI n)) => absurd (Int32.le_refl _) z)
    · refine go_blk 2 [] (b1 _ _) trivial ?_
      refine go_icmp b2 (fun (z : nI n ≤ nI j) => absurd z (Int32.not_le.mpr ((nI_lts (a := j) (b := n) (by omega) (by omega)).mpr hj))) (fun _ => ?_)
      obtain ⟨ps, g1, g2⟩ := b3 (nI j) (mm M (fil ar j x (mI M)) (mJ M))
      refine go_blk 7 _ g1 (g2 ho hr hoa (vpi hn hj h31)) ?_
      rw [nI_clamp (n := j) (by omega), show nI j + 1 = nI (j + 1) from nI_add j 1]
      have e : sI (mm M (fil ar j x (mI M)) (mJ M)) ar j x = mm M (fil ar (j + 1) x (mI M)) (mJ M) := by
        rw [← fil_s]
        rfl
      rw [e]
      exact ih
  have := loop 0 (Nat.zero_le _)
  rw [fil_0] at this
  exact this
end
