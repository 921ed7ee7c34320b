/-! the first memory keeps the invariant; the law from its beginning -/
section
variable {M : Mem} {ad : Nat → Nat → Nat}
theorem W0i (h : MV M ad SA101 PA16 QA2 XA99) (t i : Nat) (hs : (SA101 t i).isSome = true) (k : Nat) : vw ad (mI M) t i k = PA16 t i k := by
  obtain ⟨v, hv⟩ := Option.isSome_iff_exists.mp hs
  exact (h.2.2.1 t i v.1 v.2 hv).2.2.1 k
theorem W0j (h : MV M ad SA101 PA16 QA2 XA99) (t i : Nat) (hs : (SA101 t i).isSome = true) (k : Nat) : vw ad (mJ M) t i k = QA2 t i k := by
  obtain ⟨v, hv⟩ := Option.isSome_iff_exists.mp hs
  exact (h.2.2.1 t i v.1 v.2 hv).2.2.2.1 k
theorem W0r (h : MV M ad SA101 PA16 QA2 XA99) (t i k t' i' : Nat) (hs : (SA101 t i).isSome = true) (hx : XA99 t i k = some (t', i')) : mR M (ad t i) k = some (ad t' i') := by
  obtain ⟨v, hv⟩ := Option.isSome_iff_exists.mp hs
  rw [(h.2.2.1 t i v.1 v.2 hv).2.2.2.2 k, hx]
  rfl
theorem W0n (h : MV M ad SA101 PA16 QA2 XA99) (t i k : Nat) (hs : (SA101 t i).isSome = true) (hx : XA99 t i k = none) : mR M (ad t i) k = none := by
  obtain ⟨v, hv⟩ := Option.isSome_iff_exists.mp hs
  rw [(h.2.2.1 t i v.1 v.2 hv).2.2.2.2 k, hx]
  rfl
theorem W0o (h : MV M ad SA101 PA16 QA2 XA99) (t i c n : Nat) (hs : SA101 t i = some (c, n)) : ob M (ad t i) c ∧ mN M (ad t i) = n := ⟨(h.2.2.1 t i c n hs).1, (h.2.2.1 t i c n hs).2.1⟩
theorem Fx_0 (h : MV M ad SA101 PA16 QA2 XA99) : Fx M ad := by
  have e1 : ∀ i, i < 41 → SA101 0 i = some (fxK i, fxN i) := by decide +kernel
  have e2 : ∀ q ∈ fxR, (SA101 0 q.1).isSome = true ∧ XA99 0 q.1 q.2.1 = some (0, q.2.2) := by decide +kernel
  exact ⟨fun i hi => W0o h 0 i _ _ (e1 i hi), fun q hq => W0r h 0 q.1 q.2.1 0 q.2.2 (e2 q hq).1 (e2 q hq).2⟩
theorem Mx_0 (h : MV M ad SA101 PA16 QA2 XA99) : Mx M ad := by
  have e1 : SA101 10 0 = some (12, 0) := by decide +kernel
  have e2 : ∀ q ∈ moL, SA101 9 q.1 = some (q.2.1, q.2.2) ∧ XA99 10 0 q.1 = some (9, q.1) := by decide +kernel
  exact ⟨(W0o h 10 0 12 0 e1).1, fun q hq => ⟨W0r h 10 0 q.1 9 q.1 (by rw [e1]; rfl) (e2 q hq).2, W0o h 9 q.1 _ _ (e2 q hq).1⟩⟩
theorem no_lt0 {P : Prop} {n : Nat} (h : n < 0) : P := absurd h (Nat.not_lt_zero n)
theorem pa29 {k : Nat} (hk : k < 64) : PA16 9 29 k = 10 := by
  show rng PA13 9 29 64 10 9 29 k = 10
  exact if_pos ⟨rfl, rfl, hk⟩
theorem pa31 {i j : Nat} (hi : i < 8) (hj : j < 8) : PA16 0 31 (8 * i + j) = if i = j then 0 else 10 := by
  show dia3 (rng PA1 0 31 64 10) 0 31 8 0 31 (8 * i + j) = if i = j then 0 else 10
  unfold dia3
  by_cases e : i = j
  · rw [if_pos e, if_pos ⟨rfl, rfl, by omega, by omega⟩]
  · rw [if_neg e, if_neg (fun z => e (by omega))]
    exact if_pos ⟨rfl, rfl, by omega⟩
theorem WI_0 (h : MV M ad SA101 PA16 QA2 XA99) : WI M ad 0 0 0 0 0 0 0 0 0 0 false := by
  have e := W0i h
  have eq : ∀ t i k v, (SA101 t i).isSome = true → PA16 t i k = v → vw ad (mI M) t i k = v := fun t i k v hs hv => (W0i h t i hs k).trans hv
  refine ⟨h.1, ⟨Fx_0 h, Mx_0 h, fun c hc => no_lt0 hc, fun c hc => no_lt0 hc, fun c hc => no_lt0 hc, ?_⟩, ⟨?_, ?_, ?_, ?_, ?_, ?_⟩, ⟨?_, ?_, ?_, ?_, ?_⟩, ?_, ?_, ?_, Or.inl ?_, ?_⟩
  · -- Xs
    refine ⟨W0r h 0 10 0 7 0 (by decide +kernel) (by decide +kernel), fun i hi => no_lt0 hi, fun i hi => ?_⟩
    obtain rfl : i = 0 := by omega
    obtain ⟨q1, q2⟩ := W0o h 8 0 15 120 (by decide +kernel)
    exact ⟨(W0o h 7 0 9 0 (by decide +kernel)).1, W0r h 7 0 0 8 0 (by decide +kernel) (by decide +kernel), q1, q2⟩
  · -- ISc
    exact ⟨⟨eq 0 0 1 _ (by decide +kernel) rfl, eq 10 0 17 _ (by decide +kernel) rfl, by omega⟩, ⟨eq 0 0 3 _ (by decide +kernel) rfl, eq 10 0 18 _ (by decide +kernel) rfl, by omega⟩, ⟨eq 0 0 5 _ (by decide +kernel) rfl, eq 10 0 30 _ (by decide +kernel) rfl, by omega⟩, ⟨eq 0 0 7 _ (by decide +kernel) rfl, eq 10 0 19 _ (by decide +kernel) rfl, by omega⟩, ⟨eq 0 0 9 _ (by decide +kernel) rfl, eq 10 0 20 _ (by decide +kernel) rfl, by omega⟩, ⟨eq 0 0 8 _ (by decide +kernel) rfl, eq 10 0 21 _ (by decide +kernel) rfl, fun z => by cases z⟩, 0, by omega, eq 0 0 6 _ (by decide +kernel) rfl, eq 10 0 98 _ (by decide +kernel) rfl⟩
  · -- ICo
    exact ⟨fun c hc => no_lt0 hc, fun w c _ _ _ => eq 9 5 _ _ (by decide +kernel) rfl⟩
  · exact ⟨fun c hc => no_lt0 hc, fun a b ha => no_lt0 ha⟩
  · -- IRd
    refine ⟨fun i j hi hj => ⟨?_, fun _ => ?_⟩, ?_, 5, by omega, by omega, eq 10 0 31 _ (by decide +kernel) rfl⟩
    · rw [e 0 31 (by decide +kernel), e 9 29 (by decide +kernel), pa31 hi hj, pa29 (by omega)]
    · rw [e 9 29 (by decide +kernel), pa29 (by omega)]
      exact ⟨10, by omega, by omega, rfl⟩
    · rw [e 0 16 (by decide +kernel), e 10 0 (by decide +kernel)]
      rfl
  · -- ILa
    refine ⟨?_, ⟨10, by omega, by omega, eq 10 0 63 _ (by decide +kernel) rfl⟩, eq 10 0 71 _ (by decide +kernel) rfl⟩
    rw [e 0 8 (by decide +kernel), e 0 8 (by decide +kernel), e 0 8 (by decide +kernel), e 0 8 (by decide +kernel), e 0 8 (by decide +kernel), e 0 8 (by decide +kernel), e 0 8 (by decide +kernel), e 0 8 (by decide +kernel), e 10 0 (by decide +kernel), e 10 0 (by decide +kernel), e 10 0 (by decide +kernel), e 10 0 (by decide +kernel), e 10 0 (by decide +kernel), e 10 0 (by decide +kernel), e 10 0 (by decide +kernel), e 10 0 (by decide +kernel)]
    exact ⟨rfl, rfl, rfl, rfl, rfl, rfl, rfl, rfl⟩
  · -- ITm
    exact ⟨fun t ht => no_lt0 ht, fun t _ _ => ⟨⟨eq 9 44 _ _ (by decide +kernel) rfl, eq 9 45 _ _ (by decide +kernel) rfl, eq 9 46 _ _ (by decide +kernel) rfl, eq 9 47 _ _ (by decide +kernel) rfl, eq 9 48 _ _ (by decide +kernel) rfl, eq 9 49 _ _ (by decide +kernel) rfl, eq 9 51 _ _ (by decide +kernel) rfl⟩, fun k _ => eq 9 97 _ _ (by decide +kernel) rfl⟩⟩
  · -- IJo
    refine ⟨fun b hb => no_lt0 hb, fun j hj => Or.inr ⟨eq 9 32 _ _ (by decide +kernel) rfl, ?_, eq 9 40 _ _ (by decide +kernel) rfl, eq 9 41 _ _ (by decide +kernel) rfl⟩⟩
    exact eq 9 39 _ _ (by decide +kernel) (show rng PA15 9 39 364 (-1) 9 39 j = -1 from if_pos ⟨rfl, rfl, hj⟩)
  · -- IJr
    exact ⟨fun b hb => no_lt0 hb, fun w c _ _ => Or.inr ⟨W0n h 0 4 _ (by decide +kernel) rfl, fun b hb => no_lt0 hb⟩, fun z => by cases z⟩
  · -- IBo
    refine ⟨⟨eq 0 9 2 _ (by decide +kernel) rfl, eq 10 0 95 _ (by decide +kernel) rfl, eq 0 9 4 _ (by decide +kernel) rfl, eq 10 0 96 _ (by decide +kernel) rfl, by omega, by omega⟩, fun th ht => ?_, fun i hi => no_lt0 hi, fun b hb => no_lt0 hb⟩
    rw [e 0 35 (by decide +kernel), e 9 94 (by decide +kernel)]
    have : th = 0 ∨ th = 1 ∨ th = 2 := by omega
    rcases this with rfl | rfl | rfl <;> decide +kernel
  · -- ITx
    exact ⟨⟨eq 0 10 2 _ (by decide +kernel) rfl, eq 10 0 81 _ (by decide +kernel) rfl, by omega⟩, ⟨0, by omega, eq 7 0 1 _ (by decide +kernel) rfl, eq 10 0 80 _ (by decide +kernel) rfl, fun k hk => no_lt0 hk⟩, fun i hi => no_lt0 hi⟩
  · -- ILn
    refine ⟨⟨eq 0 10 6 _ (by decide +kernel) rfl, eq 10 0 73 _ (by decide +kernel) rfl, by omega, ?_⟩, fun i hi => no_lt0 hi⟩
    rw [e 0 10 (by decide +kernel), e 10 0 (by decide +kernel)]
    rfl
  · exact eq 10 0 52 _ (by decide +kernel) rfl
  · -- ICd
    exact ⟨(W0j h 0 0 (by decide +kernel) 12).trans rfl, (W0j h 10 0 (by decide +kernel) 99).trans rfl, rfl, fun b hb => no_lt0 hb, fun b hb => no_lt0 hb, fun c hc => no_lt0 hc⟩
  · exact fun z => by cases z
  · exact eq 0 7 19 _ (by decide +kernel) rfl
  · -- IXt
    exact ⟨rfl, fun b _ _ => ⟨eq 9 11 _ _ (by decide +kernel) rfl, eq 9 13 _ _ (by decide +kernel) rfl, eq 9 16 _ _ (by decide +kernel) rfl⟩, fun i hi => no_lt0 hi, fun j _ => Or.inl (eq 9 41 _ _ (by decide +kernel) rfl), fun a b ha => no_lt0 ha⟩
end
/-- places far apart, to begin with -/
def ad00 (i j : Nat) : Nat := (i + j) * (i + j) + i
theorem ad00_lt {s i s' : Nat} (h : i ≤ s) (h' : s < s') : s * s + i < s' * s' := by
  have h1 : (s + 1) * (s + 1) ≤ s' * s' := Nat.mul_le_mul h' h'
  have h2 : (s + 1) * (s + 1) = s * s + s + s + 1 := by rw [Nat.add_mul, Nat.mul_add]; omega
  omega
theorem ad00_inj : Inj ad00 := by
  intro i j i' j' h
  unfold ad00 at h
  rcases Nat.lt_trichotomy (i + j) (i' + j') with z | z | z
  · have := ad00_lt (i := i) (by omega) z
    omega
  · rw [z] at h
    omega
  · have := ad00_lt (i := i') (by omega) z
    omega
set_option maxHeartbeats 4000000 in
theorem pure_law (b L : Nat) (xs : Nat → Int32) (hL : L ≤ 3072) : Go 1312 277 601024 7293034 0 [.ref b, .retAddr 0, .retAddr 0, .retAddr 0, .retAddr 0, .retAddr 0, .retAddr 0] [] ([], fun _ => 0, fun _ => 0, fun _ _ => 0, fun _ _ => 0, fun _ _ => none, b, L, xs) (fun v _ => v = some (.int 1)) := by
  have h0 := MV_0 (b := b) (L := L) (xs := xs) ad00_inj
  obtain ⟨M, hM⟩ : ∃ M : Mem, M = ([], fun _ => 0, fun _ => 0, fun _ _ => 0, fun _ _ => 0, fun _ _ => none, b, L, xs) := ⟨_, rfl⟩
  have hsc : mSc M = (b, L, xs) := by rw [hM]; rfl
  rw [← hM] at h0 ⊢
  clear hM
  replace h0 : MV M ad00 SA0 PA0 QA0 XA0 := h0
  -- new CottageYear
  refine go_new rfl (by decide) (by decide) (by decide) (fun q hq => ?_)
  obtain ⟨ad1, g1, g2, g3⟩ := h0.alO hq (t := 0) (i := 0) (by decide +kernel) 11
  replace g1 : MV (alO M q 11) ad1 SA1 PA0 QA0 XA0 := g1
  have hs1 : mSc (alO M q 11) = (b, L, xs) := hsc
  obtain ⟨M1, hM1⟩ : ∃ M1, alO M q 11 = M1 := ⟨_, rfl⟩
  rw [hM1] at g1 hs1 ⊢
  clear hM1 h0 hsc g2 hq M
  refine go_blk 1 [] (pc' := 4) (vs' := [.ref b, .retAddr 0, .retAddr 0, .retAddr 0, .retAddr 0, .retAddr 0, .retAddr 0]) (st' := [.ref q, .ref q]) (M' := M1) (ps := [(Value.ref q).category = 1]) rfl ⟨rfl, trivial⟩ ?_
  refine go_callI (q := q) (as := []) (rest := [.ref q]) rfl (by decide) rfl rfl (by decide) rfl (by decide) (by decide) ?_
  subst g3
  refine c_CY_init M1 ad1 (b, L, xs) _ ⟨g1, adS.rf, SubS.rf, hs1⟩ (fun M2 ad2 h2 => ⟨rfl, ?_⟩)
  have e2 : ad2 0 0 = ad1 0 0 := h2.2.1 0 0 (11, 0) (by decide +kernel)
  rw [← e2]
  obtain ⟨h2, -, -, hs2⟩ := h2
  clear e2 g1 hs1 M1 ad1
  show Go 1312 277 600982 7270377 7 [.ref b, .retAddr 0, .retAddr 0, .retAddr 0, .retAddr 0, .retAddr 0, .retAddr 0] [.ref (ad2 0 0)] M2 _
  refine go_blk 1 [] (pc' := 8) (vs' := [.ref b, .ref (ad2 0 0), .retAddr 0, .retAddr 0, .retAddr 0, .retAddr 0, .retAddr 0]) (st' := []) (M' := M2) (ps := []) rfl trivial ?_
  -- new CottageYearModel
  refine go_new rfl (by decide) (by decide) (by decide) (fun q hq => ?_)
  obtain ⟨ad1, g1, g2, g3⟩ := h2.alO hq (t := 10) (i := 0) (by decide +kernel) 12
  replace g1 : MV (alO M2 q 12) ad1 SA43 PA9 QA1 XA41 := g1
  have hs1 : mSc (alO M2 q 12) = (b, L, xs) := hs2
  have e1 : ad1 0 0 = ad2 0 0 := g2 0 0 (11, 0) (by decide +kernel)
  rw [← e1]
  obtain ⟨M1, hM1⟩ : ∃ M1, alO M2 q 12 = M1 := ⟨_, rfl⟩
  rw [hM1] at g1 hs1 ⊢
  clear hM1 h2 hs2 g2 hq e1 M2 ad2
  refine go_blk 1 [] (pc' := 12) (vs' := [.ref b, .ref (ad1 0 0), .retAddr 0, .retAddr 0, .retAddr 0, .retAddr 0, .retAddr 0]) (st' := [.ref q, .ref q]) (M' := M1) (ps := [(Value.ref q).category = 1]) rfl ⟨rfl, trivial⟩ ?_
  refine go_callI (q := q) (as := []) (rest := [.ref q]) rfl (by decide) rfl rfl (by decide) rfl (by decide) (by decide) ?_
  subst g3
  refine c_Mo_init M1 ad1 (b, L, xs) _ ⟨g1, adS.rf, SubS.rf, hs1⟩ (fun M2 ad2 h2 => ⟨rfl, ?_⟩)
  have e2 : ad2 0 0 = ad1 0 0 := h2.2.1 0 0 (11, 0) (by decide +kernel)
  have e3 : ad2 10 0 = ad1 10 0 := h2.2.1 10 0 (12, 0) (by decide +kernel)
  rw [← e2, ← e3]
  obtain ⟨h2, -, -, hs2⟩ := h2
  clear e2 e3 g1 hs1 M1 ad1
  show Go 1312 277 600924 7243971 15 [.ref b, .ref (ad2 0 0), .retAddr 0, .retAddr 0, .retAddr 0, .retAddr 0, .retAddr 0] [.ref (ad2 10 0)] M2 _
  refine go_blk 2 [] (pc' := 17) (vs' := [.ref b, .ref (ad2 0 0), .ref (ad2 10 0), .retAddr 0, .retAddr 0, .retAddr 0, .retAddr 0]) (st' := [.int 1]) (M' := M2) (ps := []) rfl trivial ?_
  refine go_newa rfl (by decide) (by decide) (by decide) (by decide) (fun q hq => ?_)
  obtain ⟨ad1, g1, g2, g3⟩ := h2.alA hq (t := 0) (i := 40) (by decide +kernel) 16 1
  replace g1 : MV (alA M2 q 16 1) ad1 SA101 PA16 QA2 XA99 := g1
  have hs1 : mSc (alA M2 q 16 1) = (b, L, xs) := hs2
  have e1 : ad1 0 0 = ad2 0 0 := g2 0 0 (11, 0) (by decide +kernel)
  have e3 : ad1 10 0 = ad2 10 0 := g2 10 0 (12, 0) (by decide +kernel)
  rw [← e1, ← e3]
  rw [show Int32.toNatClampNeg 1 = 1 by decide +kernel]
  obtain ⟨M1, hM1⟩ : ∃ M1, alA M2 q 16 1 = M1 := ⟨_, rfl⟩
  rw [hM1] at g1 hs1 ⊢
  clear hM1 h2 hs2 g2 hq e1 e3 M2 ad2
  refine go_blk 3 [] (pc' := 23) (vs' := [.ref b, .ref (ad1 0 0), .ref (ad1 10 0), .ref q, .int 0, .retAddr 0, .retAddr 0]) (st' := []) (M' := M1) (ps := []) rfl trivial ?_
  subst g3
  have hI : II (ad1 0 0) (ad1 10 0) (ad1 0 40) (b, L, xs) M1 := ⟨hs1, ad1, 0, 0, 0, 0, 0, 0, 0, 0, 0, 0, false, rfl, rfl, rfl, WI_0 g1⟩
  exact (law_from hL hI).mono (Nat.le_refl _) (by decide) (by decide) (fun _ _ z => z)
