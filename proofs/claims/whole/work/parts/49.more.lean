/-! one more: a cottage, a booking, a team -/
theorem ISc.nc1 {φ φ' : VI} {nc nb nt wk nw : Nat} {op : Bool} (h : ISc φ nc nb nt wk nw op) (hn : nc < 7) (e : ∀ t k, (t = 0 ∧ (k = 3 ∨ k = 5 ∨ k = 6 ∨ k = 7 ∨ k = 8 ∨ k = 9)) ∨ (t = 10 ∧ (k = 18 ∨ k = 19 ∨ k = 20 ∨ k = 21 ∨ k = 30 ∨ k = 98)) → φ' t 0 k = φ t 0 k) (e1 : φ' 0 0 1 = nI (nc + 1)) (e2 : φ' 10 0 17 = nI (nc + 1)) : ISc φ' (nc + 1) nb nt wk nw op := by
  unfold ISc at *
  rw [e1, e2, e 0 3 (by omega), e 0 5 (by omega), e 0 6 (by omega), e 0 7 (by omega), e 0 8 (by omega), e 0 9 (by omega), e 10 18 (by omega), e 10 19 (by omega), e 10 20 (by omega), e 10 21 (by omega), e 10 30 (by omega), e 10 98 (by omega)]
  exact ⟨⟨rfl, rfl, hn⟩, h.2⟩
theorem ISc.nb1 {φ φ' : VI} {nc nb nt wk nw : Nat} {op : Bool} (h : ISc φ nc nb nt wk nw op) (hn : nb < 60) (e : ∀ t k, (t = 0 ∧ (k = 1 ∨ k = 5 ∨ k = 6 ∨ k = 7 ∨ k = 8 ∨ k = 9)) ∨ (t = 10 ∧ (k = 17 ∨ k = 19 ∨ k = 20 ∨ k = 21 ∨ k = 30 ∨ k = 98)) → φ' t 0 k = φ t 0 k) (e1 : φ' 0 0 3 = nI (nb + 1)) (e2 : φ' 10 0 18 = nI (nb + 1)) : ISc φ' nc (nb + 1) nt wk nw op := by
  unfold ISc at *
  rw [e1, e2, e 0 1 (by omega), e 0 5 (by omega), e 0 6 (by omega), e 0 7 (by omega), e 0 8 (by omega), e 0 9 (by omega), e 10 17 (by omega), e 10 19 (by omega), e 10 20 (by omega), e 10 21 (by omega), e 10 30 (by omega), e 10 98 (by omega)]
  exact ⟨h.1, ⟨rfl, rfl, hn⟩, h.2.2⟩
theorem ISc.nt1 {φ φ' : VI} {nc nb nt wk nw : Nat} {op : Bool} (h : ISc φ nc nb nt wk nw op) (hn : nt < 3) (e : ∀ t k, (t = 0 ∧ (k = 1 ∨ k = 3 ∨ k = 6 ∨ k = 7 ∨ k = 8 ∨ k = 9)) ∨ (t = 10 ∧ (k = 17 ∨ k = 18 ∨ k = 19 ∨ k = 20 ∨ k = 21 ∨ k = 98)) → φ' t 0 k = φ t 0 k) (e1 : φ' 0 0 5 = nI (nt + 1)) (e2 : φ' 10 0 30 = nI (nt + 1)) : ISc φ' nc nb (nt + 1) wk nw op := by
  unfold ISc at *
  rw [e1, e2, e 0 1 (by omega), e 0 3 (by omega), e 0 6 (by omega), e 0 7 (by omega), e 0 8 (by omega), e 0 9 (by omega), e 10 17 (by omega), e 10 18 (by omega), e 10 19 (by omega), e 10 20 (by omega), e 10 21 (by omega), e 10 98 (by omega)]
  exact ⟨h.1, h.2.1, ⟨rfl, rfl, hn⟩, h.2.2.2⟩
theorem ICo.nc1 {φ φ' : VI} {ψ ψ' : VJ} {nc : Nat} (h : ICo φ ψ nc) (hn : nc < 7) (e : ∀ t i k, (t = 1 ∧ i < nc ∧ k < 4) ∨ (t = 9 ∧ 1 ≤ i ∧ i ≤ 4 ∧ k < nc) ∨ (t = 9 ∧ i = 5) → φ' t i k = φ t i k) (ej : ∀ c, c < nc → ψ' 1 c 4 = ψ 1 c 4) (hq : (φ' 1 nc 0 = φ' 9 1 nc ∧ φ' 1 nc 1 = φ' 9 4 nc ∧ φ' 1 nc 2 = φ' 9 3 nc ∧ φ' 1 nc 3 = φ' 9 2 nc) ∧ rg 1 12 (φ' 9 1 nc) ∧ b01 (φ' 9 4 nc) ∧ rg 10 240 (φ' 9 3 nc) ∧ rg 1 2000 (φ' 9 2 nc)) (hj : ψ' 1 nc 4 = 0) : ICo φ' ψ' (nc + 1) := by
  refine ⟨fun c hc => ?_, fun w c hw h1 h2 => ?_⟩
  · by_cases hcn : c = nc
    · subst hcn
      refine ⟨hq.1, hq.2.1, hq.2.2.1, hq.2.2.2.1, hq.2.2.2.2, fun w hw => ?_⟩
      rw [e 9 5 _ (by omega), h.2 w c hw (Nat.le_refl _) hn, hj]
      have : (0 : Int64).toBitVec.getLsbD w = false := by
        show (0#64).getLsbD w = false
        simp
      rw [this]; rfl
    · obtain ⟨h1, h2⟩ := h.1 c (by omega)
      rw [e 1 c 0 (by omega), e 1 c 1 (by omega), e 1 c 2 (by omega), e 1 c 3 (by omega), e 9 1 c (by omega), e 9 2 c (by omega), e 9 3 c (by omega), e 9 4 c (by omega), ej c (by omega)]
      refine ⟨h1, h2.1, h2.2.1, h2.2.2.1, h2.2.2.2.1, fun w hw => ?_⟩
      rw [e 9 5 _ (by omega)]
      exact h2.2.2.2.2 w hw
  · rw [e 9 5 _ (by omega)]
    exact h.2 w c hw (by omega) h2
theorem IBk.ncm {φ : VI} {nb nc nc' wk : Nat} {op : Bool} (h : IBk φ nb nc wk op) (hn : nc ≤ nc') : IBk φ nb nc' wk op := by
  refine ⟨fun b hb => ?_, h.2⟩
  obtain ⟨h1, ⟨⟨c, h2, h3⟩, h4⟩, h5⟩ := h.1 b hb
  exact ⟨h1, ⟨⟨c, by omega, h3⟩, h4⟩, h5⟩
theorem ITm.ncm {φ : VI} {nt nc nc' : Nat} (h : ITm φ nt nc) (hn : nc ≤ nc') : ITm φ nt nc' := by
  refine ⟨fun t ht => ?_, h.2⟩
  obtain ⟨h1, h2, h3, n, h4, h5, h6⟩ := h.1 t ht
  refine ⟨h1, h2, h3, n, h4, h5, fun i hi => ?_⟩
  obtain ⟨q1, c, q2, q3⟩ := h6 i hi
  exact ⟨q1, c, by omega, q3⟩
theorem IBo.ncm {φ : VI} {ne nk nb nc nc' : Nat} (h : IBo φ ne nk nb nc) (hn : nc ≤ nc') : IBo φ ne nk nb nc' := by
  refine ⟨h.1, h.2.1, fun i hi => ?_, h.2.2.2⟩
  obtain ⟨h1, ⟨c, h2, h3⟩, h4⟩ := h.2.2.1 i hi
  exact ⟨h1, ⟨c, by omega, h3⟩, h4⟩
theorem ICd.nc1 {φ : VI} {ψ : VJ} {kd nb nc : Nat} (h : ICd φ ψ kd nb nc) (hq : ∀ s, 5 ≤ s → s ≤ 7 → φ 1 nc s = -1) : ICd φ ψ kd nb (nc + 1) := by
  obtain ⟨h1, h2, h3, h4, h5, h6⟩ := h
  refine ⟨h1, h2, h3, h4, h5, fun c hc s g1 g2 => ?_⟩
  by_cases hcn : c = nc
  · subst hcn; exact Or.inl (hq s g1 g2)
  · exact h6 c (by omega) s g1 g2
theorem IBk.nb1 {φ : VI} {nb nc wk : Nat} {op : Bool} (h : IBk φ nb nc wk op)
    (hq : (φ 2 nb 0 = φ 9 6 nb ∧ φ 2 nb 1 = φ 9 7 nb ∧ φ 2 nb 2 = φ 9 8 nb ∧ φ 2 nb 3 = φ 9 14 nb ∧ φ 2 nb 4 = φ 9 9 nb ∧ φ 2 nb 5 = φ 9 10 nb ∧ φ 2 nb 6 = φ 9 15 nb ∧ φ 2 nb 7 = φ 9 16 nb ∧ φ 2 nb 8 = φ 9 13 nb ∧ φ 2 nb 9 = φ 9 11 nb) ∧
    ((∃ c, c < nc ∧ φ 9 6 nb = nI c) ∧ rg 1 12 (φ 9 8 nb) ∧ b01 (φ 9 14 nb) ∧ rg 0 1000 (φ 9 9 nb) ∧ rg 1 2000 (φ 9 10 nb) ∧ b01 (φ 9 15 nb)) ∧ (∃ w, w < 52 ∧ φ 9 7 nb = nI w)) (h0 : φ 9 16 nb = 0)
    (hu : ∀ a, a < nb → φ 9 15 a = 1 → φ 9 6 a = φ 9 6 nb → φ 9 7 a = φ 9 7 nb → False) : IBk φ (nb + 1) nc wk op := by
  refine ⟨fun b hb => ?_, fun a b ha hb p1 p2 p3 p4 => ?_⟩
  · by_cases hbn : b = nb
    · subst hbn
      obtain ⟨q1, ⟨q2, q3, q4, q5, q6, q7⟩, w, q8, q9⟩ := hq
      exact ⟨q1, ⟨q2, q3, q4, q5, q6, q7, Or.inl h0⟩, ⟨w, q8, q9, fun z => absurd (z.symm.trans h0) (by decide)⟩, fun z => absurd (z.symm.trans h0) (by decide)⟩
    · exact h.1 b (by omega)
  · by_cases han : a = nb
    · by_cases hbn : b = nb
      · omega
      · subst han; exact absurd (hu b (by omega) p2 p3.symm p4.symm) (fun z => z)
    · by_cases hbn : b = nb
      · subst hbn; exact absurd (hu a (by omega) p1 p3 p4) (fun z => z)
      · exact h.2 a b (by omega) (by omega) p1 p2 p3 p4
theorem nhJ {φ : VI} {wk b : Nat} {op : Bool} (h0 : φ 9 16 b = 0) : ¬ hJ φ wk op b := fun z => absurd (z.1.symm.trans h0) (by decide)
theorem IJo.nb1 {φ : VI} {nb nt wk : Nat} {op : Bool} (h : IJo φ nb nt wk op) (h0 : φ 9 16 nb = 0) : IJo φ (nb + 1) nt wk op := by
  refine ⟨fun b hb hj j ha => ?_, fun j hj => ?_⟩
  · by_cases hbn : b = nb
    · subst hbn; exact absurd hj (nhJ h0)
    · exact h.1 b (by omega) hj j ha
  · rcases h.2 j hj with ⟨b, hb, q⟩ | q
    · exact Or.inl ⟨b, by omega, q⟩
    · exact Or.inr q
theorem IJo.ntm {φ : VI} {nb nt nt' wk : Nat} {op : Bool} (h : IJo φ nb nt wk op) (hn : nt ≤ nt') : IJo φ nb nt' wk op := by
  refine ⟨fun b hb hj j ha => ?_, h.2⟩
  obtain ⟨q1, q2, r1, r2, r3, r4, r5, r6, r7, r8⟩ := h.1 b hb hj j ha
  refine ⟨q1, q2, r1, r2, r3, r4, r5, r6, ?_, r8⟩
  rcases r7 with z | ⟨t, z1, z2⟩
  · exact Or.inl z
  · exact Or.inr ⟨t, by omega, z2⟩
theorem IJr.nb1 {M : Mem} {ad : Nat → Nat → Nat} {φ : VI} {nb nc wk : Nat} {op : Bool} (h : IJr M ad φ nb nc wk op) (h0 : φ 9 16 nb = 0) (hr : mR M (ad 2 nb) 12 = none) : IJr M ad φ (nb + 1) nc wk op := by
  refine ⟨fun b hb => ?_, fun w c hw hc => ?_, fun ho c hc => ?_⟩
  · by_cases hbn : b = nb
    · subst hbn; exact ⟨fun z => absurd z (nhJ h0), fun _ => hr⟩
    · exact h.1 b (by omega)
  · rcases h.2.1 w c hw hc with ⟨b, hb, q⟩ | ⟨q1, q2⟩
    · exact Or.inl ⟨b, by omega, q⟩
    · refine Or.inr ⟨q1, fun b hb p1 p2 p3 => ?_⟩
      by_cases hbn : b = nb
      · subst hbn; exact absurd (p1.symm.trans h0) (by decide)
      · exact q2 b (by omega) p1 p2 p3
  · rcases h.2.2 ho c hc with ⟨b, hb, q⟩ | q
    · exact Or.inl ⟨b, by omega, q⟩
    · exact Or.inr q
theorem IBo.nb1 {φ : VI} {ne nk nb nc : Nat} (h : IBo φ ne nk nb nc) (h0 : φ 9 16 nb = 0) : IBo φ ne nk (nb + 1) nc := by
  refine ⟨⟨h.1.1, h.1.2.1, h.1.2.2.1, h.1.2.2.2.1, h.1.2.2.2.2.1, by have := h.1.2.2.2.2.2; omega⟩, h.2.1, fun i hi => ?_, fun b hb hg => ?_⟩
  · obtain ⟨h1, h2, h3⟩ := h.2.2.1 i hi
    refine ⟨h1, h2, ?_⟩
    rcases h3 with ⟨b, hb, q⟩ | q
    · exact Or.inl ⟨b, by omega, q⟩
    · exact Or.inr q
  · by_cases hbn : b = nb
    · subst hbn; exact absurd (hg.symm.trans h0) (by decide)
    · exact h.2.2.2 b (by omega) hg
theorem ILn.nb1 {M : Mem} {ad : Nat → Nat → Nat} {φ : VI} {nl nb wk : Nat} {op : Bool} (h : ILn M ad φ nl nb wk op) : ILn M ad φ nl (nb + 1) wk op := by
  refine ⟨h.1, fun i hi => ?_⟩
  obtain ⟨h1, h2, b, hb, q⟩ := h.2 i hi
  exact ⟨h1, h2, b, by omega, q⟩
theorem ILo.nb1 {φ : VI} {nb wk : Nat} (h : ILo φ nb wk) (h0 : φ 9 16 nb = 0) : ILo φ (nb + 1) wk := by
  unfold ILo at *
  rw [ctB, h0, h]
  rfl
theorem ICd.nb1 {φ : VI} {ψ : VJ} {kd nb nc : Nat} (h : ICd φ ψ kd nb nc) (h0 : φ 9 16 nb = 0) (h10 : φ 2 nb 10 = -1) : ICd φ ψ kd (nb + 1) nc := by
  obtain ⟨h1, h2, h3, h4, h5, h6⟩ := h
  refine ⟨h1, h2, ?_, fun b hb hg => ?_, fun b hb hg => ?_, h6⟩
  · rw [ctB, h0]; exact h3
  · by_cases hbn : b = nb
    · subst hbn; exact absurd (hg.symm.trans h0) (by decide)
    · exact h4 b (by omega) hg
  · by_cases hbn : b = nb
    · subst hbn; exact h10
    · exact h5 b (by omega) hg
theorem IPl.nb1 {M : Mem} {ad : Nat → Nat → Nat} {φ : VI} {ψ : VJ} {nb nt nc wk nw : Nat} {op : Bool} (h : IPl M ad φ ψ nb nt nc wk nw op) : IPl M ad φ ψ (nb + 1) nt nc wk nw op := by
  rcases h with h | ⟨h1, h2⟩
  · exact Or.inl h
  · refine Or.inr ⟨h1, fun ho => ?_⟩
    obtain ⟨g1, g2, g3⟩ := h2 ho
    refine ⟨g1, fun k c hk => ?_, g3⟩
    obtain ⟨b, hb, q⟩ := g2 k c hk
    exact ⟨b, by omega, q⟩
theorem IPl.sh {M : Mem} {ad : Nat → Nat → Nat} {φ : VI} {ψ : VJ} {nb nt nc wk nw nb' nt' nc' : Nat} (h : IPl M ad φ ψ nb nt nc wk nw false) : IPl M ad φ ψ nb' nt' nc' wk nw false := by
  rcases h with h | ⟨h1, h2⟩
  · exact Or.inl h
  · exact Or.inr ⟨h1, fun ho => by cases ho⟩
theorem IXt.nb1 {φ : VI} {nb nx ne nk kd wk : Nat} (h : IXt φ nb nx ne nk kd wk) (h0 : φ 9 16 nb = 0) : IXt φ (nb + 1) nx ne nk kd wk := by
  obtain ⟨h1, h2, h3, h4, h5⟩ := h
  refine ⟨h1, fun b hb hb2 => h2 b (by omega) hb2, h3, h4, fun a b ha hb p1 p2 p3 => ?_⟩
  by_cases han : a = nb
  · subst han; exact absurd (p1.symm.trans h0) (by decide)
  · by_cases hbn : b = nb
    · subst hbn; exact absurd (p2.symm.trans h0) (by decide)
    · exact h5 a b (by omega) (by omega) p1 p2 p3
theorem IJr.sh {M : Mem} {ad : Nat → Nat → Nat} {φ : VI} {nb nc nc' wk : Nat} (h : IJr M ad φ nb nc wk false) : IJr M ad φ nb nc' wk false := ⟨h.1, h.2.1, fun ho => by cases ho⟩
theorem IDy.sh {φ : VI} {nt nc nt' nc' wk nw : Nat} : IDy φ nt nc wk nw false := fun ho => by cases ho
theorem ITm.nt1 {φ φ' : VI} {nt nc : Nat} (h : ITm φ nt nc) (hn : nt < 3) (e : ∀ t i k, (t = 3 ∧ i < nt ∧ k < 11) ∨ (t = 4 ∧ i < nt ∧ k < 4) ∨ (t = 5 ∧ i < nt ∧ k < 7) ∨ (t = 9 ∧ i = 28 ∧ k < nt) ∨ (t = 9 ∧ ((44 ≤ i ∧ i ≤ 51) ∨ i = 97)) ∨ (t = 10 ∧ i = 0 ∧ k = 98) → φ' t i k = φ t i k) (hk : ∃ k, k ≤ 60 ∧ φ 10 0 98 = nI k)
    (h0 : φ' 3 nt 0 = nI nt ∧ φ' 3 nt 1 = φ' 9 28 nt ∧ rg 12 30 (φ' 9 28 nt)) (h1 : ∀ k, 4 ≤ k → k < 11 → φ' 3 nt k = 0) (h4 : ∀ k, k < 4 → φ' 4 nt k = 0) : ITm φ' (nt + 1) nc := by
  refine ⟨fun t ht => ?_, fun t q1 q2 => ?_⟩
  · by_cases htn : t = nt
    · subst htn
      obtain ⟨⟨g1, g2, g3, g4, g5, g6, g7⟩, g8⟩ := h.2 t (Nat.le_refl _) hn
      rw [h1 4 (by omega) (by omega), h1 5 (by omega) (by omega), h1 6 (by omega) (by omega), h1 7 (by omega) (by omega), h1 8 (by omega) (by omega), h1 9 (by omega) (by omega), h1 10 (by omega) (by omega), e 9 44 t (by omega), e 9 45 t (by omega), e 9 46 t (by omega), e 9 47 t (by omega), e 9 48 t (by omega), e 9 49 t (by omega), e 9 51 t (by omega), g1, g2, g3, g4, g5, g6, g7]
      refine ⟨⟨h0.1, h0.2.1, rfl, rfl, rfl, rfl, rfl, rfl, rfl⟩, h0.2.2, fun k q => ?_, 0, by omega, rfl, fun i q => absurd q (by omega)⟩
      obtain ⟨n, n1, n2⟩ := hk
      rw [h4 k q, e 9 97 _ (by omega), g8 k q, e 10 0 98 (by omega)]
      exact ⟨rfl, 0, n, by omega, n1, rfl, n2⟩
    · have ht2 : t < nt := by omega
      obtain ⟨g1, g2, g3, n, g4, g5, g6⟩ := h.1 t ht2
      rw [e 3 t 0 (by omega), e 3 t 1 (by omega), e 3 t 4 (by omega), e 3 t 5 (by omega), e 3 t 6 (by omega), e 3 t 7 (by omega), e 3 t 8 (by omega), e 3 t 9 (by omega), e 3 t 10 (by omega), e 9 28 t (by omega), e 9 44 t (by omega), e 9 45 t (by omega), e 9 46 t (by omega), e 9 47 t (by omega), e 9 48 t (by omega), e 9 49 t (by omega), e 9 51 t (by omega)]
      refine ⟨g1, g2, fun k hk => ?_, n, g4, g5, fun i hi => ?_⟩
      · rw [e 4 t k (by omega), e 9 97 _ (by omega), e 10 0 98 (by omega)]
        exact g3 k hk
      · rw [e 5 t i (by omega), e 9 50 _ (by omega)]
        exact g6 i hi
  · obtain ⟨g1, g2⟩ := h.2 t (by omega) q2
    rw [e 9 44 t (by omega), e 9 45 t (by omega), e 9 46 t (by omega), e 9 47 t (by omega), e 9 48 t (by omega), e 9 49 t (by omega), e 9 51 t (by omega)]
    refine ⟨g1, fun k hk => ?_⟩
    rw [e 9 97 _ (by omega)]
    exact g2 k hk
