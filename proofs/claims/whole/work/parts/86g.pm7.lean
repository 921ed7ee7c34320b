/-! the class's planner: share -/
def TBm (ad : Nat → Nat → Nat) (C Q : Nat → Nat → Nat) (f : Nat → Nat → Int32) (g : Nat → Nat → Int64) : Prop := ∀ t m, t < 3 → m < 128 → g (ad 0 19) (128 * t + m) = lN (C t m) ∧ f (ad 0 20) (128 * t + m) = nI (Q t m) ∧ C t m ≤ 2 ^ 60
def brF (ad : Nat → Nat → Nat) (f : Nat → Nat → Int32) (y : Int32 × Int32 × Int32) : Nat → Nat → Int32 := up2 (up2 (up2 f (ad 0 30) 0 y.1) (ad 0 30) 1 y.2.1) (ad 0 30) 2 y.2.2
theorem brF_brF {ad : Nat → Nat → Nat} {f : Nat → Nat → Int32} {y z : Int32 × Int32 × Int32} : brF ad (brF ad f y) z = brF ad f z := by
  funext a k
  unfold brF up2
  by_cases h : a = ad 0 30
  · by_cases h2 : k = 2
    · simp [h, h2]
    · by_cases h1 : k = 1
      · simp [h, h1]
      · by_cases h0 : k = 0
        · simp [h, h0]
        · simp [h, h0, h1, h2]
  · simp [h]
theorem brF_self {ad : Nat → Nat → Nat} {f : Nat → Nat → Int32} : brF ad f (f (ad 0 30) 0, f (ad 0 30) 1, f (ad 0 30) 2) = f := by
  unfold brF
  rw [up2_self rfl, up2_self rfl, up2_self rfl]
theorem brF_n {ad : Nat → Nat → Nat} {f : Nat → Nat → Int32} {y : Int32 × Int32 × Int32} {t i k : Nat} (hi : Inj ad) (h : ¬ (t = 0 ∧ i = 30)) : brF ad f y (ad t i) k = f (ad t i) k := by
  unfold brF
  rw [up2_n _ _ (fun z => h (hi _ _ _ _ z.1)), up2_n _ _ (fun z => h (hi _ _ _ _ z.1)), up2_n _ _ (fun z => h (hi _ _ _ _ z.1))]
theorem brF_0 {ad : Nat → Nat → Nat} {f : Nat → Nat → Int32} {y : Int32 × Int32 × Int32} : brF ad f y (ad 0 30) 0 = y.1 ∧ brF ad f y (ad 0 30) 1 = y.2.1 ∧ brF ad f y (ad 0 30) 2 = y.2.2 := by
  unfold brF up2
  simp
def Wk (W0 : Nat × Nat × Nat → Prop) (F r s : Nat) (σ : Nat × Nat × Nat) : Prop := W0 σ ∨ ∃ s', s' &&& r = s' ∧ s < s' ∧ σ = (F, s', dfN r s')
def Wa (W0 : Nat × Nat × Nat → Prop) (F r : Nat) (σ : Nat × Nat × Nat) : Prop := W0 σ ∨ ∃ s', s' &&& r = s' ∧ σ = (F, s', dfN r s')
theorem Wk_s {W0 : Nat × Nat × Nat → Prop} {F r s : Nat} (hr : r < 2 ^ 7) (hs : s &&& r = s) (h0 : ¬ s = 0) (σ : Nat × Nat × Nat) : Wk W0 F r ((s - 1) &&& r) σ ↔ Wk W0 F r s σ ∨ σ = (F, s, dfN r s) := by
  constructor
  · rintro (y | ⟨s', h1, h2, h3⟩)
    · exact Or.inl (Or.inl y)
    · by_cases e : s' = s
      · rw [e] at h3; exact Or.inr h3
      · refine Or.inl (Or.inr ⟨s', h1, ?_, h3⟩)
        rcases Nat.lt_or_ge s' s with z | z
        · have := sub_next 7 hr hs h1 z; omega
        · omega
  · rintro ((y | ⟨s', h1, h2, h3⟩) | rfl)
    · exact Or.inl y
    · exact Or.inr ⟨s', h1, by have := and_le (s - 1) r; omega, h3⟩
    · exact Or.inr ⟨s, hs, by have := and_le (s - 1) r; omega, rfl⟩
theorem Wk_0 {W0 : Nat × Nat × Nat → Prop} {F r : Nat} (σ : Nat × Nat × Nat) : Wa W0 F r σ ↔ Wk W0 F r 0 σ ∨ σ = (F, 0, dfN r 0) := by
  constructor
  · rintro (y | ⟨s', h1, h3⟩)
    · exact Or.inl (Or.inl y)
    · by_cases e : s' = 0
      · rw [e] at h3; exact Or.inr h3
      · exact Or.inl (Or.inr ⟨s', h1, by omega, h3⟩)
  · rintro ((y | ⟨s', h1, h2, h3⟩) | rfl)
    · exact Or.inl y
    · exact Or.inr ⟨s', h1, h3⟩
    · exact Or.inr ⟨0, Nat.zero_and r, rfl⟩
theorem Wk_r {W0 : Nat × Nat × Nat → Prop} {F r : Nat} (σ : Nat × Nat × Nat) : Wk W0 F r r σ ↔ W0 σ := by
  constructor
  · rintro (y | ⟨s', h1, h2, h3⟩)
    · exact y
    · have := Nat.and_le_right (n := s') (m := r)
      omega
  · exact Or.inl

set_option maxHeartbeats 4000000 in
set_option maxRecDepth 100000 in
theorem s_Pl_isLikelier {d : Nat} {M : Mem} {f : Nat → Nat → Int32} {g : Nat → Nat → Int64} {ad : Nat → Nat → Nat} {R : Option Value → Mem → Prop} {Q : Nat → Nat → Nat} {F s h : Nat} {y : Int32 × Int32 × Int32} (hd : 0 ≤ d) (hF : Fx M ad) (f1 : F < 128) (f2 : s < 128) (f3 : h < 128) (r0 : f (ad 0 20) F = nI (Q 0 F)) (r1 : f (ad 0 20) (128 + s) = nI (Q 1 s)) (r2 : f (ad 0 20) (256 + h) = nI (Q 2 h)) (hy : f (ad 0 30) 0 = y.1 ∧ f (ad 0 30) 1 = y.2.1 ∧ f (ad 0 30) 2 = y.2.2) (h1 : lt3 (n3 (q3 Q (F, s, h))) y → R (some (.int 1)) (mm M f g)) (h0 : ¬ lt3 (n3 (q3 Q (F, s, h))) y → R (some (.int 0)) (mm M f g)) : Call d 66 [.ref (ad 0 7), .int (nI F), .int (nI s), .int (nI h)] (mm M f g) R := by
  obtain ⟨y0, y1, y2⟩ := y
  obtain ⟨hy0, hy1, hy2⟩ := hy
  simp only at hy0 hy1 hy2
  simp only [lt3, n3, q3] at h1 h0
  show Go d 66 0 0 0 [.ref (ad 0 7), .int (nI F), .int (nI s), .int (nI h)] [] (mm M f g) R
  refine go_blk 8 [some (.ref (ad 0 20)), some (.int (nI (Q 0 F))), some (.ref (ad 0 30)), some (.int y0)] (pc' := 12) (vs' := [.ref (ad 0 7), .int (nI F), .int (nI s), .int (nI h)]) (st' := [.int y0, .int (nI (Q 0 F))]) (M' := mm M f g) (ps := [ob (mm M f g) (ad 0 7) 6, mR (mm M f g) (ad 0 7) 6 = some (ad 0 20), va_rf (some (ad 0 20)) = .ref (ad 0 20), ob (mm M f g) (ad 0 20) 15, vp_in (nI F) (mN (mm M f g) (ad 0 20)), (Value.int (f (ad 0 20) ((nI F).toNatClampNeg))) = .int (nI (Q 0 F)), ob (mm M f g) (ad 0 7) 6, mR (mm M f g) (ad 0 7) 18 = some (ad 0 30), va_rf (some (ad 0 30)) = .ref (ad 0 30), ob (mm M f g) (ad 0 30) 15, vp_in 0 (mN (mm M f g) (ad 0 30)), (Value.int (f (ad 0 30) ((0 : Int32).toNatClampNeg))) = .int y0]) rfl ⟨(hF.o 7), (hF.r 7 6 20), rfl, (hF.o 20), (vpi (hF.n 20) (show _ < 384 by omega)), congrArg Value.int ((congrArg (fun z => f (ad 0 20) z) (nI_clamp (by omega))).trans r0), (hF.o 7), (hF.r 7 18 30), rfl, (hF.o 30), (vp_eq (show (0 : Int32) = nI 0 from rfl) (vpi (hF.n 30) (show _ < 3 by omega))), congrArg Value.int ((congrArg (fun z => f (ad 0 30) z) (cl_of (show (0 : Int32) = nI 0 from rfl) (by omega))).trans hy0), trivial⟩ ?_
  refine go_icmp rfl (fun (c21 : (nI (Q 0 F)) = y0) => ?_) (fun (c21 : ¬ ((nI (Q 0 F)) = y0)) => ?_)
  · -- (nI (Q 0 F)) = y0
    refine go_blk 10 [some (.ref (ad 0 20)), some (.int (nI (Q 1 s))), some (.ref (ad 0 30)), some (.int y1)] (pc' := 52) (vs' := [.ref (ad 0 7), .int (nI F), .int (nI s), .int (nI h)]) (st' := [.int y1, .int (nI (Q 1 s))]) (M' := mm M f g) (ps := [ob (mm M f g) (ad 0 7) 6, mR (mm M f g) (ad 0 7) 6 = some (ad 0 20), va_rf (some (ad 0 20)) = .ref (ad 0 20), ob (mm M f g) (ad 0 20) 15, vp_in (128 + (nI s)) (mN (mm M f g) (ad 0 20)), (Value.int (f (ad 0 20) ((128 + (nI s)).toNatClampNeg))) = .int (nI (Q 1 s)), ob (mm M f g) (ad 0 7) 6, mR (mm M f g) (ad 0 7) 18 = some (ad 0 30), va_rf (some (ad 0 30)) = .ref (ad 0 30), ob (mm M f g) (ad 0 30) 15, vp_in 1 (mN (mm M f g) (ad 0 30)), (Value.int (f (ad 0 30) ((1 : Int32).toNatClampNeg))) = .int y1]) rfl ⟨(hF.o 7), (hF.r 7 6 20), rfl, (hF.o 20), (vp_eq (eq_add (show (128 : Int32) = nI 128 from rfl) rfl) (vpi (hF.n 20) (show _ < 384 by omega))), congrArg Value.int ((congrArg (fun z => f (ad 0 20) z) (cl_of (eq_add (show (128 : Int32) = nI 128 from rfl) rfl) (by omega))).trans r1), (hF.o 7), (hF.r 7 18 30), rfl, (hF.o 30), (vp_eq (show (1 : Int32) = nI 1 from rfl) (vpi (hF.n 30) (show _ < 3 by omega))), congrArg Value.int ((congrArg (fun z => f (ad 0 30) z) (cl_of (show (1 : Int32) = nI 1 from rfl) (by omega))).trans hy1), trivial⟩ ?_
    refine go_icmp rfl (fun (c22 : (nI (Q 1 s)) = y1) => ?_) (fun (c22 : ¬ ((nI (Q 1 s)) = y1)) => ?_)
    · -- (nI (Q 1 s)) = y1
      refine go_blk 10 [some (.ref (ad 0 20)), some (.int (nI (Q 2 h))), some (.ref (ad 0 30)), some (.int y2)] (pc' := 96) (vs' := [.ref (ad 0 7), .int (nI F), .int (nI s), .int (nI h)]) (st' := [.int y2, .int (nI (Q 2 h))]) (M' := mm M f g) (ps := [ob (mm M f g) (ad 0 7) 6, mR (mm M f g) (ad 0 7) 6 = some (ad 0 20), va_rf (some (ad 0 20)) = .ref (ad 0 20), ob (mm M f g) (ad 0 20) 15, vp_in (256 + (nI h)) (mN (mm M f g) (ad 0 20)), (Value.int (f (ad 0 20) ((256 + (nI h)).toNatClampNeg))) = .int (nI (Q 2 h)), ob (mm M f g) (ad 0 7) 6, mR (mm M f g) (ad 0 7) 18 = some (ad 0 30), va_rf (some (ad 0 30)) = .ref (ad 0 30), ob (mm M f g) (ad 0 30) 15, vp_in 2 (mN (mm M f g) (ad 0 30)), (Value.int (f (ad 0 30) ((2 : Int32).toNatClampNeg))) = .int y2]) rfl ⟨(hF.o 7), (hF.r 7 6 20), rfl, (hF.o 20), (vp_eq (eq_add (show (256 : Int32) = nI 256 from rfl) rfl) (vpi (hF.n 20) (show _ < 384 by omega))), congrArg Value.int ((congrArg (fun z => f (ad 0 20) z) (cl_of (eq_add (show (256 : Int32) = nI 256 from rfl) rfl) (by omega))).trans r2), (hF.o 7), (hF.r 7 18 30), rfl, (hF.o 30), (vp_eq (show (2 : Int32) = nI 2 from rfl) (vpi (hF.n 30) (show _ < 3 by omega))), congrArg Value.int ((congrArg (fun z => f (ad 0 30) z) (cl_of (show (2 : Int32) = nI 2 from rfl) (by omega))).trans hy2), trivial⟩ ?_
      refine go_icmp rfl (fun (c23 : y2 ≤ (nI (Q 2 h))) => ?_) (fun (c23 : ¬ (y2 ≤ (nI (Q 2 h)))) => ?_)
      · -- y2 ≤ (nI (Q 2 h))
        refine go_blk 1 [] (pc' := 104) (vs' := [.ref (ad 0 7), .int (nI F), .int (nI s), .int (nI h)]) (st' := [.int 0]) (M' := mm M f g) (ps := []) rfl trivial ?_
        refine go_zret rfl rfl (Or.inl rfl) ?_
        refine h0 ?_
        clear h0 h1
        rw [i32_lt, i32_lt, i32_lt, ← Int32.toInt_inj, ← Int32.toInt_inj]
        try rw [i32_le] at c21
        try rw [← Int32.toInt_inj] at c21
        try rw [i32_le] at c22
        try rw [← Int32.toInt_inj] at c22
        try rw [i32_le] at c23
        try rw [← Int32.toInt_inj] at c23
        omega
      · -- ¬ (y2 ≤ (nI (Q 2 h)))
        refine go_blk 2 [] (pc' := 104) (vs' := [.ref (ad 0 7), .int (nI F), .int (nI s), .int (nI h)]) (st' := [.int 1]) (M' := mm M f g) (ps := []) rfl trivial ?_
        refine go_zret rfl rfl (Or.inr rfl) ?_
        refine h1 ?_
        clear h0 h1
        rw [i32_lt, i32_lt, i32_lt, ← Int32.toInt_inj, ← Int32.toInt_inj]
        try rw [i32_le] at c21
        try rw [← Int32.toInt_inj] at c21
        try rw [i32_le] at c22
        try rw [← Int32.toInt_inj] at c22
        try rw [i32_le] at c23
        try rw [← Int32.toInt_inj] at c23
        omega
    · -- ¬ ((nI (Q 1 s)) = y1)
      refine go_blk 10 [some (.ref (ad 0 20)), some (.int (nI (Q 1 s))), some (.ref (ad 0 30)), some (.int y1)] (pc' := 71) (vs' := [.ref (ad 0 7), .int (nI F), .int (nI s), .int (nI h)]) (st' := [.int y1, .int (nI (Q 1 s))]) (M' := mm M f g) (ps := [ob (mm M f g) (ad 0 7) 6, mR (mm M f g) (ad 0 7) 6 = some (ad 0 20), va_rf (some (ad 0 20)) = .ref (ad 0 20), ob (mm M f g) (ad 0 20) 15, vp_in (128 + (nI s)) (mN (mm M f g) (ad 0 20)), (Value.int (f (ad 0 20) ((128 + (nI s)).toNatClampNeg))) = .int (nI (Q 1 s)), ob (mm M f g) (ad 0 7) 6, mR (mm M f g) (ad 0 7) 18 = some (ad 0 30), va_rf (some (ad 0 30)) = .ref (ad 0 30), ob (mm M f g) (ad 0 30) 15, vp_in 1 (mN (mm M f g) (ad 0 30)), (Value.int (f (ad 0 30) ((1 : Int32).toNatClampNeg))) = .int y1]) rfl ⟨(hF.o 7), (hF.r 7 6 20), rfl, (hF.o 20), (vp_eq (eq_add (show (128 : Int32) = nI 128 from rfl) rfl) (vpi (hF.n 20) (show _ < 384 by omega))), congrArg Value.int ((congrArg (fun z => f (ad 0 20) z) (cl_of (eq_add (show (128 : Int32) = nI 128 from rfl) rfl) (by omega))).trans r1), (hF.o 7), (hF.r 7 18 30), rfl, (hF.o 30), (vp_eq (show (1 : Int32) = nI 1 from rfl) (vpi (hF.n 30) (show _ < 3 by omega))), congrArg Value.int ((congrArg (fun z => f (ad 0 30) z) (cl_of (show (1 : Int32) = nI 1 from rfl) (by omega))).trans hy1), trivial⟩ ?_
      refine go_icmp rfl (fun (c24 : y1 ≤ (nI (Q 1 s))) => ?_) (fun (c24 : ¬ (y1 ≤ (nI (Q 1 s)))) => ?_)
      · -- y1 ≤ (nI (Q 1 s))
        refine go_blk 1 [] (pc' := 79) (vs' := [.ref (ad 0 7), .int (nI F), .int (nI s), .int (nI h)]) (st' := [.int 0]) (M' := mm M f g) (ps := []) rfl trivial ?_
        refine go_zret rfl rfl (Or.inl rfl) ?_
        refine h0 ?_
        clear h0 h1
        rw [i32_lt, i32_lt, i32_lt, ← Int32.toInt_inj, ← Int32.toInt_inj]
        try rw [i32_le] at c21
        try rw [← Int32.toInt_inj] at c21
        try rw [i32_le] at c22
        try rw [← Int32.toInt_inj] at c22
        try rw [i32_le] at c22
        try rw [← Int32.toInt_inj] at c22
        try rw [i32_le] at c24
        try rw [← Int32.toInt_inj] at c24
        omega
      · -- ¬ (y1 ≤ (nI (Q 1 s)))
        refine go_blk 2 [] (pc' := 79) (vs' := [.ref (ad 0 7), .int (nI F), .int (nI s), .int (nI h)]) (st' := [.int 1]) (M' := mm M f g) (ps := []) rfl trivial ?_
        refine go_zret rfl rfl (Or.inr rfl) ?_
        refine h1 ?_
        clear h0 h1
        rw [i32_lt, i32_lt, i32_lt, ← Int32.toInt_inj, ← Int32.toInt_inj]
        try rw [i32_le] at c21
        try rw [← Int32.toInt_inj] at c21
        try rw [i32_le] at c22
        try rw [← Int32.toInt_inj] at c22
        try rw [i32_le] at c22
        try rw [← Int32.toInt_inj] at c22
        try rw [i32_le] at c24
        try rw [← Int32.toInt_inj] at c24
        omega
  · -- ¬ ((nI (Q 0 F)) = y0)
    refine go_blk 8 [some (.ref (ad 0 20)), some (.int (nI (Q 0 F))), some (.ref (ad 0 30)), some (.int y0)] (pc' := 27) (vs' := [.ref (ad 0 7), .int (nI F), .int (nI s), .int (nI h)]) (st' := [.int y0, .int (nI (Q 0 F))]) (M' := mm M f g) (ps := [ob (mm M f g) (ad 0 7) 6, mR (mm M f g) (ad 0 7) 6 = some (ad 0 20), va_rf (some (ad 0 20)) = .ref (ad 0 20), ob (mm M f g) (ad 0 20) 15, vp_in (nI F) (mN (mm M f g) (ad 0 20)), (Value.int (f (ad 0 20) ((nI F).toNatClampNeg))) = .int (nI (Q 0 F)), ob (mm M f g) (ad 0 7) 6, mR (mm M f g) (ad 0 7) 18 = some (ad 0 30), va_rf (some (ad 0 30)) = .ref (ad 0 30), ob (mm M f g) (ad 0 30) 15, vp_in 0 (mN (mm M f g) (ad 0 30)), (Value.int (f (ad 0 30) ((0 : Int32).toNatClampNeg))) = .int y0]) rfl ⟨(hF.o 7), (hF.r 7 6 20), rfl, (hF.o 20), (vpi (hF.n 20) (show _ < 384 by omega)), congrArg Value.int ((congrArg (fun z => f (ad 0 20) z) (nI_clamp (by omega))).trans r0), (hF.o 7), (hF.r 7 18 30), rfl, (hF.o 30), (vp_eq (show (0 : Int32) = nI 0 from rfl) (vpi (hF.n 30) (show _ < 3 by omega))), congrArg Value.int ((congrArg (fun z => f (ad 0 30) z) (cl_of (show (0 : Int32) = nI 0 from rfl) (by omega))).trans hy0), trivial⟩ ?_
    refine go_icmp rfl (fun (c25 : y0 ≤ (nI (Q 0 F))) => ?_) (fun (c25 : ¬ (y0 ≤ (nI (Q 0 F)))) => ?_)
    · -- y0 ≤ (nI (Q 0 F))
      refine go_blk 1 [] (pc' := 35) (vs' := [.ref (ad 0 7), .int (nI F), .int (nI s), .int (nI h)]) (st' := [.int 0]) (M' := mm M f g) (ps := []) rfl trivial ?_
      refine go_zret rfl rfl (Or.inl rfl) ?_
      refine h0 ?_
      clear h0 h1
      rw [i32_lt, i32_lt, i32_lt, ← Int32.toInt_inj, ← Int32.toInt_inj]
      try rw [i32_le] at c21
      try rw [← Int32.toInt_inj] at c21
      try rw [i32_le] at c21
      try rw [← Int32.toInt_inj] at c21
      try rw [i32_le] at c25
      try rw [← Int32.toInt_inj] at c25
      omega
    · -- ¬ (y0 ≤ (nI (Q 0 F)))
      refine go_blk 2 [] (pc' := 35) (vs' := [.ref (ad 0 7), .int (nI F), .int (nI s), .int (nI h)]) (st' := [.int 1]) (M' := mm M f g) (ps := []) rfl trivial ?_
      refine go_zret rfl rfl (Or.inr rfl) ?_
      refine h1 ?_
      clear h0 h1
      rw [i32_lt, i32_lt, i32_lt, ← Int32.toInt_inj, ← Int32.toInt_inj]
      try rw [i32_le] at c21
      try rw [← Int32.toInt_inj] at c21
      try rw [i32_le] at c21
      try rw [← Int32.toInt_inj] at c21
      try rw [i32_le] at c25
      try rw [← Int32.toInt_inj] at c25
      omega

set_option maxHeartbeats 4000000 in
set_option maxRecDepth 100000 in
theorem s_Pl_shareOthers {d : Nat} {M : Mem} {f : Nat → Nat → Int32} {g : Nat → Nat → Int64} {ad : Nat → Nat → Nat} {R : Option Value → Mem → Prop} {C Q : Nat → Nat → Nat} {ceil F r A B : Nat} {y : Int32 × Int32 × Int32} {W0 : Nat × Nat × Nat → Prop} (hd : 1 ≤ d) (hi : Inj ad) (hF : Fx M ad) (hce : ceil < 2 ^ 59) (tb : TBm ad C Q f g) (hQ : ∀ σ : Nat × Nat × Nat, c3 C σ ≤ ceil → (q3 Q σ).1 < 2 ^ 31 ∧ (q3 Q σ).2.1 < 2 ^ 31 ∧ (q3 Q σ).2.2 < 2 ^ 31) (hF1 : F < 128) (hr : r < 2 ^ 7) (hA : A < 128) (hrA : r ≤ A) (hS : SV C Q ceil W0 B y) (hR : ∀ B y, SV C Q ceil (Wa W0 F r) B y → R none (mm M (brF ad f y) (up2 g (ad 0 7) 17 (lN B)))) : Call d 65 [.ref (ad 0 7), .int (nI F), .int (nI r), .int (nI A)] (mm M (brF ad f y) (up2 g (ad 0 7) 17 (lN B))) R := by
  have c0 : g (ad 0 19) F = lN (C 0 F) ∧ f (ad 0 20) F = nI (Q 0 F) ∧ C 0 F ≤ 2 ^ 60 := by
    have := tb 0 F (by omega) hF1
    rwa [Nat.mul_zero, Nat.zero_add] at this
  have loop : ∀ s, s &&& r = s → ∀ i, i + s ≤ A → ∀ B y u6 u7 u8, SV C Q ceil (Wk W0 F r s) B y → Go d 65 0 0 6 [.ref (ad 0 7), .int (nI F), .int (nI r), .int (nI A), .int (nI s), .int (nI i), u6, u7, u8] [] (mm M (brF ad f y) (up2 g (ad 0 7) 17 (lN B))) R := by
    intro s
    induction s using Nat.strongRecOn with
    | ind s ih =>
    intro hs i hia B y u6 u7 u8 hV
    have hsr : s ≤ r := by rw [← hs]; exact Nat.and_le_right
    obtain ⟨th, hth⟩ : ∃ th, dfN r s = th := ⟨_, rfl⟩
    have th7 : th < 128 := by rw [← hth]; exact dfN_lt (n := 7) hr
    have c1 := tb 1 s (by omega) (by omega)
    have c2 := tb 2 th (by omega) th7
    rw [Nat.mul_one] at c1
    rw [show 128 * 2 = 256 from rfl] at c2
    have B0 : B ≤ ceil + 1 := hV.1
    obtain ⟨X, hX⟩ : ∃ X, C 0 F + C 1 s + C 2 th = X := ⟨_, rfl⟩
    have hc3 : c3 C (F, s, th) = X := hX
    have X62 : X < 2 ^ 62 := by have := c0.2.2; have := c1.2.2; have := c2.2.2; omega
    have cont : ∀ B y u7, SV C Q ceil (fun σ => Wk W0 F r s σ ∨ σ = (F, s, th)) B y → Go d 65 0 0 141 [.ref (ad 0 7), .int (nI F), .int (nI r), .int (nI A), .int (nI s), .int (nI i), .int (nI th), u7, .retAddr 1] [] (mm M (brF ad f y) (up2 g (ad 0 7) 17 (lN B))) R := by
      intro B y u7 hV2
      by_cases h0 : s = 0
      · subst h0
        have fin : R none (mm M (brF ad f y) (up2 g (ad 0 7) 17 (lN B))) := hR B y (hV2.congr (fun σ => by rw [Wk_0, hth]))
        show Go d 65 0 0 141 [.ref (ad 0 7), .int (nI F), .int (nI r), .int (nI A), .int (nI 0), .int (nI i), .int (nI th), u7, .retAddr 1] [] (mm M (brF ad f y) (up2 g (ad 0 7) 17 (lN B))) R
        refine go_blk 1 [] (pc' := 143) (vs' := [.ref (ad 0 7), .int (nI F), .int (nI r), .int (nI A), .int (nI 0), .int (nI i), .int (nI th), u7, .retAddr 1]) (st' := [.int (nI 0)]) (M' := mm M (brF ad f y) (up2 g (ad 0 7) 17 (lN B))) (ps := []) rfl trivial ?_
        refine go_if rfl (fun (z : ¬ (nI 0) = 0) => absurd z (show ¬ (¬ (nI 0) = 0) from (fun z => z rfl))) (fun _ => ?_)
        refine go_blk 7 [] (pc' := 9) (vs' := [.ref (ad 0 7), .int (nI F), .int (nI r), .int (nI A), .int (-1), .int ((nI i) + 1), .int (nI th), u7, .retAddr 1]) (st' := [.int (nI A), .int ((nI i) + 1)]) (M' := mm M (brF ad f y) (up2 g (ad 0 7) 17 (lN B))) (ps := []) rfl trivial ?_
        refine go_icmp rfl (fun (c21 : nI A < ((nI i) + 1)) => ?_) (fun (c21 : ¬ (nI A < ((nI i) + 1))) => ?_)
        · -- nI A < ((nI i) + 1)
          refine go_vret rfl rfl ?_
          exact fin
        · -- ¬ (nI A < ((nI i) + 1))
          refine go_blk 1 [] (pc' := 14) (vs' := [.ref (ad 0 7), .int (nI F), .int (nI r), .int (nI A), .int (-1), .int ((nI i) + 1), .int (nI th), u7, .retAddr 1]) (st' := [.int (-1)]) (M' := mm M (brF ad f y) (up2 g (ad 0 7) 17 (lN B))) (ps := []) rfl trivial ?_
          refine go_if rfl (fun _ => ?_) (fun (z : ¬ (((-1) : Int32) < 0)) => absurd (show ((-1) : Int32) < 0 from (by decide)) z)
          refine go_vret rfl rfl ?_
          exact fin
      ·
        show Go d 65 0 0 141 [.ref (ad 0 7), .int (nI F), .int (nI r), .int (nI A), .int (nI s), .int (nI i), .int (nI th), u7, .retAddr 1] [] (mm M (brF ad f y) (up2 g (ad 0 7) 17 (lN B))) R
        refine go_blk 1 [] (pc' := 143) (vs' := [.ref (ad 0 7), .int (nI F), .int (nI r), .int (nI A), .int (nI s), .int (nI i), .int (nI th), u7, .retAddr 1]) (st' := [.int (nI s)]) (M' := mm M (brF ad f y) (up2 g (ad 0 7) 17 (lN B))) (ps := []) rfl trivial ?_
        refine go_if rfl (fun _ => ?_) (fun (z : ¬ (¬ (nI s) = 0)) => absurd (show ¬ (nI s) = 0 from (nI_ne0 (n := s) (by omega) (by omega))) z)
        refine go_blk 5 [] (pc' := 156) (vs' := [.ref (ad 0 7), .int (nI F), .int (nI r), .int (nI A), .int (nI s), .int (nI i), .int (nI th), u7, .retAddr 1]) (st' := [.int (((nI s) - 1) &&& (nI r))]) (M' := mm M (brF ad f y) (up2 g (ad 0 7) 17 (lN B))) (ps := []) rfl trivial ?_
        obtain ⟨s1, hs1⟩ : ∃ s1, s = s1 + 1 := ⟨s - 1, by omega⟩
        rw [show nI s - 1 = nI (s - 1) from by rw [hs1, nI_s1]; rfl, nI_and]
        show Go d 65 0 0 156 [.ref (ad 0 7), .int (nI F), .int (nI r), .int (nI A), .int (nI s), .int (nI i), .int (nI th), u7, .retAddr 1] [.int (nI (s - 1 &&& r))] (mm M (brF ad f y) (up2 g (ad 0 7) 17 (lN B))) R
        refine go_blk 3 [] (pc' := 6) (vs' := [.ref (ad 0 7), .int (nI F), .int (nI r), .int (nI A), .int (nI (s - 1 &&& r)), .int ((nI i) + 1), .int (nI th), u7, .retAddr 1]) (st' := []) (M' := mm M (brF ad f y) (up2 g (ad 0 7) 17 (lN B))) (ps := []) rfl trivial ?_
        rw [show nI i + 1 = nI (i + 1) from nI_add i 1]
        have le := and_le (s - 1) r
        exact ih _ (by omega) (and_sub _ _) (i + 1) (by omega) B y _ _ _ (hV2.congr (fun σ => by rw [Wk_s hr hs h0, hth]))
    show Go d 65 0 0 6 [.ref (ad 0 7), .int (nI F), .int (nI r), .int (nI A), .int (nI s), .int (nI i), u6, u7, u8] [] (mm M (brF ad f y) (up2 g (ad 0 7) 17 (lN B))) R
    refine go_blk 2 [] (pc' := 9) (vs' := [.ref (ad 0 7), .int (nI F), .int (nI r), .int (nI A), .int (nI s), .int (nI i), u6, u7, u8]) (st' := [.int (nI A), .int (nI i)]) (M' := mm M (brF ad f y) (up2 g (ad 0 7) 17 (lN B))) (ps := []) rfl trivial ?_
    refine go_icmp rfl (fun (z : nI A < (nI i)) => absurd z (show ¬ (nI A < (nI i)) from (Int32.not_lt.mpr ((nI_les (a := i) (b := A) (by omega) (by omega)).mpr (by omega))))) (fun _ => ?_)
    refine go_blk 1 [] (pc' := 14) (vs' := [.ref (ad 0 7), .int (nI F), .int (nI r), .int (nI A), .int (nI s), .int (nI i), u6, u7, u8]) (st' := [.int (nI s)]) (M' := mm M (brF ad f y) (up2 g (ad 0 7) 17 (lN B))) (ps := []) rfl trivial ?_
    refine go_if rfl (fun (z : (nI s) < 0) => absurd z (show ¬ ((nI s) < 0) from (nI_nlt0 (by omega)))) (fun _ => ?_)
    refine go_blk 5 [] (pc' := 23) (vs' := [.ref (ad 0 7), .int (nI F), .int (nI r), .int (nI A), .int (nI s), .int (nI i), u6, u7, u8]) (st' := [.int ((nI r) &&& ((nI s) ^^^ (-1)))]) (M' := mm M (brF ad f y) (up2 g (ad 0 7) 17 (lN B))) (ps := []) rfl trivial ?_
    rw [nI_df (by omega), hth]
    show Go d 65 0 0 23 [.ref (ad 0 7), .int (nI F), .int (nI r), .int (nI A), .int (nI s), .int (nI i), u6, u7, u8] [.int (nI th)] (mm M (brF ad f y) (up2 g (ad 0 7) 17 (lN B))) R
    refine go_blk 19 [some (.ref (ad 0 19)), some (.long (lN (C 0 F))), some (.ref (ad 0 19)), some (.long (lN (C 1 s))), some (.ref (ad 0 19)), some (.long (lN (C 2 th)))] (pc' := 55) (vs' := [.ref (ad 0 7), .int (nI F), .int (nI r), .int (nI A), .int (nI s), .int (nI i), .int (nI th), u7, u8]) (st' := [.long (((lN (C 0 F)) + (lN (C 1 s))) + (lN (C 2 th)))]) (M' := mm M (brF ad f y) (up2 g (ad 0 7) 17 (lN B))) (ps := [ob (mm M (brF ad f y) (up2 g (ad 0 7) 17 (lN B))) (ad 0 7) 6, mR (mm M (brF ad f y) (up2 g (ad 0 7) 17 (lN B))) (ad 0 7) 5 = some (ad 0 19), va_rf (some (ad 0 19)) = .ref (ad 0 19), ob (mm M (brF ad f y) (up2 g (ad 0 7) 17 (lN B))) (ad 0 19) 16, vp_in (nI F) (mN (mm M (brF ad f y) (up2 g (ad 0 7) 17 (lN B))) (ad 0 19)), (Value.long ((up2 g (ad 0 7) 17 (lN B)) (ad 0 19) ((nI F).toNatClampNeg))) = .long (lN (C 0 F)), ob (mm M (brF ad f y) (up2 g (ad 0 7) 17 (lN B))) (ad 0 7) 6, mR (mm M (brF ad f y) (up2 g (ad 0 7) 17 (lN B))) (ad 0 7) 5 = some (ad 0 19), va_rf (some (ad 0 19)) = .ref (ad 0 19), ob (mm M (brF ad f y) (up2 g (ad 0 7) 17 (lN B))) (ad 0 19) 16, vp_in (128 + (nI s)) (mN (mm M (brF ad f y) (up2 g (ad 0 7) 17 (lN B))) (ad 0 19)), (Value.long ((up2 g (ad 0 7) 17 (lN B)) (ad 0 19) ((128 + (nI s)).toNatClampNeg))) = .long (lN (C 1 s)), ob (mm M (brF ad f y) (up2 g (ad 0 7) 17 (lN B))) (ad 0 7) 6, mR (mm M (brF ad f y) (up2 g (ad 0 7) 17 (lN B))) (ad 0 7) 5 = some (ad 0 19), va_rf (some (ad 0 19)) = .ref (ad 0 19), ob (mm M (brF ad f y) (up2 g (ad 0 7) 17 (lN B))) (ad 0 19) 16, vp_in (256 + (nI th)) (mN (mm M (brF ad f y) (up2 g (ad 0 7) 17 (lN B))) (ad 0 19)), (Value.long ((up2 g (ad 0 7) 17 (lN B)) (ad 0 19) ((256 + (nI th)).toNatClampNeg))) = .long (lN (C 2 th))]) rfl ⟨(hF.o 7), (hF.r 7 5 19), rfl, (hF.o 19), (vpi (hF.n 19) (show _ < 384 by omega)), congrArg Value.long ((congrArg (fun z => (up2 g (ad 0 7) 17 (lN B)) (ad 0 19) z) (nI_clamp (by omega))).trans ((up2_n _ _ (fun z => by have := (hi _ _ _ _ z.1).2; omega)).trans c0.1)), (hF.o 7), (hF.r 7 5 19), rfl, (hF.o 19), (vp_eq (eq_add (show (128 : Int32) = nI 128 from rfl) rfl) (vpi (hF.n 19) (show _ < 384 by omega))), congrArg Value.long ((congrArg (fun z => (up2 g (ad 0 7) 17 (lN B)) (ad 0 19) z) (cl_of (eq_add (show (128 : Int32) = nI 128 from rfl) rfl) (by omega))).trans ((up2_n _ _ (fun z => by have := (hi _ _ _ _ z.1).2; omega)).trans c1.1)), (hF.o 7), (hF.r 7 5 19), rfl, (hF.o 19), (vp_eq (eq_add (show (256 : Int32) = nI 256 from rfl) rfl) (vpi (hF.n 19) (show _ < 384 by omega))), congrArg Value.long ((congrArg (fun z => (up2 g (ad 0 7) 17 (lN B)) (ad 0 19) z) (cl_of (eq_add (show (256 : Int32) = nI 256 from rfl) rfl) (by omega))).trans ((up2_n _ _ (fun z => by have := (hi _ _ _ _ z.1).2; omega)).trans c2.1)), trivial⟩ ?_
    rw [lN_add, lN_add, hX]
    show Go d 65 0 0 55 [.ref (ad 0 7), .int (nI F), .int (nI r), .int (nI A), .int (nI s), .int (nI i), .int (nI th), u7, u8] [.long (lN X)] (mm M (brF ad f y) (up2 g (ad 0 7) 17 (lN B))) R
    refine go_blk 5 [some (.long (lN B))] (pc' := 64) (vs' := [.ref (ad 0 7), .int (nI F), .int (nI r), .int (nI A), .int (nI s), .int (nI i), .int (nI th), .long (lN X), .retAddr 1]) (st' := [.int (lg_cmp (lN X) (lN B))]) (M' := mm M (brF ad f y) (up2 g (ad 0 7) 17 (lN B))) (ps := [ob (mm M (brF ad f y) (up2 g (ad 0 7) 17 (lN B))) (ad 0 7) 6, (Value.long ((up2 g (ad 0 7) 17 (lN B)) (ad 0 7) 17)) = .long (lN B)]) rfl ⟨(hF.o 7), congrArg Value.long (up2_s _ _ _ _), trivial⟩ ?_
    refine go_if rfl (fun (c21 : (lg_cmp (lN X) (lN B)) < 0) => ?_) (fun (c21 : ¬ ((lg_cmp (lN X) (lN B)) < 0)) => ?_)
    · -- (lg_cmp (lN X) (lN B)) < 0
      refine go_blk 31 [some (.ref (ad 0 30)), some (.ref (ad 0 20)), some (.int (nI (Q 0 F))), some (.ref (ad 0 30)), some (.ref (ad 0 20)), some (.int (nI (Q 1 s))), some (.ref (ad 0 30)), some (.ref (ad 0 20)), some (.int (nI (Q 2 th)))] (pc' := 141) (vs' := [.ref (ad 0 7), .int (nI F), .int (nI r), .int (nI A), .int (nI s), .int (nI i), .int (nI th), .long (lN X), .retAddr 1]) (st' := []) (M' := mm M (up2 (up2 (up2 (brF ad f y) (ad 0 30) ((0 : Int32).toNatClampNeg) (nI (Q 0 F))) (ad 0 30) ((1 : Int32).toNatClampNeg) (nI (Q 1 s))) (ad 0 30) ((2 : Int32).toNatClampNeg) (nI (Q 2 th))) (up2 (up2 g (ad 0 7) 17 (lN B)) (ad 0 7) 17 (lN X))) (ps := [ob (mm M (brF ad f y) (up2 g (ad 0 7) 17 (lN B))) (ad 0 7) 6, ob (mm M (brF ad f y) (up2 (up2 g (ad 0 7) 17 (lN B)) (ad 0 7) 17 (lN X))) (ad 0 7) 6, mR (mm M (brF ad f y) (up2 (up2 g (ad 0 7) 17 (lN B)) (ad 0 7) 17 (lN X))) (ad 0 7) 18 = some (ad 0 30), va_rf (some (ad 0 30)) = .ref (ad 0 30), ob (mm M (brF ad f y) (up2 (up2 g (ad 0 7) 17 (lN B)) (ad 0 7) 17 (lN X))) (ad 0 7) 6, mR (mm M (brF ad f y) (up2 (up2 g (ad 0 7) 17 (lN B)) (ad 0 7) 17 (lN X))) (ad 0 7) 6 = some (ad 0 20), va_rf (some (ad 0 20)) = .ref (ad 0 20), ob (mm M (brF ad f y) (up2 (up2 g (ad 0 7) 17 (lN B)) (ad 0 7) 17 (lN X))) (ad 0 20) 15, vp_in (nI F) (mN (mm M (brF ad f y) (up2 (up2 g (ad 0 7) 17 (lN B)) (ad 0 7) 17 (lN X))) (ad 0 20)), (Value.int ((brF ad f y) (ad 0 20) ((nI F).toNatClampNeg))) = .int (nI (Q 0 F)), ob (mm M (brF ad f y) (up2 (up2 g (ad 0 7) 17 (lN B)) (ad 0 7) 17 (lN X))) (ad 0 30) 15, vp_in 0 (mN (mm M (brF ad f y) (up2 (up2 g (ad 0 7) 17 (lN B)) (ad 0 7) 17 (lN X))) (ad 0 30)), ob (mm M (up2 (brF ad f y) (ad 0 30) ((0 : Int32).toNatClampNeg) (nI (Q 0 F))) (up2 (up2 g (ad 0 7) 17 (lN B)) (ad 0 7) 17 (lN X))) (ad 0 7) 6, mR (mm M (up2 (brF ad f y) (ad 0 30) ((0 : Int32).toNatClampNeg) (nI (Q 0 F))) (up2 (up2 g (ad 0 7) 17 (lN B)) (ad 0 7) 17 (lN X))) (ad 0 7) 18 = some (ad 0 30), va_rf (some (ad 0 30)) = .ref (ad 0 30), ob (mm M (up2 (brF ad f y) (ad 0 30) ((0 : Int32).toNatClampNeg) (nI (Q 0 F))) (up2 (up2 g (ad 0 7) 17 (lN B)) (ad 0 7) 17 (lN X))) (ad 0 7) 6, mR (mm M (up2 (brF ad f y) (ad 0 30) ((0 : Int32).toNatClampNeg) (nI (Q 0 F))) (up2 (up2 g (ad 0 7) 17 (lN B)) (ad 0 7) 17 (lN X))) (ad 0 7) 6 = some (ad 0 20), va_rf (some (ad 0 20)) = .ref (ad 0 20), ob (mm M (up2 (brF ad f y) (ad 0 30) ((0 : Int32).toNatClampNeg) (nI (Q 0 F))) (up2 (up2 g (ad 0 7) 17 (lN B)) (ad 0 7) 17 (lN X))) (ad 0 20) 15, vp_in (128 + (nI s)) (mN (mm M (up2 (brF ad f y) (ad 0 30) ((0 : Int32).toNatClampNeg) (nI (Q 0 F))) (up2 (up2 g (ad 0 7) 17 (lN B)) (ad 0 7) 17 (lN X))) (ad 0 20)), (Value.int ((up2 (brF ad f y) (ad 0 30) ((0 : Int32).toNatClampNeg) (nI (Q 0 F))) (ad 0 20) ((128 + (nI s)).toNatClampNeg))) = .int (nI (Q 1 s)), ob (mm M (up2 (brF ad f y) (ad 0 30) ((0 : Int32).toNatClampNeg) (nI (Q 0 F))) (up2 (up2 g (ad 0 7) 17 (lN B)) (ad 0 7) 17 (lN X))) (ad 0 30) 15, vp_in 1 (mN (mm M (up2 (brF ad f y) (ad 0 30) ((0 : Int32).toNatClampNeg) (nI (Q 0 F))) (up2 (up2 g (ad 0 7) 17 (lN B)) (ad 0 7) 17 (lN X))) (ad 0 30)), ob (mm M (up2 (up2 (brF ad f y) (ad 0 30) ((0 : Int32).toNatClampNeg) (nI (Q 0 F))) (ad 0 30) ((1 : Int32).toNatClampNeg) (nI (Q 1 s))) (up2 (up2 g (ad 0 7) 17 (lN B)) (ad 0 7) 17 (lN X))) (ad 0 7) 6, mR (mm M (up2 (up2 (brF ad f y) (ad 0 30) ((0 : Int32).toNatClampNeg) (nI (Q 0 F))) (ad 0 30) ((1 : Int32).toNatClampNeg) (nI (Q 1 s))) (up2 (up2 g (ad 0 7) 17 (lN B)) (ad 0 7) 17 (lN X))) (ad 0 7) 18 = some (ad 0 30), va_rf (some (ad 0 30)) = .ref (ad 0 30), ob (mm M (up2 (up2 (brF ad f y) (ad 0 30) ((0 : Int32).toNatClampNeg) (nI (Q 0 F))) (ad 0 30) ((1 : Int32).toNatClampNeg) (nI (Q 1 s))) (up2 (up2 g (ad 0 7) 17 (lN B)) (ad 0 7) 17 (lN X))) (ad 0 7) 6, mR (mm M (up2 (up2 (brF ad f y) (ad 0 30) ((0 : Int32).toNatClampNeg) (nI (Q 0 F))) (ad 0 30) ((1 : Int32).toNatClampNeg) (nI (Q 1 s))) (up2 (up2 g (ad 0 7) 17 (lN B)) (ad 0 7) 17 (lN X))) (ad 0 7) 6 = some (ad 0 20), va_rf (some (ad 0 20)) = .ref (ad 0 20), ob (mm M (up2 (up2 (brF ad f y) (ad 0 30) ((0 : Int32).toNatClampNeg) (nI (Q 0 F))) (ad 0 30) ((1 : Int32).toNatClampNeg) (nI (Q 1 s))) (up2 (up2 g (ad 0 7) 17 (lN B)) (ad 0 7) 17 (lN X))) (ad 0 20) 15, vp_in (256 + (nI th)) (mN (mm M (up2 (up2 (brF ad f y) (ad 0 30) ((0 : Int32).toNatClampNeg) (nI (Q 0 F))) (ad 0 30) ((1 : Int32).toNatClampNeg) (nI (Q 1 s))) (up2 (up2 g (ad 0 7) 17 (lN B)) (ad 0 7) 17 (lN X))) (ad 0 20)), (Value.int ((up2 (up2 (brF ad f y) (ad 0 30) ((0 : Int32).toNatClampNeg) (nI (Q 0 F))) (ad 0 30) ((1 : Int32).toNatClampNeg) (nI (Q 1 s))) (ad 0 20) ((256 + (nI th)).toNatClampNeg))) = .int (nI (Q 2 th)), ob (mm M (up2 (up2 (brF ad f y) (ad 0 30) ((0 : Int32).toNatClampNeg) (nI (Q 0 F))) (ad 0 30) ((1 : Int32).toNatClampNeg) (nI (Q 1 s))) (up2 (up2 g (ad 0 7) 17 (lN B)) (ad 0 7) 17 (lN X))) (ad 0 30) 15, vp_in 2 (mN (mm M (up2 (up2 (brF ad f y) (ad 0 30) ((0 : Int32).toNatClampNeg) (nI (Q 0 F))) (ad 0 30) ((1 : Int32).toNatClampNeg) (nI (Q 1 s))) (up2 (up2 g (ad 0 7) 17 (lN B)) (ad 0 7) 17 (lN X))) (ad 0 30))]) rfl ⟨(hF.o 7), (hF.o 7), (hF.r 7 18 30), rfl, (hF.o 7), (hF.r 7 6 20), rfl, (hF.o 20), (vpi (hF.n 20) (show _ < 384 by omega)), congrArg Value.int ((congrArg (fun z => (brF ad f y) (ad 0 20) z) (nI_clamp (by omega))).trans ((brF_n hi (by omega)).trans c0.2.1)), (hF.o 30), (vp_eq (show (0 : Int32) = nI 0 from rfl) (vpi (hF.n 30) (show _ < 3 by omega))), (hF.o 7), (hF.r 7 18 30), rfl, (hF.o 7), (hF.r 7 6 20), rfl, (hF.o 20), (vp_eq (eq_add (show (128 : Int32) = nI 128 from rfl) rfl) (vpi (hF.n 20) (show _ < 384 by omega))), congrArg Value.int ((congrArg (fun z => (up2 (brF ad f y) (ad 0 30) ((0 : Int32).toNatClampNeg) (nI (Q 0 F))) (ad 0 20) z) (cl_of (eq_add (show (128 : Int32) = nI 128 from rfl) rfl) (by omega))).trans (((up2_n _ _ (fun z => absurd (hi _ _ _ _ z.1).2 (by decide))).trans (rfl)).trans ((brF_n hi (by omega)).trans c1.2.1))), (hF.o 30), (vp_eq (show (1 : Int32) = nI 1 from rfl) (vpi (hF.n 30) (show _ < 3 by omega))), (hF.o 7), (hF.r 7 18 30), rfl, (hF.o 7), (hF.r 7 6 20), rfl, (hF.o 20), (vp_eq (eq_add (show (256 : Int32) = nI 256 from rfl) rfl) (vpi (hF.n 20) (show _ < 384 by omega))), congrArg Value.int ((congrArg (fun z => (up2 (up2 (brF ad f y) (ad 0 30) ((0 : Int32).toNatClampNeg) (nI (Q 0 F))) (ad 0 30) ((1 : Int32).toNatClampNeg) (nI (Q 1 s))) (ad 0 20) z) (cl_of (eq_add (show (256 : Int32) = nI 256 from rfl) rfl) (by omega))).trans (((up2_n _ _ (fun z => absurd (hi _ _ _ _ z.1).2 (by decide))).trans ((up2_n _ _ (fun z => absurd (hi _ _ _ _ z.1).2 (by decide))).trans (rfl))).trans ((brF_n hi (by omega)).trans c2.2.1))), (hF.o 30), (vp_eq (show (2 : Int32) = nI 2 from rfl) (vpi (hF.n 30) (show _ < 3 by omega))), trivial⟩ ?_
      rw [cl_of (x := 0) (show (0 : Int32) = nI 0 from rfl) (by omega)]
      rw [cl_of (x := 1) (show (1 : Int32) = nI 1 from rfl) (by omega)]
      rw [cl_of (x := 2) (show (2 : Int32) = nI 2 from rfl) (by omega)]
      have lt := (lgN (a := X) (b := B) (by omega) (by omega)).mp c21
      rw [show up2 (up2 g (ad 0 7) 17 (lN B)) (ad 0 7) 17 (lN X) = up2 g (ad 0 7) 17 (lN X) from up2_up2 _ _ _ _ _]
      rw [show up2 (up2 (up2 (brF ad f y) (ad 0 30) 0 (nI (Q 0 F))) (ad 0 30) 1 (nI (Q 1 s))) (ad 0 30) 2 (nI (Q 2 th)) = brF ad f (n3 (q3 Q (F, s, th))) from brF_brF (z := n3 (q3 Q (F, s, th)))]
      refine cont X (n3 (q3 Q (F, s, th))) _ ?_
      rw [← hc3]
      exact hV.less (by rw [hc3]; exact lt) (fun σ => Iff.rfl)
    · -- ¬ ((lg_cmp (lN X) (lN B)) < 0)
      refine go_blk 4 [some (.long (lN B))] (pc' := 74) (vs' := [.ref (ad 0 7), .int (nI F), .int (nI r), .int (nI A), .int (nI s), .int (nI i), .int (nI th), .long (lN X), .retAddr 1]) (st' := [.int (lg_cmp (lN X) (lN B))]) (M' := mm M (brF ad f y) (up2 g (ad 0 7) 17 (lN B))) (ps := [ob (mm M (brF ad f y) (up2 g (ad 0 7) 17 (lN B))) (ad 0 7) 6, (Value.long ((up2 g (ad 0 7) 17 (lN B)) (ad 0 7) 17)) = .long (lN B)]) rfl ⟨(hF.o 7), congrArg Value.long (up2_s _ _ _ _), trivial⟩ ?_
      refine go_if rfl (fun (c22 : ¬ (lg_cmp (lN X) (lN B)) = 0) => ?_) (fun (c22 : ¬ (¬ (lg_cmp (lN X) (lN B)) = 0)) => ?_)
      · -- ¬ (lg_cmp (lN X) (lN B)) = 0
        have gt : B < X := by
          have z1 : ¬ X < B := fun z => c21 ((lgN (a := X) (b := B) (by omega) (by omega)).mpr z)
          have z2 : ¬ X = B := fun z => c22 ((lgE (a := X) (b := B) (by omega) (by omega)).mpr z)
          omega
        exact cont B y _ (hV.more (fun σ hσ => hσ.imp id (fun z => by rw [z, hc3]; exact gt)) (fun σ hσ => Or.inl hσ))
      · -- ¬ (¬ (lg_cmp (lN X) (lN B)) = 0)
        refine go_blk 4 [] (pc' := 83) (vs' := [.ref (ad 0 7), .int (nI F), .int (nI r), .int (nI A), .int (nI s), .int (nI i), .int (nI th), .long (lN X), .retAddr 1]) (st' := [.int (nI th), .int (nI s), .int (nI F), .ref (ad 0 7)]) (M' := mm M (brF ad f y) (up2 g (ad 0 7) 17 (lN B))) (ps := []) rfl trivial ?_
        refine go_callV rfl rfl rfl (by omega) rfl (by decide) (by decide) (hF.o 7) ?_
        refine s_Pl_isLikelier (Q := Q) (y := y) (by omega) hF hF1 (by omega) th7 ((brF_n hi (by omega)).trans c0.2.1) ((brF_n hi (by omega)).trans c1.2.1) ((brF_n hi (by omega)).trans c2.2.1) brF_0 (fun hlk => ⟨ne_i, ?_⟩) (fun hlk => ⟨ne_i, ?_⟩)
        · -- ('i', '1')
          show Go d 65 0 0 86 [.ref (ad 0 7), .int (nI F), .int (nI r), .int (nI A), .int (nI s), .int (nI i), .int (nI th), .long (lN X), .retAddr 1] [.int 1] (mm M (brF ad f y) (up2 g (ad 0 7) 17 (lN B))) R
          refine go_if rfl (fun (z : (1 : Int32) = 0) => absurd z (show ¬ ((1 : Int32) = 0) from (by decide))) (fun _ => ?_)
          refine go_blk 31 [some (.ref (ad 0 30)), some (.ref (ad 0 20)), some (.int (nI (Q 0 F))), some (.ref (ad 0 30)), some (.ref (ad 0 20)), some (.int (nI (Q 1 s))), some (.ref (ad 0 30)), some (.ref (ad 0 20)), some (.int (nI (Q 2 th)))] (pc' := 141) (vs' := [.ref (ad 0 7), .int (nI F), .int (nI r), .int (nI A), .int (nI s), .int (nI i), .int (nI th), .long (lN X), .retAddr 1]) (st' := []) (M' := mm M (up2 (up2 (up2 (brF ad f y) (ad 0 30) ((0 : Int32).toNatClampNeg) (nI (Q 0 F))) (ad 0 30) ((1 : Int32).toNatClampNeg) (nI (Q 1 s))) (ad 0 30) ((2 : Int32).toNatClampNeg) (nI (Q 2 th))) (up2 (up2 g (ad 0 7) 17 (lN B)) (ad 0 7) 17 (lN X))) (ps := [ob (mm M (brF ad f y) (up2 g (ad 0 7) 17 (lN B))) (ad 0 7) 6, ob (mm M (brF ad f y) (up2 (up2 g (ad 0 7) 17 (lN B)) (ad 0 7) 17 (lN X))) (ad 0 7) 6, mR (mm M (brF ad f y) (up2 (up2 g (ad 0 7) 17 (lN B)) (ad 0 7) 17 (lN X))) (ad 0 7) 18 = some (ad 0 30), va_rf (some (ad 0 30)) = .ref (ad 0 30), ob (mm M (brF ad f y) (up2 (up2 g (ad 0 7) 17 (lN B)) (ad 0 7) 17 (lN X))) (ad 0 7) 6, mR (mm M (brF ad f y) (up2 (up2 g (ad 0 7) 17 (lN B)) (ad 0 7) 17 (lN X))) (ad 0 7) 6 = some (ad 0 20), va_rf (some (ad 0 20)) = .ref (ad 0 20), ob (mm M (brF ad f y) (up2 (up2 g (ad 0 7) 17 (lN B)) (ad 0 7) 17 (lN X))) (ad 0 20) 15, vp_in (nI F) (mN (mm M (brF ad f y) (up2 (up2 g (ad 0 7) 17 (lN B)) (ad 0 7) 17 (lN X))) (ad 0 20)), (Value.int ((brF ad f y) (ad 0 20) ((nI F).toNatClampNeg))) = .int (nI (Q 0 F)), ob (mm M (brF ad f y) (up2 (up2 g (ad 0 7) 17 (lN B)) (ad 0 7) 17 (lN X))) (ad 0 30) 15, vp_in 0 (mN (mm M (brF ad f y) (up2 (up2 g (ad 0 7) 17 (lN B)) (ad 0 7) 17 (lN X))) (ad 0 30)), ob (mm M (up2 (brF ad f y) (ad 0 30) ((0 : Int32).toNatClampNeg) (nI (Q 0 F))) (up2 (up2 g (ad 0 7) 17 (lN B)) (ad 0 7) 17 (lN X))) (ad 0 7) 6, mR (mm M (up2 (brF ad f y) (ad 0 30) ((0 : Int32).toNatClampNeg) (nI (Q 0 F))) (up2 (up2 g (ad 0 7) 17 (lN B)) (ad 0 7) 17 (lN X))) (ad 0 7) 18 = some (ad 0 30), va_rf (some (ad 0 30)) = .ref (ad 0 30), ob (mm M (up2 (brF ad f y) (ad 0 30) ((0 : Int32).toNatClampNeg) (nI (Q 0 F))) (up2 (up2 g (ad 0 7) 17 (lN B)) (ad 0 7) 17 (lN X))) (ad 0 7) 6, mR (mm M (up2 (brF ad f y) (ad 0 30) ((0 : Int32).toNatClampNeg) (nI (Q 0 F))) (up2 (up2 g (ad 0 7) 17 (lN B)) (ad 0 7) 17 (lN X))) (ad 0 7) 6 = some (ad 0 20), va_rf (some (ad 0 20)) = .ref (ad 0 20), ob (mm M (up2 (brF ad f y) (ad 0 30) ((0 : Int32).toNatClampNeg) (nI (Q 0 F))) (up2 (up2 g (ad 0 7) 17 (lN B)) (ad 0 7) 17 (lN X))) (ad 0 20) 15, vp_in (128 + (nI s)) (mN (mm M (up2 (brF ad f y) (ad 0 30) ((0 : Int32).toNatClampNeg) (nI (Q 0 F))) (up2 (up2 g (ad 0 7) 17 (lN B)) (ad 0 7) 17 (lN X))) (ad 0 20)), (Value.int ((up2 (brF ad f y) (ad 0 30) ((0 : Int32).toNatClampNeg) (nI (Q 0 F))) (ad 0 20) ((128 + (nI s)).toNatClampNeg))) = .int (nI (Q 1 s)), ob (mm M (up2 (brF ad f y) (ad 0 30) ((0 : Int32).toNatClampNeg) (nI (Q 0 F))) (up2 (up2 g (ad 0 7) 17 (lN B)) (ad 0 7) 17 (lN X))) (ad 0 30) 15, vp_in 1 (mN (mm M (up2 (brF ad f y) (ad 0 30) ((0 : Int32).toNatClampNeg) (nI (Q 0 F))) (up2 (up2 g (ad 0 7) 17 (lN B)) (ad 0 7) 17 (lN X))) (ad 0 30)), ob (mm M (up2 (up2 (brF ad f y) (ad 0 30) ((0 : Int32).toNatClampNeg) (nI (Q 0 F))) (ad 0 30) ((1 : Int32).toNatClampNeg) (nI (Q 1 s))) (up2 (up2 g (ad 0 7) 17 (lN B)) (ad 0 7) 17 (lN X))) (ad 0 7) 6, mR (mm M (up2 (up2 (brF ad f y) (ad 0 30) ((0 : Int32).toNatClampNeg) (nI (Q 0 F))) (ad 0 30) ((1 : Int32).toNatClampNeg) (nI (Q 1 s))) (up2 (up2 g (ad 0 7) 17 (lN B)) (ad 0 7) 17 (lN X))) (ad 0 7) 18 = some (ad 0 30), va_rf (some (ad 0 30)) = .ref (ad 0 30), ob (mm M (up2 (up2 (brF ad f y) (ad 0 30) ((0 : Int32).toNatClampNeg) (nI (Q 0 F))) (ad 0 30) ((1 : Int32).toNatClampNeg) (nI (Q 1 s))) (up2 (up2 g (ad 0 7) 17 (lN B)) (ad 0 7) 17 (lN X))) (ad 0 7) 6, mR (mm M (up2 (up2 (brF ad f y) (ad 0 30) ((0 : Int32).toNatClampNeg) (nI (Q 0 F))) (ad 0 30) ((1 : Int32).toNatClampNeg) (nI (Q 1 s))) (up2 (up2 g (ad 0 7) 17 (lN B)) (ad 0 7) 17 (lN X))) (ad 0 7) 6 = some (ad 0 20), va_rf (some (ad 0 20)) = .ref (ad 0 20), ob (mm M (up2 (up2 (brF ad f y) (ad 0 30) ((0 : Int32).toNatClampNeg) (nI (Q 0 F))) (ad 0 30) ((1 : Int32).toNatClampNeg) (nI (Q 1 s))) (up2 (up2 g (ad 0 7) 17 (lN B)) (ad 0 7) 17 (lN X))) (ad 0 20) 15, vp_in (256 + (nI th)) (mN (mm M (up2 (up2 (brF ad f y) (ad 0 30) ((0 : Int32).toNatClampNeg) (nI (Q 0 F))) (ad 0 30) ((1 : Int32).toNatClampNeg) (nI (Q 1 s))) (up2 (up2 g (ad 0 7) 17 (lN B)) (ad 0 7) 17 (lN X))) (ad 0 20)), (Value.int ((up2 (up2 (brF ad f y) (ad 0 30) ((0 : Int32).toNatClampNeg) (nI (Q 0 F))) (ad 0 30) ((1 : Int32).toNatClampNeg) (nI (Q 1 s))) (ad 0 20) ((256 + (nI th)).toNatClampNeg))) = .int (nI (Q 2 th)), ob (mm M (up2 (up2 (brF ad f y) (ad 0 30) ((0 : Int32).toNatClampNeg) (nI (Q 0 F))) (ad 0 30) ((1 : Int32).toNatClampNeg) (nI (Q 1 s))) (up2 (up2 g (ad 0 7) 17 (lN B)) (ad 0 7) 17 (lN X))) (ad 0 30) 15, vp_in 2 (mN (mm M (up2 (up2 (brF ad f y) (ad 0 30) ((0 : Int32).toNatClampNeg) (nI (Q 0 F))) (ad 0 30) ((1 : Int32).toNatClampNeg) (nI (Q 1 s))) (up2 (up2 g (ad 0 7) 17 (lN B)) (ad 0 7) 17 (lN X))) (ad 0 30))]) rfl ⟨(hF.o 7), (hF.o 7), (hF.r 7 18 30), rfl, (hF.o 7), (hF.r 7 6 20), rfl, (hF.o 20), (vpi (hF.n 20) (show _ < 384 by omega)), congrArg Value.int ((congrArg (fun z => (brF ad f y) (ad 0 20) z) (nI_clamp (by omega))).trans ((brF_n hi (by omega)).trans c0.2.1)), (hF.o 30), (vp_eq (show (0 : Int32) = nI 0 from rfl) (vpi (hF.n 30) (show _ < 3 by omega))), (hF.o 7), (hF.r 7 18 30), rfl, (hF.o 7), (hF.r 7 6 20), rfl, (hF.o 20), (vp_eq (eq_add (show (128 : Int32) = nI 128 from rfl) rfl) (vpi (hF.n 20) (show _ < 384 by omega))), congrArg Value.int ((congrArg (fun z => (up2 (brF ad f y) (ad 0 30) ((0 : Int32).toNatClampNeg) (nI (Q 0 F))) (ad 0 20) z) (cl_of (eq_add (show (128 : Int32) = nI 128 from rfl) rfl) (by omega))).trans (((up2_n _ _ (fun z => absurd (hi _ _ _ _ z.1).2 (by decide))).trans (rfl)).trans ((brF_n hi (by omega)).trans c1.2.1))), (hF.o 30), (vp_eq (show (1 : Int32) = nI 1 from rfl) (vpi (hF.n 30) (show _ < 3 by omega))), (hF.o 7), (hF.r 7 18 30), rfl, (hF.o 7), (hF.r 7 6 20), rfl, (hF.o 20), (vp_eq (eq_add (show (256 : Int32) = nI 256 from rfl) rfl) (vpi (hF.n 20) (show _ < 384 by omega))), congrArg Value.int ((congrArg (fun z => (up2 (up2 (brF ad f y) (ad 0 30) ((0 : Int32).toNatClampNeg) (nI (Q 0 F))) (ad 0 30) ((1 : Int32).toNatClampNeg) (nI (Q 1 s))) (ad 0 20) z) (cl_of (eq_add (show (256 : Int32) = nI 256 from rfl) rfl) (by omega))).trans (((up2_n _ _ (fun z => absurd (hi _ _ _ _ z.1).2 (by decide))).trans ((up2_n _ _ (fun z => absurd (hi _ _ _ _ z.1).2 (by decide))).trans (rfl))).trans ((brF_n hi (by omega)).trans c2.2.1))), (hF.o 30), (vp_eq (show (2 : Int32) = nI 2 from rfl) (vpi (hF.n 30) (show _ < 3 by omega))), trivial⟩ ?_
          rw [cl_of (x := 0) (show (0 : Int32) = nI 0 from rfl) (by omega)]
          rw [cl_of (x := 1) (show (1 : Int32) = nI 1 from rfl) (by omega)]
          rw [cl_of (x := 2) (show (2 : Int32) = nI 2 from rfl) (by omega)]
          have eq := (lgE (a := X) (b := B) (by omega) (by omega)).mp (Classical.not_not.mp c22)
          rw [show up2 (up2 g (ad 0 7) 17 (lN B)) (ad 0 7) 17 (lN X) = up2 g (ad 0 7) 17 (lN X) from up2_up2 _ _ _ _ _]
          rw [show up2 (up2 (up2 (brF ad f y) (ad 0 30) 0 (nI (Q 0 F))) (ad 0 30) 1 (nI (Q 1 s))) (ad 0 30) 2 (nI (Q 2 th)) = brF ad f (n3 (q3 Q (F, s, th))) from brF_brF (z := n3 (q3 Q (F, s, th)))]
          refine cont X (n3 (q3 Q (F, s, th))) _ ?_
          rw [eq]
          exact hV.tie1 hQ (by rw [hc3]; exact eq) hlk (fun σ => Iff.rfl)
        · -- ('i', '0')
          show Go d 65 0 0 86 [.ref (ad 0 7), .int (nI F), .int (nI r), .int (nI A), .int (nI s), .int (nI i), .int (nI th), .long (lN X), .retAddr 1] [.int 0] (mm M (brF ad f y) (up2 g (ad 0 7) 17 (lN B))) R
          refine go_if rfl (fun _ => ?_) (fun (z : ¬ ((0 : Int32) = 0)) => absurd (show (0 : Int32) = 0 from (by decide)) z)
          have eq := (lgE (a := X) (b := B) (by omega) (by omega)).mp (Classical.not_not.mp c22)
          exact cont B y _ (hV.tie0 hQ (by rw [hc3]; exact eq) hlk (fun σ => Iff.rfl))
  show Go d 65 0 0 0 [.ref (ad 0 7), .int (nI F), .int (nI r), .int (nI A), .retAddr 0, .retAddr 0, .retAddr 0, .retAddr 0, .retAddr 0] [] (mm M (brF ad f y) (up2 g (ad 0 7) 17 (lN B))) R
  refine go_blk 4 [] (pc' := 6) (vs' := [.ref (ad 0 7), .int (nI F), .int (nI r), .int (nI A), .int (nI r), .int 0, .retAddr 0, .retAddr 0, .retAddr 0]) (st' := []) (M' := mm M (brF ad f y) (up2 g (ad 0 7) 17 (lN B))) (ps := []) rfl trivial ?_
  exact loop r (Nat.and_self r) 0 (by omega) B y _ _ _ (hS.congr Wk_r)

