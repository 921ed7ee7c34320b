/-! closeDay: who gets lines -/
theorem rg_coin (o : Option Int64) : rg 0 10000 (coinO o) := by
  cases o with
  | none => exact ⟨0, by omega, by omega, rfl⟩
  | some v =>
    show rg 0 10000 (coinV v)
    unfold coinV
    by_cases c : v < 10000
    · rw [if_pos c]
      by_cases c0 : 0 < v
      · rw [if_pos c0]
        have h1 : (0 : Int) < v.toInt := by have := Int64.lt_iff_toInt_lt.mp c0; exact this
        have h2 : v.toInt < 10000 := by have := Int64.lt_iff_toInt_lt.mp c; exact this
        refine ⟨v.toInt.toNat, by omega, by omega, ?_⟩
        apply Int32.toInt_inj.mp
        rw [nI_toInt (by omega), Int64.toInt_toInt32, Int.bmod_eq_of_le (by omega) (by omega)]
        omega
      · rw [if_neg c0]; exact ⟨0, by omega, by omega, rfl⟩
    · rw [if_neg c, if_pos (by decide)]; exact ⟨10000, by omega, by omega, rfl⟩
theorem rg_py (f : Nat → Nat → Int32) (ad : Nat → Nat → Nat) (i b : Nat) : rg 0 10000 (pyV f ad i b) := by
  unfold pyV
  split
  · exact rg_coin _
  · exact ⟨0, by omega, by omega, rfl⟩
/-- the terms in force for a week, and what a job's pay is -/
def tmW' (M : Mem) (ad : Nat → Nat → Nat) (wk nx w : Nat) : Int32 := (tmV (mI M (ad 9 78)) (mI M (ad 9 79)) (nI w) (nI wk) nx).1
def pyJ (M : Mem) (ad : Nat → Nat → Nat) (wk nx : Nat) (bj : Nat → Nat) (j : Nat) : Int32 := if tmW' M ad wk nx (j / 7) = -1 then 0 else pyV (mI M) ad (tmW' M ad wk nx (j / 7)).toNatClampNeg (bj j)
def lnP (M : Mem) (ad : Nat → Nat → Nat) (wk nx : Nat) (bj : Nat → Nat) (j : Nat) : Bool := (mI M (ad 9 32) j == 1) && !(mI M (ad 9 38) j == -1) && !(pyJ M ad wk nx bj j == mI M (ad 9 41) j)
theorem lnP_of {M : Mem} {ad : Nat → Nat → Nat} {wk nx j : Nat} {bj : Nat → Nat} : lnP M ad wk nx bj j = true ↔ mI M (ad 9 32) j = 1 ∧ ¬ mI M (ad 9 38) j = -1 ∧ ¬ pyJ M ad wk nx bj j = mI M (ad 9 41) j := by
  unfold lnP
  simp only [Bool.and_eq_true, Bool.not_eq_true', beq_eq_false_iff_ne, beq_iff_eq, ne_eq, and_assoc]
theorem bj_of {M : Mem} {ad : Nat → Nat → Nat} {nb nt wk : Nat} {op : Bool} (jO : IJo (vw ad (mI M)) nb nt wk op) : ∃ bj : Nat → Nat, ∀ j, j < 364 → mI M (ad 9 32) j = 1 → bj j < nb ∧ hJ (vw ad (mI M)) wk op (bj j) ∧ jAt (vw ad (mI M)) (bj j) j := by
  have : ∀ j, ∃ b, j < 364 → mI M (ad 9 32) j = 1 → b < nb ∧ hJ (vw ad (mI M)) wk op b ∧ jAt (vw ad (mI M)) b j := by
    intro j
    by_cases hj : j < 364
    · rcases jO.2 j hj with ⟨b, hb, h1, h2⟩ | h1
      · exact ⟨b, fun _ _ => ⟨hb, h1, h2⟩⟩
      · exact ⟨0, fun _ z => absurd (z.symm.trans h1.1) (by decide)⟩
    · exact ⟨0, fun z => absurd z hj⟩
  exact ⟨fun j => Classical.choose (this j), fun j => Classical.choose_spec (this j)⟩
theorem gsL_none {p : Nat → Bool} {n : Nat} : ∀ m, (∀ k, n ≤ k → k < n + m → ¬ p k = true) → gsL p (n + m) = gsL p n
  | 0, _ => rfl
  | m + 1, h => by
    rw [show n + (m + 1) = (n + m) + 1 from rfl, gs_succ, if_neg (h (n + m) (by omega) (by omega)), List.append_nil]
    exact gsL_none m (fun k h1 h2 => h k h1 (by omega))
/-- references that closing may change -/
theorem keep4W {M : Mem} {ad : Nat → Nat → Nat} {nc nb nt wk nw nx nl ne nk kd : Nat} {op : Bool} {f : Nat → Nat → Int32} {g : Nat → Nat → Int64} {rr : Nat → Nat → Option Nat} (h : WI M ad nc nb nt wk nw nx nl ne nk kd op) (r : ∀ t i k, ¬ irR t i k → ¬ (t = 0 ∧ i = 38 ∧ nl ≤ k) → rr (ad t i) k = mR M (ad t i) k) (e : ∀ t i k, irr t i k = false → ¬ (t = 0 ∧ (i = 37 ∨ i = 39) ∧ nl ≤ k) → vw ad f t i k = vw ad (mI M) t i k)
    (ej : ∀ t i k, (t = 1 ∧ k = 4) ∨ (t = 0 ∧ i = 0 ∧ k = 12) ∨ (t = 10 ∧ i = 0 ∧ k = 99) ∨ (t = 0 ∧ i = 7 ∧ k = 17) → vw ad g t i k = vw ad (mJ M) t i k) : WI (mm (mr M rr) f g) ad nc nb nt wk nw nx nl ne nk kd op := by
  obtain ⟨hi, ⟨hF, hM, hC, hB, hT, hX⟩, ⟨iS, iC, iB, iR, iL, iT⟩, ⟨jO, jR, jB, jX, jL⟩, kO, kC, kD, kP, kX⟩ := h
  have r0 : ∀ i k, ¬ (i = 11 ∨ i = 13 ∨ i = 38) → rr (ad 0 i) k = mR M (ad 0 i) k := fun i k z => r 0 i k (by unfold irR; omega) (by omega)
  have rn : ∀ t i k, ¬ t = 0 → ¬ t = 10 → rr (ad t i) k = mR M (ad t i) k := fun t i k z1 z2 => r t i k (by unfold irR; omega) (by omega)
  have m82 : ∀ q ∈ moL, ¬ q.1 = 82 := by decide
  have ir : ∀ t i k, ¬ ((t = 10 ∧ (k = 0 ∨ (25 ≤ k ∧ k ≤ 27) ∨ (58 ≤ k ∧ k ≤ 61) ∨ (82 ≤ k ∧ k ≤ 90))) ∨ (t = 9 ∧ (i = 22 ∨ i = 23 ∨ i = 24 ∨ (53 ≤ i ∧ i ≤ 57))) ∨ (t = 0 ∧ (i = 6 ∨ (11 ≤ i ∧ i ≤ 15) ∨ (18 ≤ i ∧ i ≤ 29))) ∨ (t = 7 ∧ 4 ≤ k) ∨ (t = 0 ∧ i = 10 ∧ k = 8)) → ¬ (t = 0 ∧ (i = 37 ∨ i = 39) ∧ nl ≤ k) → vw ad f t i k = vw ad (mI M) t i k := by
    intro t i k hn hm
    refine e t i k ?_ hm
    clear hm
    simp only [irr, Bool.or_eq_false_iff, Bool.and_eq_false_iff, beq_eq_false_iff_ne, decide_eq_false_iff_not, ne_eq]
    omega
  have eJ1 : eJ nb (vw ad (mI M)) (vw ad f) := fun i k h => ir 9 i k (by omega) (by omega)
  refine ⟨hi, ⟨(show Fx (mr M rr) ad from fx_mr hF (fun i k z => r0 i k (by omega))), ⟨hM.1, fun q hq => ⟨(r 10 0 q.1 (by unfold irR; have := m82 q hq; omega) (by omega)).trans (hM.2 q hq).1, (hM.2 q hq).2⟩⟩, fun c hc => ⟨(r0 1 c (by decide)).trans (hC c hc).1, (hC c hc).2⟩, fun b hb => ⟨(r0 2 b (by decide)).trans (hB b hb).1, (hB b hb).2⟩, fun t ht => ?_, ?_⟩, ⟨iS.congr (fun t k h => ir t 0 k (by omega) (by omega)), iC.congr iS.1.2.2 (fun t i k h => ir t i k (by omega) (by omega)) (fun c _ => ej 1 c 4 (by omega)), iB.congr (fun t i k h => ir t i k (by omega) (by omega)), iR.congr (fun t i k h => ir t i k (by omega) (by omega)), iL.congr (fun t i k h => ir t i k (by omega) (by omega)), iT.congr (fun t i k h => ir t i k (by omega) (by omega))⟩, ⟨?_, ?_, ?_, ?_, ?_⟩, ?_, ?_, ?_, ?_, ?_⟩
  · obtain ⟨z1, z2, ⟨z3, z4⟩, z5, z6⟩ := hT t ht
    exact ⟨(r0 3 t (by decide)).trans z1, z2, ⟨(rn 3 t 2 (by decide) (by decide)).trans z3, z4⟩, (rn 3 t 3 (by decide) (by decide)).trans z5, z6⟩
  · exact ⟨(r0 10 0 (by decide)).trans hX.1, fun i q => (r0 36 i (by decide)).trans (hX.2.1 i q), fun i q => ⟨(hX.2.2 i q).1, (rn 7 i 0 (by decide) (by decide)).trans (hX.2.2 i q).2.1, (hX.2.2 i q).2.2⟩⟩
  · exact jO.congr eJ1 (fun b k _ _ _ => ir 6 b k (by omega) (by omega))
  · have jR2 : IJr (mr M rr) ad (vw ad (mI M)) nb nc wk op := by
      refine ⟨fun b hb => ⟨fun q => ?_, fun q => (rn 2 b 12 (by decide) (by decide)).trans ((jR.1 b hb).2 q)⟩, fun w c hw hc => ?_, fun ho c hc => ?_⟩
      · obtain ⟨z1, z2, z3⟩ := (jR.1 b hb).1 q
        exact ⟨(rn 2 b 12 (by decide) (by decide)).trans z1, z2, (rn 6 b 0 (by decide) (by decide)).trans z3⟩
      · rcases jR.2.1 w c hw hc with ⟨b, hb, q1, q2, q3, q4⟩ | ⟨q1, q2⟩
        · exact Or.inl ⟨b, hb, q1, q2, q3, (r0 4 _ (by decide)).trans q4⟩
        · exact Or.inr ⟨(r0 4 _ (by decide)).trans q1, q2⟩
      · rcases jR.2.2 ho c hc with ⟨b, hb, q1, q2, q3⟩ | ⟨q1, q2⟩
        · exact Or.inl ⟨b, hb, q1, q2, (r0 5 _ (by decide)).trans q3⟩
        · exact Or.inr ⟨(r0 5 _ (by decide)).trans q1, q2⟩
    exact jR2.congr eJ1
  · exact jB.congr iS.2.1.2.2 (fun t i k h => ir t i k (by omega) (by omega))
  · exact jX.congr (fun t i k h => ir t i k (by omega) (by omega))
  · refine ⟨?_, fun i q => ?_⟩
    · show vw ad f 0 10 6 = nI nl ∧ vw ad f 10 0 73 = nI nl ∧ nl ≤ 3000 ∧ vw ad f 0 10 7 = vw ad f 10 0 74
      rw [ir 0 10 6 (by omega) (by omega), ir 10 0 73 (by omega) (by omega), ir 0 10 7 (by omega) (by omega), ir 10 0 74 (by omega) (by omega)]
      exact jL.1
    · obtain ⟨z1, z2, b, hb, z3, z4, z5, z6, z7, z8⟩ := jL.2 i q
      show vw ad f 0 37 i = vw ad f 9 72 (5 * i) ∧ vw ad f 0 39 i = vw ad f 9 72 (5 * i + 4) ∧ ∃ b, b < nb ∧ hJ (vw ad f) wk op b ∧ rr (ad 0 38) i = some (ad 6 b) ∧ vw ad f 6 b 2 = vw ad f 9 72 (5 * i + 1) ∧ vw ad f 6 b 1 = vw ad f 9 72 (5 * i + 2) ∧ vw ad f 6 b 9 = vw ad f 9 72 (5 * i + 3) ∧ ¬ vw ad f 6 b 8 = -1
      rw [ir 0 37 i (by omega) (by omega), ir 0 39 i (by omega) (by omega), ir 9 72 _ (by omega) (by omega), ir 9 72 _ (by omega) (by omega), ir 9 72 _ (by omega) (by omega), ir 9 72 _ (by omega) (by omega), ir 9 72 _ (by omega) (by omega)]
      refine ⟨z1, z2, b, hb, (hJ.congr eJ1 hb).mpr z3, (r 0 38 i (by unfold irR; omega) (by omega)).trans z4, ?_, ?_, ?_, ?_⟩
      · rw [ir 6 b 2 (by omega) (by omega)]; exact z5
      · rw [ir 6 b 1 (by omega) (by omega)]; exact z6
      · rw [ir 6 b 9 (by omega) (by omega)]; exact z7
      · rw [ir 6 b 8 (by omega) (by omega)]; exact z8
  · exact kO.congr iB iS.2.2.2.1.2.2 (fun t i k h => ir t i k (by omega) (by omega)) (fun b _ _ => ir 6 b 8 (by omega) (by omega))
  · exact kC.congr (fun t i k h => ir t i k (by omega) (by omega)) ⟨ej 0 0 12 (by omega), ej 10 0 99 (by omega)⟩
  · exact kD.congr (fun i k h => ir 9 i k (by omega) (by omega))
  · have kP2 : IPl (mr M rr) ad (vw ad (mI M)) (vw ad (mJ M)) nb nt nc wk nw op := by
      rcases kP with q | ⟨q1, q2⟩
      · exact Or.inl q
      · refine Or.inr ⟨q1, fun ho => ?_⟩
        obtain ⟨g1, g2, g3⟩ := q2 ho
        refine ⟨g1, fun k c hk => ?_, g3⟩
        obtain ⟨b, hb, z1, z2, z3⟩ := g2 k c hk
        exact ⟨b, hb, z1, z2, (r0 17 k (by decide)).trans z3⟩
    exact kP2.congr eJ1 (fun i k h => ir 9 i k (by have := ppS_sp h; omega) (by omega)) ⟨ir 10 0 31 (by omega) (by omega), ir 0 7 19 (by omega) (by omega), ir 0 7 2 (by omega) (by omega), ir 0 7 4 (by omega) (by omega), fun t => ir 0 30 t (by omega) (by omega)⟩ (ej 0 7 17 (by omega))
  · exact kX.congr (fun t i k h => ir t i k (by omega) (by omega))
/-- drafts: dl, behind nl lines -/
def DR (M : Mem) (ad : Nat → Nat → Nat) (wk nx nl : Nat) (bj : Nat → Nat) (dl : List Nat) (r : Nat → Nat → Option Nat) (f : Nat → Nat → Int32) : Prop :=
  (∀ t i k, ¬ (t = 0 ∧ i = 38 ∧ nl ≤ k) → r (ad t i) k = mR M (ad t i) k) ∧ (∀ t i k, ¬ ((t = 0 ∧ i = 10 ∧ k = 8) ∨ (t = 0 ∧ (i = 37 ∨ i = 39) ∧ nl ≤ k) ∨ (t = 7 ∧ 4 ≤ k)) → f (ad t i) k = mI M (ad t i) k) ∧ (f (ad 0 10) 8 = nI dl.length ∧ nl + dl.length ≤ 3000) ∧
  ∀ k, k < dl.length → f (ad 0 37) (nl + k) = nI wk ∧ r (ad 0 38) (nl + k) = some (ad 6 (bj (dl.getD k 0))) ∧ f (ad 0 39) (nl + k) = pyJ M ad wk nx bj (dl.getD k 0) - mI M (ad 9 41) (dl.getD k 0)
theorem DR.at {M : Mem} {ad : Nat → Nat → Nat} {wk nx nl q : Nat} {bj : Nat → Nat} {dl : List Nat} {r : Nat → Nat → Option Nat} {f : Nat → Nat → Int32} {x : Int32} (hi : Inj ad) (h : DR M ad wk nx nl bj dl r f) : DR M ad wk nx nl bj dl r (up2 f (ad 7 q) 8 x) := by
  have n7 : ∀ t i k, ¬ t = 7 → up2 f (ad 7 q) 8 x (ad t i) k = f (ad t i) k := fun t i k z => up2_n _ _ (fun y => z (hi _ _ _ _ y.1).1)
  obtain ⟨h1, h2, ⟨h3, h4⟩, h5⟩ := h
  refine ⟨h1, fun t i k z => ?_, ⟨by rw [n7 0 10 8 (by decide)]; exact h3, h4⟩, fun k hk => ?_⟩
  · rw [up2_n _ _ (fun y => z (Or.inr (Or.inr ⟨(hi _ _ _ _ y.1).1, by omega⟩)))]; exact h2 t i k z
  · rw [n7 0 37 _ (by decide), n7 0 39 _ (by decide)]; exact h5 k hk
theorem DR.add {M : Mem} {ad : Nat → Nat → Nat} {wk nx nl j : Nat} {bj : Nat → Nat} {dl : List Nat} {r : Nat → Nat → Option Nat} {f : Nat → Nat → Int32} (hi : Inj ad) (h : DR M ad wk nx nl bj dl r f) (hl : nl + dl.length < 3000) : DR M ad wk nx nl bj (dl ++ [j]) (up2 r (ad 0 38) (nl + dl.length) (some (ad 6 (bj j)))) (up2 (up2 (up2 f (ad 0 37) (nl + dl.length) (nI wk)) (ad 0 39) (nl + dl.length) (pyJ M ad wk nx bj j - mI M (ad 9 41) j)) (ad 0 10) 8 (nI (dl.length + 1))) := by
  have n0 : ∀ i j, ¬ i = j → ¬ ad 0 i = ad 0 j := fun i j z y => z (hi _ _ _ _ y).2
  obtain ⟨h1, h2, ⟨h3, h4⟩, h5⟩ := h
  refine ⟨fun t i k z => ?_, fun t i k z => ?_, ⟨by rw [up2_s, List.length_append]; rfl, by rw [List.length_append]; simp; omega⟩, fun k hk => ?_⟩
  · rw [up2_n _ _ (fun y => z ⟨(hi _ _ _ _ y.1).1, (hi _ _ _ _ y.1).2, by omega⟩)]; exact h1 t i k z
  · rw [up2_n _ _ (fun y => z (Or.inl ⟨(hi _ _ _ _ y.1).1, (hi _ _ _ _ y.1).2, y.2⟩)), up2_n _ _ (fun y => z (Or.inr (Or.inl ⟨(hi _ _ _ _ y.1).1, Or.inr (hi _ _ _ _ y.1).2, by omega⟩))), up2_n _ _ (fun y => z (Or.inr (Or.inl ⟨(hi _ _ _ _ y.1).1, Or.inl (hi _ _ _ _ y.1).2, by omega⟩)))]; exact h2 t i k z
  · rw [up2_n _ _ (fun y => n0 37 10 (by decide) y.1), up2_n _ _ (fun y => n0 39 10 (by decide) y.1), up2_n _ _ (fun y => n0 37 39 (by decide) y.1)]
    by_cases c : k = dl.length
    · subst c
      rw [up2_s, up2_s, up2_s, gtD_app]; exact ⟨rfl, rfl, rfl⟩
    · have hk2 : k < dl.length := by rw [List.length_append] at hk; simp at hk; omega
      rw [up2_n _ _ (fun y => by have := y.2; omega), up2_n _ _ (fun y => by have := y.2; omega), up2_n _ _ (fun y => by have := y.2; omega), up2_n _ _ (fun y => n0 39 37 (by decide) y.1)]
      rw [List.getD_eq_getElem?_getD, List.getElem?_append_left hk2, ← List.getD_eq_getElem?_getD]
      exact h5 k hk2
