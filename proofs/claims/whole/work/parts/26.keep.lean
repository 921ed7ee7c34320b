/-! what the invariant doesn't look at; the invariant is kept where nothing else changes -/
def irr (t i k : Nat) : Bool := (t == 10 && (k == 0 || (decide (25 ≤ k) && decide (k ≤ 27)) || (decide (58 ≤ k) && decide (k ≤ 61)) || (decide (82 ≤ k) && decide (k ≤ 90)))) || (t == 9 && (i == 22 || i == 23 || i == 24 || (decide (53 ≤ i) && decide (i ≤ 57)))) ||
  (t == 0 && (i == 6 || (decide (11 ≤ i) && decide (i ≤ 15)) || (decide (18 ≤ i) && decide (i ≤ 29)))) || (t == 7 && decide (4 ≤ k)) || (t == 0 && i == 10 && k == 8)
theorem WI.keep {M : Mem} {ad : Nat → Nat → Nat} {nc nb nt wk nw nx nl ne nk kd : Nat} {op : Bool} {f : Nat → Nat → Int32} {g : Nat → Nat → Int64} (h : WI M ad nc nb nt wk nw nx nl ne nk kd op) (e : ∀ t i k, irr t i k = false → vw ad f t i k = vw ad (mI M) t i k)
    (ej : ∀ t i k, (t = 1 ∧ k = 4) ∨ (t = 0 ∧ i = 0 ∧ k = 12) ∨ (t = 10 ∧ i = 0 ∧ k = 99) ∨ (t = 0 ∧ i = 7 ∧ k = 17) → vw ad g t i k = vw ad (mJ M) t i k) : WI (mm M f g) ad nc nb nt wk nw nx nl ne nk kd op := by
  obtain ⟨hi, hsh, ⟨iS, iC, iB, iR, iL, iT⟩, ⟨jO, jR, jB, jX, jL⟩, kO, kC, kD, kP, kX⟩ := h
  have ir : ∀ t i k, ¬ ((t = 10 ∧ (k = 0 ∨ (25 ≤ k ∧ k ≤ 27) ∨ (58 ≤ k ∧ k ≤ 61) ∨ (82 ≤ k ∧ k ≤ 90))) ∨ (t = 9 ∧ (i = 22 ∨ i = 23 ∨ i = 24 ∨ (53 ≤ i ∧ i ≤ 57))) ∨ (t = 0 ∧ (i = 6 ∨ (11 ≤ i ∧ i ≤ 15) ∨ (18 ≤ i ∧ i ≤ 29))) ∨ (t = 7 ∧ 4 ≤ k) ∨ (t = 0 ∧ i = 10 ∧ k = 8)) → vw ad f t i k = vw ad (mI M) t i k := by
    intro t i k hn
    refine e t i k ?_
    simp only [irr, Bool.or_eq_false_iff, Bool.and_eq_false_iff, beq_eq_false_iff_ne, decide_eq_false_iff_not, ne_eq]
    omega
  have hS : ∀ i, ppS i = true → (i = 28 ∨ i = 29 ∨ (32 ≤ i ∧ i ≤ 36) ∨ i = 39 ∨ (44 ≤ i ∧ i ≤ 48) ∨ i = 50 ∨ i = 51) := by
    intro i hi
    simp only [ppS, Bool.or_eq_true, Bool.and_eq_true, beq_iff_eq, decide_eq_true_eq] at hi
    omega
  have eJ1 : eJ nb (vw ad (mI M)) (vw ad f) := fun i k h => ir 9 i k (by omega)
  refine ⟨hi, hsh, ⟨iS.congr (fun t k h => ir t 0 k (by omega)), iC.congr iS.1.2.2 (fun t i k h => ir t i k (by omega)) (fun c _ => ej 1 c 4 (by omega)), iB.congr (fun t i k h => ir t i k (by omega)), iR.congr (fun t i k h => ir t i k (by omega)), iL.congr (fun t i k h => ir t i k (by omega)), iT.congr (fun t i k h => ir t i k (by omega))⟩, ⟨?_, ?_, ?_, ?_, ?_⟩, ?_, ?_, ?_, ?_, ?_⟩
  · exact jO.congr eJ1 (fun b k _ _ _ => ir 6 b k (by omega))
  · exact jR.congr eJ1
  · exact jB.congr iS.2.1.2.2 (fun t i k h => ir t i k (by omega))
  · exact jX.congr (fun t i k h => ir t i k (by omega))
  · exact jL.congr eJ1 (fun b k _ _ _ => ir 6 b k (by omega)) (fun t i k h => ir t i k (by omega))
  · exact kO.congr iB iS.2.2.2.1.2.2 (fun t i k h => ir t i k (by omega)) (fun b _ _ => ir 6 b 8 (by omega))
  · exact kC.congr (fun t i k h => ir t i k (by omega)) ⟨ej 0 0 12 (by omega), ej 10 0 99 (by omega)⟩
  · exact kD.congr (fun i k h => ir 9 i k (by omega))
  · exact kP.congr eJ1 (fun i k h => ir 9 i k (by have := hS i h; omega)) ⟨ir 10 0 31 (by omega), ir 0 7 19 (by omega), ir 0 7 2 (by omega), ir 0 7 4 (by omega), fun t => ir 0 30 t (by omega)⟩ (ej 0 7 17 (by omega))
  · exact kX.congr (fun t i k h => ir t i k (by omega))
theorem ppS_sp {i : Nat} (hi : ppS i = true) : i = 28 ∨ i = 29 ∨ (32 ≤ i ∧ i ≤ 36) ∨ i = 39 ∨ (44 ≤ i ∧ i ≤ 48) ∨ i = 50 ∨ i = 51 := by
  simp only [ppS, Bool.or_eq_true, Bool.and_eq_true, beq_iff_eq, decide_eq_true_eq] at hi
  omega
theorem up2_ad {α : Type} {ad : Nat → Nat → Nat} (hi : Inj ad) (f : Nat → Nat → α) (t i j : Nat) (v : α) (t' i' k : Nat) : up2 f (ad t i) j v (ad t' i') k = if t' = t ∧ i' = i ∧ k = j then v else f (ad t' i') k := by simp only [up2, hi.iff, and_assoc]
theorem rg_of {lo hi : Nat} {x : Int32} (h1 : nI lo ≤ x) (h2 : x ≤ nI hi) (hh : hi < 2 ^ 31 := by decide) (hl : lo < 2 ^ 31 := by decide) : rg lo hi x := by
  rw [i32_le, nI_toInt hl] at h1
  rw [i32_le, nI_toInt hh] at h2
  refine ⟨x.toInt.toNat, by omega, by omega, ?_⟩
  apply Int32.toInt_inj.mp
  rw [nI_toInt (by omega)]
  omega
theorem II.ok {x o u : Nat} {sc : Nat × Nat × (Nat → Int32)} : IOk (II x o u sc) x o u sc := by
  intro M h
  obtain ⟨hsc, ad, nc, nb, nt, wk, nw, nx, nl, ne, nk, kd, op, rfl, rfl, rfl, hW⟩ := h
  exact ⟨hW.2.1.1.o 0, hW.2.1.2.1.1, hW.2.1.1.o 40, hW.2.1.1.n 40, hsc⟩
theorem WI.thr {M : Mem} {ad : Nat → Nat → Nat} {nc nb nt wk nw nx nl ne nk kd : Nat} {op : Bool} {v : Int32} (h : WI M ad nc nb nt wk nw nx nl ne nk kd op) : WI (mm M (up2 (mI M) (ad 10 0) 0 v) (mJ M)) ad nc nb nt wk nw nx nl ne nk kd op :=
  h.keep (fun t i k hq => by simp only [vw_up2 h.1]; rw [up3_n _ _ (by rintro ⟨rfl, rfl, rfl⟩; cases hq)]) (fun _ _ _ _ => rfl)
theorem vp_k {x k n : Nat} (h : x = n) (hk : k < n) (hn : n < 2 ^ 31 := by decide) : vp_in (nI k) x := by rw [h]; exact vp_in_nI hk hn
