/-! openDay: who comes -/
def cmP (V : Nat → Nat → Int32) (wk c b : Nat) : Bool := !(V 15 b == 0) && (V 6 b == nI c) && (V 7 b == nI wk) && (V 5 (7 * wk + c) == 0)
def cmO (V : Nat → Nat → Int32) (nb wk c : Nat) : Option Nat := (List.range nb).find? (cmP V wk c)
theorem cmP_of {V : Nat → Nat → Int32} {wk c b : Nat} : cmP V wk c b = true ↔ ¬ V 15 b = 0 ∧ V 6 b = nI c ∧ V 7 b = nI wk ∧ V 5 (7 * wk + c) = 0 := by
  unfold cmP
  simp only [Bool.and_eq_true, Bool.not_eq_true', beq_eq_false_iff_ne, beq_iff_eq, ne_eq, and_assoc]
theorem cmO_some {V : Nat → Nat → Int32} {nb wk c b : Nat} (h : cmO V nb wk c = some b) : b < nb ∧ cmP V wk c b = true := ⟨List.mem_range.mp (List.mem_of_find?_eq_some h), List.find?_some h⟩
theorem cmO_none {V : Nat → Nat → Int32} {nb wk c : Nat} (h : cmO V nb wk c = none) : ∀ b, b < nb → ¬ cmP V wk c b = true := fun b hb => List.find?_eq_none.mp h b (List.mem_range.mpr hb)
theorem cmO_is {V : Nat → Nat → Int32} {nb wk c b : Nat} (hu : ∀ a b, a < nb → b < nb → ¬ V 15 a = 0 → ¬ V 15 b = 0 → V 6 a = V 6 b → V 7 a = V 7 b → a = b) (hb : b < nb) (h : cmP V wk c b = true) : cmO V nb wk c = some b := by
  cases hc : cmO V nb wk c with
  | none => exact absurd h (cmO_none hc b hb)
  | some a =>
    obtain ⟨h1, h2⟩ := cmO_some hc
    obtain ⟨p1, p2, p3, -⟩ := cmP_of.mp h
    obtain ⟨q1, q2, q3, -⟩ := cmP_of.mp h2
    rw [hu a b h1 hb q1 p1 (q2.trans p2.symm) (q3.trans p3.symm)]
def cnO (V : Nat → Nat → Int32) (nb wk : Nat) : Nat → Nat := ctB (fun c => (cmO V nb wk c).isSome)
theorem cnO_s (V : Nat → Nat → Int32) (nb wk c : Nat) : cnO V nb wk (c + 1) = cnO V nb wk c + (if (cmO V nb wk c).isSome = true then 1 else 0) := rfl
theorem cnO_mono (V : Nat → Nat → Int32) (nb wk : Nat) : ∀ {a b : Nat}, a ≤ b → cnO V nb wk a ≤ cnO V nb wk b
  | a, 0, h => by rw [show a = 0 by omega]; exact Nat.le_refl _
  | a, b + 1, h => by
    by_cases e : a = b + 1
    · rw [e]; exact Nat.le_refl _
    · have := cnO_mono V nb wk (show a ≤ b by omega)
      rw [cnO_s]; omega
/-- stays begun for the cottages below c -/
def BS (M : Mem) (ad : Nat → Nat → Nat) (nb wk ne c : Nat) (r : Nat → Nat → Option Nat) (f : Nat → Nat → Int32) : Prop :=
  (∀ t i k, ¬ (t = 0 ∧ i = 4 ∧ 7 * wk ≤ k) → r (ad t i) k = mR M (ad t i) k) ∧
  (∀ t i k, ¬ ((t = 0 ∧ i = 0 ∧ (k = 8 ∨ k = 9)) ∨ (t = 2 ∧ (k = 7 ∨ k = 11)) ∨ (t = 0 ∧ i = 9 ∧ k = 2) ∨ (t = 0 ∧ (i = 32 ∨ i = 33) ∧ ne ≤ k)) → f (ad t i) k = mI M (ad t i) k) ∧
  (f (ad 0 0) 8 = 1 ∧ f (ad 0 0) 9 = 0 ∧ f (ad 0 9) 2 = nI (ne + cnO (fun i k => mI M (ad 9 i) k) nb wk c)) ∧
  (∀ c' b, c' < c → cmO (fun i k => mI M (ad 9 i) k) nb wk c' = some b → r (ad 0 4) (7 * wk + c') = some (ad 2 b) ∧ f (ad 2 b) 7 = 1 ∧ f (ad 2 b) 11 = nI (ne + cnO (fun i k => mI M (ad 9 i) k) nb wk c') ∧ f (ad 0 32) (ne + cnO (fun i k => mI M (ad 9 i) k) nb wk c') = nI c' ∧ f (ad 0 33) (ne + cnO (fun i k => mI M (ad 9 i) k) nb wk c') = -1) ∧
  (∀ c', c' < 400 → (c ≤ c' ∨ cmO (fun i k => mI M (ad 9 i) k) nb wk c' = none) → r (ad 0 4) (7 * wk + c') = mR M (ad 0 4) (7 * wk + c')) ∧
  ∀ b, (∀ c', c' < c → ¬ cmO (fun i k => mI M (ad 9 i) k) nb wk c' = some b) → f (ad 2 b) 7 = mI M (ad 2 b) 7 ∧ f (ad 2 b) 11 = mI M (ad 2 b) 11
theorem cm_inj {V : Nat → Nat → Int32} {nb wk c c' b : Nat} (hc : c < 7) (hc' : c' < 7) (h : cmO V nb wk c = some b) (h' : cmO V nb wk c' = some b) : c = c' := by
  have e := (cmP_of.mp (cmO_some h).2).2.1.symm.trans (cmP_of.mp (cmO_some h').2).2.1
  exact (nI_eqs (by omega) (by omega)).mp e
theorem BS.skip {M : Mem} {ad : Nat → Nat → Nat} {nb wk ne c : Nat} {r : Nat → Nat → Option Nat} {f : Nat → Nat → Int32} (h : BS M ad nb wk ne c r f) (hn : cmO (fun i k => mI M (ad 9 i) k) nb wk c = none) : BS M ad nb wk ne (c + 1) r f := by
  obtain ⟨h1, h2, h3, h4, h5, h6⟩ := h
  refine ⟨h1, h2, ⟨h3.1, h3.2.1, ?_⟩, fun c' b hc hb => ?_, fun c' hc hq => ?_, fun b hb => h6 b (fun c' hc => hb c' (by omega))⟩
  · rw [cnO_s, hn]; exact h3.2.2
  · by_cases e : c' = c
    · rw [e, hn] at hb; cases hb
    · exact h4 c' b (by omega) hb
  · by_cases e : c' = c
    · exact h5 c' hc (Or.inl (by omega))
    · exact h5 c' hc (by rcases hq with q | q; exact Or.inl (by omega); exact Or.inr q)
set_option maxHeartbeats 1000000 in
theorem BS.add {M : Mem} {ad : Nat → Nat → Nat} {nb wk ne c b : Nat} {r : Nat → Nat → Option Nat} {f : Nat → Nat → Int32} (hi : Inj ad) (hc7 : c < 7) (h : BS M ad nb wk ne c r f) (hb : cmO (fun i k => mI M (ad 9 i) k) nb wk c = some b) : BS M ad nb wk ne (c + 1) (up2 r (ad 0 4) (7 * wk + c) (some (ad 2 b))) (up2 (up2 (up2 (up2 (up2 f (ad 2 b) 7 1) (ad 0 32) (ne + cnO (fun i k => mI M (ad 9 i) k) nb wk c) (nI c)) (ad 0 33) (ne + cnO (fun i k => mI M (ad 9 i) k) nb wk c) (-1)) (ad 0 9) 2 (nI (ne + cnO (fun i k => mI M (ad 9 i) k) nb wk c + 1))) (ad 2 b) 11 (nI (ne + cnO (fun i k => mI M (ad 9 i) k) nb wk c))) := by
  obtain ⟨h1, h2, h3, h4, h5, h6⟩ := h
  obtain ⟨V, hV⟩ : ∃ V, (fun i k => mI M (ad 9 i) k) = V := ⟨_, rfl⟩
  rw [hV] at h3 h4 h5 h6 hb ⊢
  have n0 : ∀ i j, ¬ i = j → ¬ ad 0 i = ad 0 j := fun i j z y => z (hi _ _ _ _ y).2
  have n02 : ∀ i j, ¬ ad 0 i = ad 2 j := fun i j y => absurd (hi _ _ _ _ y).1 (by decide)
  have n20 : ∀ i j, ¬ ad 2 i = ad 0 j := fun i j y => absurd (hi _ _ _ _ y).1 (by decide)
  unfold BS
  rw [hV]
  refine ⟨fun t i k z => ?_, fun t i k z => ?_, ⟨?_, ?_, ?_⟩, fun c' b' hc hb' => ?_, fun c' hc hq => ?_, fun b' hb' => ?_⟩
  · rw [up2_n _ _ (fun y => z ⟨(hi _ _ _ _ y.1).1, (hi _ _ _ _ y.1).2, by omega⟩)]; exact h1 t i k z
  · rw [up2_n _ _ (fun y => z (Or.inr (Or.inl ⟨(hi _ _ _ _ y.1).1, Or.inr y.2⟩))), up2_n _ _ (fun y => z (Or.inr (Or.inr (Or.inl ⟨(hi _ _ _ _ y.1).1, (hi _ _ _ _ y.1).2, y.2⟩)))), up2_n _ _ (fun y => z (Or.inr (Or.inr (Or.inr ⟨(hi _ _ _ _ y.1).1, Or.inr (hi _ _ _ _ y.1).2, by omega⟩)))), up2_n _ _ (fun y => z (Or.inr (Or.inr (Or.inr ⟨(hi _ _ _ _ y.1).1, Or.inl (hi _ _ _ _ y.1).2, by omega⟩)))), up2_n _ _ (fun y => z (Or.inr (Or.inl ⟨(hi _ _ _ _ y.1).1, Or.inl y.2⟩)))]
    exact h2 t i k z
  · rw [up2_n _ _ (fun y => n02 0 b y.1), up2_n _ _ (fun y => n0 0 9 (by decide) y.1), up2_n _ _ (fun y => n0 0 33 (by decide) y.1), up2_n _ _ (fun y => n0 0 32 (by decide) y.1), up2_n _ _ (fun y => n02 0 b y.1)]; exact h3.1
  · rw [up2_n _ _ (fun y => n02 0 b y.1), up2_n _ _ (fun y => n0 0 9 (by decide) y.1), up2_n _ _ (fun y => n0 0 33 (by decide) y.1), up2_n _ _ (fun y => n0 0 32 (by decide) y.1), up2_n _ _ (fun y => n02 0 b y.1)]; exact h3.2.1
  · rw [up2_n _ _ (fun y => n02 9 b y.1), up2_s, cnO_s, hb]; rfl
  · by_cases e : c' = c
    · subst e
      rw [hb] at hb'
      cases hb'
      refine ⟨up2_s _ _ _ _, ?_, up2_s _ _ _ _, ?_, ?_⟩
      · rw [up2_n _ _ (fun y => absurd y.2 (by decide)), up2_n _ _ (fun y => n20 b 9 y.1), up2_n _ _ (fun y => n20 b 33 y.1), up2_n _ _ (fun y => n20 b 32 y.1), up2_s]
      · rw [up2_n _ _ (fun y => n02 32 b y.1), up2_n _ _ (fun y => n0 32 9 (by decide) y.1), up2_n _ _ (fun y => n0 32 33 (by decide) y.1), up2_s]
      · rw [up2_n _ _ (fun y => n02 33 b y.1), up2_n _ _ (fun y => n0 33 9 (by decide) y.1), up2_s]
    · have hbb : ¬ b' = b := fun z => e (cm_inj (by omega) hc7 (by rw [z] at hb'; exact hb') hb)
      have m1 := cnO_mono V nb wk (show c' + 1 ≤ c by omega)
      rw [cnO_s, hb'] at m1
      have m2 : cnO V nb wk c' < cnO V nb wk c := by simp at m1; omega
      have nb2 : ¬ ad 2 b' = ad 2 b := fun z => hbb (hi _ _ _ _ z).2
      obtain ⟨a1, a2, a3, a4, a5⟩ := h4 c' b' (by omega) hb'
      refine ⟨?_, ?_, ?_, ?_, ?_⟩
      · rw [up2_n _ _ (fun y => by have := y.2; omega)]; exact a1
      · rw [up2_n _ _ (fun y => nb2 y.1), up2_n _ _ (fun y => n20 b' 9 y.1), up2_n _ _ (fun y => n20 b' 33 y.1), up2_n _ _ (fun y => n20 b' 32 y.1), up2_n _ _ (fun y => nb2 y.1)]; exact a2
      · rw [up2_n _ _ (fun y => nb2 y.1), up2_n _ _ (fun y => n20 b' 9 y.1), up2_n _ _ (fun y => n20 b' 33 y.1), up2_n _ _ (fun y => n20 b' 32 y.1), up2_n _ _ (fun y => nb2 y.1)]; exact a3
      · rw [up2_n _ _ (fun y => n02 32 b y.1), up2_n _ _ (fun y => n0 32 9 (by decide) y.1), up2_n _ _ (fun y => n0 32 33 (by decide) y.1), up2_n _ _ (fun y => by have := y.2; omega), up2_n _ _ (fun y => n02 32 b y.1)]; exact a4
      · rw [up2_n _ _ (fun y => n02 33 b y.1), up2_n _ _ (fun y => n0 33 9 (by decide) y.1), up2_n _ _ (fun y => by have := y.2; omega), up2_n _ _ (fun y => n0 33 32 (by decide) y.1), up2_n _ _ (fun y => n02 33 b y.1)]; exact a5
  · have e : ¬ c' = c := fun z => by rcases hq with q | q; omega; (rw [z, hb] at q; cases q)
    rw [up2_n _ _ (fun y => by have := y.2; omega)]
    exact h5 c' hc (by rcases hq with q | q; exact Or.inl (by omega); exact Or.inr q)
  · have hbb : ¬ b' = b := fun z => hb' c (by omega) (by rw [z]; exact hb)
    have nb2 : ¬ ad 2 b' = ad 2 b := fun z => hbb (hi _ _ _ _ z).2
    rw [up2_n _ _ (fun y => nb2 y.1), up2_n _ _ (fun y => n20 b' 9 y.1), up2_n _ _ (fun y => n20 b' 33 y.1), up2_n _ _ (fun y => n20 b' 32 y.1), up2_n _ _ (fun y => nb2 y.1), up2_n _ _ (fun y => nb2 y.1), up2_n _ _ (fun y => n20 b' 9 y.1), up2_n _ _ (fun y => n20 b' 33 y.1), up2_n _ _ (fun y => n20 b' 32 y.1), up2_n _ _ (fun y => nb2 y.1)]
    exact h6 b' (fun c' hc => hb' c' (by omega))
