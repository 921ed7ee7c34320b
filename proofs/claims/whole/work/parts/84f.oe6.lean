/-! openDay: the model's loop, one leaves -/
def lvF (ad : Nat → Nat → Nat) (f : Nat → Nat → Int32) (j : Nat) (v1 v2 v3 v4 v5 : Int32) : Nat → Nat → Int32 := up2 (up2 (up2 (up2 (up2 (up2 (up2 (up2 (up2 f (ad 9 32) j 1) (ad 9 33) j 600) (ad 9 34) j v1) (ad 9 35) j v2) (ad 9 36) j v3) (ad 9 37) j (-1)) (ad 9 38) j (-1)) (ad 9 42) j v4) (ad 9 43) j v5
theorem lvF_n {ad : Nat → Nat → Nat} {f : Nat → Nat → Int32} {j t i k : Nat} {v1 v2 v3 v4 v5 : Int32} (hi : Inj ad) (h : ¬ (t = 9 ∧ mjR i ∧ k = j)) : lvF ad f j v1 v2 v3 v4 v5 (ad t i) k = f (ad t i) k := by
  unfold mjR at h
  simp only [lvF, up2_ad hi]
  rw [if_neg (by omega), if_neg (by omega), if_neg (by omega), if_neg (by omega), if_neg (by omega), if_neg (by omega), if_neg (by omega), if_neg (by omega), if_neg (by omega)]
theorem MLo.leave {ad : Nat → Nat → Nat} {f0 f : Nat → Nat → Int32} {ne kd wk c e b : Nat} {Q W : Nat → Option Nat} (hi : Inj ad) (h : MLo ad f0 ne kd wk Q W c e f) (hw : W e = some b) : MLo ad f0 ne kd wk Q W c (e + 1) (lvF ad f (7 * wk + e) (jDue Q e) (f0 (ad 9 3) e + 3 * f0 (ad 9 8) b + (if f0 (ad 9 14) b = 0 then 0 else 20)) (jLin Q (f0 (ad 9 8)) e) (f0 (ad 9 8) b) (if f0 (ad 9 14) b = 0 then 0 else 1)) := by
  obtain ⟨h1, h2, h3, h4, h5, h6⟩ := h
  have nm : ∀ i k, ¬ mjR i → ¬ ((9 : Nat) = 9 ∧ mjR i ∧ k = 7 * wk + e) := fun i k z y => z y.2.1
  refine ⟨fun t i k z => ?_, ?_, fun c' b' hc hb' => ?_, fun b' hb' => ?_, fun c' b' hc hb' => ?_, fun i k hm hk => ?_⟩
  · rw [lvF_n hi (fun y => z (Or.inr (Or.inr (Or.inr (Or.inl ⟨y.1, y.2.1, by omega⟩)))))]; exact h1 t i k z
  · rw [lvF_n hi (by omega)]; exact h2
  · obtain ⟨a1, a2, a3, a4, a5⟩ := h3 c' b' hc hb'
    rw [lvF_n hi (nm 16 _ (by unfold mjR; omega)), lvF_n hi (nm 12 _ (by unfold mjR; omega)), lvF_n hi (nm 91 _ (by unfold mjR; omega)), lvF_n hi (nm 92 _ (by unfold mjR; omega))]
    exact ⟨a1, a2, a3, a4, fun th ht => by rw [lvF_n hi (nm 93 _ (by unfold mjR; omega))]; exact a5 th ht⟩
  · rw [lvF_n hi (nm 16 _ (by unfold mjR; omega)), lvF_n hi (nm 12 _ (by unfold mjR; omega))]; exact h4 b' hb'
  · by_cases g : c' = e
    · subst g
      rw [hw] at hb'
      cases hb'
      simp [lvF, up2_ad hi]
    · have nj : ∀ i, ¬ ((9 : Nat) = 9 ∧ mjR i ∧ 7 * wk + c' = 7 * wk + e) := fun i y => g (by omega)
      rw [lvF_n hi (nj 32), lvF_n hi (nj 33), lvF_n hi (nj 34), lvF_n hi (nj 35), lvF_n hi (nj 36), lvF_n hi (nj 37), lvF_n hi (nj 38), lvF_n hi (nj 42), lvF_n hi (nj 43)]
      exact h5 c' b' (by omega) hb'
  · rw [lvF_n hi (fun y => hk e b (by omega) hw y.2.2)]
    exact h6 i k hm (fun c' b' hc => hk c' b' (by omega))
