/-! openDay: the model's loop over the cottages -/
def mjR (i : Nat) : Prop := (32 ≤ i ∧ i ≤ 38) ∨ i = 42 ∨ i = 43
/-- what the loop leaves alone -/
def mlX (ne wk t i k : Nat) : Prop := (t = 9 ∧ (i = 16 ∨ i = 12)) ∨ (t = 9 ∧ (i = 91 ∨ i = 92) ∧ ne ≤ k) ∨ (t = 9 ∧ i = 93 ∧ 3 * ne ≤ k) ∨ (t = 9 ∧ mjR i ∧ 7 * wk ≤ k) ∨ (t = 10 ∧ i = 0 ∧ k = 95)
/-- those who come to a cottage below c have come, those who leave one below e have left -/
def MLo (ad : Nat → Nat → Nat) (f0 : Nat → Nat → Int32) (ne kd wk : Nat) (Q W : Nat → Option Nat) (c e : Nat) (f : Nat → Nat → Int32) : Prop :=
  (∀ t i k, ¬ mlX ne wk t i k → f (ad t i) k = f0 (ad t i) k) ∧
  f (ad 10 0) 95 = nI (ne + cnQ Q c) ∧
  (∀ c' b, c' < c → Q c' = some b → f (ad 9 16) b = 1 ∧ f (ad 9 12) b = cdV (kd + cnQ Q c') ∧ f (ad 9 91) (ne + cnQ Q c') = nI c' ∧ f (ad 9 92) (ne + cnQ Q c') = nI b ∧ ∀ th, th < 3 → f (ad 9 93) (3 * (ne + cnQ Q c') + th) = 0) ∧
  (∀ b, (∀ c', c' < c → ¬ Q c' = some b) → f (ad 9 16) b = f0 (ad 9 16) b ∧ f (ad 9 12) b = f0 (ad 9 12) b) ∧
  (∀ c' b, c' < e → W c' = some b → f (ad 9 32) (7 * wk + c') = 1 ∧ f (ad 9 33) (7 * wk + c') = 600 ∧ f (ad 9 34) (7 * wk + c') = jDue Q c' ∧ f (ad 9 35) (7 * wk + c') = f0 (ad 9 3) c' + 3 * f0 (ad 9 8) b + (if f0 (ad 9 14) b = 0 then 0 else 20) ∧ f (ad 9 36) (7 * wk + c') = jLin Q (f0 (ad 9 8)) c' ∧ f (ad 9 37) (7 * wk + c') = -1 ∧ f (ad 9 38) (7 * wk + c') = -1 ∧ f (ad 9 42) (7 * wk + c') = f0 (ad 9 8) b ∧ f (ad 9 43) (7 * wk + c') = (if f0 (ad 9 14) b = 0 then 0 else 1)) ∧
  ∀ i k, mjR i → (∀ c' b, c' < e → W c' = some b → ¬ k = 7 * wk + c') → f (ad 9 i) k = f0 (ad 9 i) k
theorem MLo.zero {ad : Nat → Nat → Nat} {f0 : Nat → Nat → Int32} {ne kd wk : Nat} {Q W : Nat → Option Nat} (h : f0 (ad 10 0) 95 = nI ne) : MLo ad f0 ne kd wk Q W 0 0 f0 :=
  ⟨fun _ _ _ _ => rfl, h, fun c' b hc => absurd hc (by omega), fun _ _ => ⟨rfl, rfl⟩, fun c' b hc => absurd hc (by omega), fun _ _ _ _ => rfl⟩
theorem MLo.skipQ {ad : Nat → Nat → Nat} {f0 f : Nat → Nat → Int32} {ne kd wk c e : Nat} {Q W : Nat → Option Nat} (h : MLo ad f0 ne kd wk Q W c e f) (hq : Q c = none) : MLo ad f0 ne kd wk Q W (c + 1) e f := by
  obtain ⟨h1, h2, h3, h4, h5, h6⟩ := h
  refine ⟨h1, by rw [cnQ_n hq]; exact h2, fun c' b hc hb => ?_, fun b hb => h4 b (fun c' hc => hb c' (by omega)), h5, h6⟩
  exact h3 c' b (by have : ¬ c' = c := fun z => (by rw [z, hq] at hb; cases hb); omega) hb
theorem MLo.skipW {ad : Nat → Nat → Nat} {f0 f : Nat → Nat → Int32} {ne kd wk c e : Nat} {Q W : Nat → Option Nat} (h : MLo ad f0 ne kd wk Q W c e f) (hw : W e = none) : MLo ad f0 ne kd wk Q W c (e + 1) f := by
  obtain ⟨h1, h2, h3, h4, h5, h6⟩ := h
  refine ⟨h1, h2, h3, h4, fun c' b hc hb => ?_, fun i k hm hk => h6 i k hm (fun c' b hc => hk c' b (by omega))⟩
  exact h5 c' b (by have : ¬ c' = e := fun z => (by rw [z, hw] at hb; cases hb); omega) hb
