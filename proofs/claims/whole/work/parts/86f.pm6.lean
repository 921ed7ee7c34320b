/-! sharing the jobs among three teams -/
def c3 (C : Nat → Nat → Nat) (τ : Nat × Nat × Nat) : Nat := C 0 τ.1 + C 1 τ.2.1 + C 2 τ.2.2
def q3 (Q : Nat → Nat → Nat) (τ : Nat × Nat × Nat) : Nat × Nat × Nat := (Q 0 τ.1, Q 1 τ.2.1, Q 2 τ.2.2)
def le3 (a b : Nat × Nat × Nat) : Prop := a.1 < b.1 ∨ (a.1 = b.1 ∧ (a.2.1 < b.2.1 ∨ (a.2.1 = b.2.1 ∧ a.2.2 ≤ b.2.2)))
theorem le3_refl (a : Nat × Nat × Nat) : le3 a a := Or.inr ⟨rfl, Or.inr ⟨rfl, Nat.le_refl _⟩⟩
theorem le3_trans {a b c : Nat × Nat × Nat} (h : le3 a b) (h' : le3 b c) : le3 a c := by
  unfold le3 at *
  omega
def lt3 (x y : Int32 × Int32 × Int32) : Prop := x.1 < y.1 ∨ (x.1 = y.1 ∧ (x.2.1 < y.2.1 ∨ (x.2.1 = y.2.1 ∧ x.2.2 < y.2.2)))
def n3 (a : Nat × Nat × Nat) : Int32 × Int32 × Int32 := (nI a.1, nI a.2.1, nI a.2.2)
theorem lt3_n {a b : Nat × Nat × Nat} (ha : a.1 < 2 ^ 31 ∧ a.2.1 < 2 ^ 31 ∧ a.2.2 < 2 ^ 31) (hb : b.1 < 2 ^ 31 ∧ b.2.1 < 2 ^ 31 ∧ b.2.2 < 2 ^ 31) : lt3 (n3 a) (n3 b) ↔ ¬ le3 b a := by
  unfold lt3 n3 le3
  simp only
  rw [nI_lts ha.1 hb.1, nI_lts ha.2.1 hb.2.1, nI_lts ha.2.2 hb.2.2, nI_eqs ha.1 hb.1, nI_eqs ha.2.1 hb.2.1]
  omega
/-- the best of the triples that were looked at -/
def SV (C Q : Nat → Nat → Nat) (ceil : Nat) (W : Nat × Nat × Nat → Prop) (B : Nat) (y : Int32 × Int32 × Int32) : Prop :=
  B ≤ ceil + 1 ∧ (B ≤ ceil → ∃ τ, W τ ∧ c3 C τ = B ∧ y = n3 (q3 Q τ) ∧ ∀ σ, W σ → c3 C σ = B → le3 (q3 Q τ) (q3 Q σ)) ∧ ∀ σ, W σ → B ≤ c3 C σ ∨ ceil < c3 C σ
section
variable {C Q : Nat → Nat → Nat} {ceil B : Nat} {W W' : Nat × Nat × Nat → Prop} {y : Int32 × Int32 × Int32} {τ : Nat × Nat × Nat}
theorem SV.congr (h : SV C Q ceil W B y) (hW : ∀ σ, W' σ ↔ W σ) : SV C Q ceil W' B y :=
  ⟨h.1, fun z => by
    obtain ⟨τ, h1, h2, h3, h4⟩ := h.2.1 z
    exact ⟨τ, (hW τ).mpr h1, h2, h3, fun σ hσ => h4 σ ((hW σ).mp hσ)⟩, fun σ hσ => h.2.2 σ ((hW σ).mp hσ)⟩
theorem SV.less (h : SV C Q ceil W B y) (hc : c3 C τ < B) (hW : ∀ σ, W' σ ↔ W σ ∨ σ = τ) : SV C Q ceil W' (c3 C τ) (n3 (q3 Q τ)) := by
  obtain ⟨h1, h2, h3⟩ := h
  refine ⟨by omega, fun z => ⟨τ, (hW τ).mpr (Or.inr rfl), rfl, rfl, fun σ hσ e => ?_⟩, fun σ hσ => ?_⟩
  · rcases (hW σ).mp hσ with q | q
    · have := h3 σ q; omega
    · rw [q]; exact le3_refl _
  · rcases (hW σ).mp hσ with q | q
    · have := h3 σ q; omega
    · rw [q]; exact Or.inl (Nat.le_refl _)
theorem SV.more (h : SV C Q ceil W B y) (hc : ∀ σ, W' σ → W σ ∨ B < c3 C σ) (hW : ∀ σ, W σ → W' σ) : SV C Q ceil W' B y := by
  obtain ⟨h1, h2, h3⟩ := h
  refine ⟨h1, fun z => ?_, fun σ hσ => ?_⟩
  · obtain ⟨τ, t1, t2, t3, t4⟩ := h2 z
    refine ⟨τ, hW τ t1, t2, t3, fun σ hσ e => ?_⟩
    rcases hc σ hσ with q | q
    · exact t4 σ q e
    · omega
  · rcases hc σ hσ with q | q
    · exact h3 σ q
    · exact Or.inl (by omega)
theorem SV.tie1 (h : SV C Q ceil W B y) (hQ : ∀ σ : Nat × Nat × Nat, c3 C σ ≤ ceil → (q3 Q σ).1 < 2 ^ 31 ∧ (q3 Q σ).2.1 < 2 ^ 31 ∧ (q3 Q σ).2.2 < 2 ^ 31) (hc : c3 C τ = B) (hl : lt3 (n3 (q3 Q τ)) y) (hW : ∀ σ, W' σ ↔ W σ ∨ σ = τ) : SV C Q ceil W' B (n3 (q3 Q τ)) := by
  obtain ⟨h1, h2, h3⟩ := h
  refine ⟨h1, fun z => ⟨τ, (hW τ).mpr (Or.inr rfl), hc, rfl, fun σ hσ e => ?_⟩, fun σ hσ => ?_⟩
  · rcases (hW σ).mp hσ with q | q
    · obtain ⟨τ0, t1, t2, t3, t4⟩ := h2 z
      rw [t3, lt3_n (hQ τ (by omega)) (hQ τ0 (by omega))] at hl
      have := t4 σ q e
      unfold le3 at hl this ⊢
      omega
    · rw [q]; exact le3_refl _
  · rcases (hW σ).mp hσ with q | q
    · exact h3 σ q
    · rw [q]; exact Or.inl (by omega)
theorem SV.tie0 (h : SV C Q ceil W B y) (hQ : ∀ σ : Nat × Nat × Nat, c3 C σ ≤ ceil → (q3 Q σ).1 < 2 ^ 31 ∧ (q3 Q σ).2.1 < 2 ^ 31 ∧ (q3 Q σ).2.2 < 2 ^ 31) (hc : c3 C τ = B) (hl : ¬ lt3 (n3 (q3 Q τ)) y) (hW : ∀ σ, W' σ ↔ W σ ∨ σ = τ) : SV C Q ceil W' B y := by
  obtain ⟨h1, h2, h3⟩ := h
  refine ⟨h1, fun z => ?_, fun σ hσ => ?_⟩
  · obtain ⟨τ0, t1, t2, t3, t4⟩ := h2 z
    refine ⟨τ0, (hW τ0).mpr (Or.inl t1), t2, t3, fun σ hσ e => ?_⟩
    rcases (hW σ).mp hσ with q | q
    · exact t4 σ q e
    · rw [t3, lt3_n (hQ τ (by omega)) (hQ τ0 (by omega))] at hl
      rw [q]
      exact Classical.not_not.mp hl
  · rcases (hW σ).mp hσ with q | q
    · exact h3 σ q
    · rw [q]; exact Or.inl (by omega)
end
/-- the next lower part of a set -/
theorem sub_next : ∀ (n : Nat) {r s m : Nat}, r < 2 ^ n → s &&& r = s → m &&& r = m → m < s → m ≤ (s - 1) &&& r
  | 0, r, s, m, hr, hs, hm, h => by
    have : r = 0 := by simpa using hr
    rw [this] at hs
    simp at hs
    omega
  | n + 1, r, s, m, hr, hs, hm, h => by
    have hr2 : r / 2 < 2 ^ n := by rw [Nat.pow_succ] at hr; omega
    have d : ∀ a b : Nat, (a &&& b) / 2 = a / 2 &&& b / 2 := fun a b => Nat.and_div_two
    have hs2 : s / 2 &&& r / 2 = s / 2 := by rw [← d, hs]
    have hm2 : m / 2 &&& r / 2 = m / 2 := by rw [← d, hm]
    have e : ((s - 1) &&& r) / 2 = (s - 1) / 2 &&& r / 2 := d _ _
    have b1 : ∀ a b : Nat, (a &&& b) % 2 = (a % 2) * (b % 2) := fun a b => by
      have := Nat.and_mod_two_pow (a := a) (b := b) (n := 1)
      rw [Nat.pow_one] at this
      rw [this]
      rcases Nat.mod_two_eq_zero_or_one a with x | x <;> rcases Nat.mod_two_eq_zero_or_one b with y | y <;> rw [x, y] <;> rfl
    have m1 : m % 2 = (m % 2) * (r % 2) := by rw [← b1, hm]
    have f := b1 (s - 1) r
    rcases Nat.mod_two_eq_zero_or_one s with x | x
    · have i := sub_next n (r := r / 2) (s := s / 2) (m := m / 2) hr2 hs2 hm2 (by omega)
      have e2 : (s - 1) / 2 = s / 2 - 1 := by omega
      rw [e2] at e
      have e3 : (s - 1) % 2 = 1 := by omega
      rw [e3, Nat.one_mul] at f
      have : m % 2 ≤ r % 2 := by
        rcases Nat.mod_two_eq_zero_or_one r with y | y
        · rw [y, Nat.mul_zero] at m1; omega
        · have := Nat.mod_lt m (show 0 < 2 by decide); omega
      omega
    · have e2 : (s - 1) / 2 = s / 2 := by omega
      rw [e2, hs2] at e
      omega
theorem and_sub (a b : Nat) : (a &&& b) &&& b = a &&& b := by rw [Nat.and_assoc, Nat.and_self]
theorem and_le (a b : Nat) : a &&& b ≤ a := Nat.and_le_left
