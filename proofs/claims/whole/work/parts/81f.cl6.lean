/-! closeDay: the invariant behind it -/
theorem hJ_close {φ φ' : VI} {wk nb b : Nat} (e : ∀ i k, k < nb → (i = 7 ∨ i = 16) → φ' 9 i k = φ 9 i k) (hb : b < nb) : hJ φ' (wk + 1) false b ↔ hJ φ wk true b := by
  unfold hJ
  rw [e 16 b hb (by omega), e 7 b hb (by omega)]
  constructor
  · rintro ⟨h1, w, h2, h3, h4⟩
    refine ⟨h1, w, h2, h3, ?_⟩
    rcases h4 with h4 | ⟨h4, h5⟩
    · by_cases c : w + 1 = wk
      · exact Or.inr ⟨c, rfl⟩
      · exact Or.inl (by omega)
    · cases h5
  · rintro ⟨h1, w, h2, h3, h4⟩
    refine ⟨h1, w, h2, h3, Or.inl ?_⟩
    rcases h4 with h4 | ⟨h4, -⟩ <;> omega
theorem ctB_re {p q s : Nat → Bool} {pos : Nat → Option Nat} {n N : Nat} (h1 : ∀ b, b < n → (p b = true ↔ (q b = true ∨ ∃ c, pos b = some c ∧ s c = true))) (h2 : ∀ b c, b < n → q b = true → pos b = some c → s c = true → False) (h3 : ∀ b c, b < n → pos b = some c → c < N) (h4 : ∀ a b c, a < n → b < n → pos a = some c → pos b = some c → a = b) (h5 : ∀ c, c < N → s c = true → ∃ b, b < n ∧ pos b = some c) : ctB p n = ctB q n + ctB s N := by
  have key : ∀ (n : Nat) (s : Nat → Bool), (∀ b, b < n → (p b = true ↔ (q b = true ∨ ∃ c, pos b = some c ∧ s c = true))) → (∀ b c, b < n → q b = true → pos b = some c → s c = true → False) → (∀ b c, b < n → pos b = some c → c < N) → (∀ a b c, a < n → b < n → pos a = some c → pos b = some c → a = b) → (∀ c, c < N → s c = true → ∃ b, b < n ∧ pos b = some c) → ctB p n = ctB q n + ctB s N := by
    intro n
    induction n with
    | zero =>
      intro s _ _ _ _ h5
      have : ∀ M, M ≤ N → ctB s M = 0 := by
        intro M
        induction M with
        | zero => intro _; rfl
        | succ M ih =>
          intro hM
          rw [ctB, ih (by omega), if_neg]
          intro z
          obtain ⟨b, hb, -⟩ := h5 M (by omega) z
          omega
      rw [this N (Nat.le_refl _)]; rfl
    | succ n ih =>
      intro s h1 h2 h3 h4 h5
      have upd : ∀ (c0 : Nat) (M : Nat), c0 < M → s c0 = true → ctB s M = ctB (fun c => s c && !(c == c0)) M + 1 := by
        intro c0 M
        induction M with
        | zero => intro h; omega
        | succ M ihM =>
          intro hc hs
          rw [ctB, ctB]
          by_cases e : M = c0
          · subst e
            rw [if_pos hs, if_neg (by simp)]
            have : ctB s M = ctB (fun c => s c && !(c == M)) M := ctB_congr (fun k hk => by simp [show ¬ k = M by omega])
            rw [this]
          · rw [ihM (by omega) hs]
            have : (s M && !(M == c0)) = s M := by simp [e]
            rw [this]; omega
      by_cases hcc : ∃ c0, pos n = some c0 ∧ s c0 = true
      · obtain ⟨c0, e1, e2⟩ := hcc
        have qn : ¬ q n = true := fun z => h2 n c0 (by omega) z e1 e2
        have pn : p n = true := (h1 n (by omega)).mpr (Or.inr ⟨c0, e1, e2⟩)
        rw [ctB, ctB, if_pos pn, if_neg qn, upd c0 N (h3 n c0 (by omega) e1) e2]
        have ne : ∀ b c, b < n → pos b = some c → ¬ c = c0 := fun b c hb hc z => by
          have := h4 b n c0 (by omega) (by omega) (by rw [← z]; exact hc) e1
          omega
        rw [ih (fun c => s c && !(c == c0)) (fun b hb => ?_) (fun b c hb z1 z2 z3 => h2 b c (by omega) z1 z2 (by simp at z3; exact z3.1)) (fun b c hb => h3 b c (by omega)) (fun a b c ha hb => h4 a b c (by omega) (by omega)) (fun c hc hs => ?_)]
        · omega
        · rw [h1 b (by omega)]
          refine or_congr Iff.rfl ⟨fun ⟨c, z1, z2⟩ => ⟨c, z1, by simp [z2, ne b c hb z1]⟩, fun ⟨c, z1, z2⟩ => ⟨c, z1, by simp at z2; exact z2.1⟩⟩
        · simp at hs
          obtain ⟨b, hb, hp⟩ := h5 c hc hs.1
          refine ⟨b, ?_, hp⟩
          by_cases e : b = n
          · subst e; rw [e1] at hp; cases hp; exact absurd rfl hs.2
          · omega
      · have e : p n = q n := by
          cases hp : p n with
          | true =>
            rcases (h1 n (by omega)).mp hp with z | z
            · exact z.symm
            · exact absurd z hcc
          | false =>
            cases hq : q n with
            | true => exact absurd ((h1 n (by omega)).mpr (Or.inl hq)) (by rw [hp]; decide)
            | false => rfl
        rw [ctB, ctB, e, ih s (fun b hb => h1 b (by omega)) (fun b c hb => h2 b c (by omega)) (fun b c hb => h3 b c (by omega)) (fun a b c ha hb => h4 a b c (by omega) (by omega)) (fun c hc hs => ?_)]
        · omega
        · obtain ⟨b, hb, hp⟩ := h5 c hc hs
          refine ⟨b, ?_, hp⟩
          by_cases e : b = n
          · subst e; exact absurd ⟨c, hp, hs⟩ hcc
          · omega
  exact key n s h1 h2 h3 h4 h5
