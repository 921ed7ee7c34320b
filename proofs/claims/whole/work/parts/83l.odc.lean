/-! openDay: how many have come -/
/-- who has come before or comes to a cottage below n -/
def bgQ (p : Nat → Bool) (Q : Nat → Option Nat) (n : Nat) : Nat → Bool := fun b => p b || (List.range n).any (fun c => Q c == some b)
theorem bgQ_at {p : Nat → Bool} {Q : Nat → Option Nat} {n b : Nat} : bgQ p Q n b = true ↔ p b = true ∨ ∃ c, c < n ∧ Q c = some b := by
  unfold bgQ
  simp only [Bool.or_eq_true, List.any_eq_true, List.mem_range, beq_iff_eq]
theorem ct_bgQ {p : Nat → Bool} {Q : Nat → Option Nat} {nb : Nat} (hQ : ∀ c b, Q c = some b → b < nb ∧ p b = false) : ∀ n, (∀ c c' b, c < n → c' < c → Q c' = some b → ¬ Q c = some b) → ctB (bgQ p Q n) nb = ctB p nb + cnQ Q n
  | 0, _ => by
    refine (ctB_congr (fun k _ => ?_)).trans (Nat.add_zero _).symm
    unfold bgQ
    simp
  | n + 1, hu => by
    have ih := ct_bgQ hQ n (fun c c' b hc => hu c c' b (by omega))
    cases hq : Q n with
    | none =>
      rw [cnQ_n hq, ← ih]
      refine ctB_congr (fun k _ => ?_)
      rw [Bool.eq_iff_iff, bgQ_at, bgQ_at]
      refine or_congr Iff.rfl ⟨fun ⟨c, c1, c2⟩ => ⟨c, ?_, c2⟩, fun ⟨c, c1, c2⟩ => ⟨c, by omega, c2⟩⟩
      have : ¬ c = n := fun z => by rw [z, hq] at c2; cases c2
      omega
    | some b =>
      rw [cnQ_s hq, ← Nat.add_assoc, ← ih]
      obtain ⟨hb, hp⟩ := hQ n b hq
      refine ctB_add (i := b) hb ?_ (fun k _ => ?_)
      · rw [Bool.eq_false_iff]
        intro z
        rcases bgQ_at.mp z with y | ⟨c, c1, c2⟩
        · rw [hp] at y; cases y
        · exact hu n c b (by omega) c1 c2 hq
      · rw [Bool.eq_iff_iff, bgQ_at, Bool.or_eq_true, bgQ_at, decide_eq_true_iff]
        constructor
        · rintro (y | ⟨c, c1, c2⟩)
          · exact Or.inl (Or.inl y)
          · by_cases e : c = n
            · rw [e, hq] at c2
              cases c2
              exact Or.inr rfl
            · exact Or.inl (Or.inr ⟨c, by omega, c2⟩)
        · rintro ((y | ⟨c, c1, c2⟩) | rfl)
          · exact Or.inl y
          · exact Or.inr ⟨c, by omega, c2⟩
          · exact Or.inr ⟨n, by omega, hq⟩
