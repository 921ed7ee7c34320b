/-! minutes, as mathematics -/
theorem DW.lo {D : DS} {nt nc wk : Nat} {rs : Int32} {lo lo' : Nat → Nat} (h : DW D nt nc wk rs lo) (e : ∀ t, t < nt → lo' t = lo t) : DW D nt nc wk rs lo' := ⟨fun t ht => by rw [e t ht]; exact h.1 t ht, h.2⟩
theorem fnD_ok {nt nc wk n t : Nat} {rs : Int32} {lo : Nat → Nat} (ht : t < nt) (hlo : lo t = n) (hn : n ≤ 1440) (hnc : nc ≤ 7) (hnt : nt ≤ 3) : ∀ (m : Nat) (D : DS), DW D nt nc wk rs lo → muD D n t < m → DW (fnD rs wk n t m D) nt nc wk rs (fun x => if x = t then n + 1 else lo x) ∧ DK D (fnD rs wk n t m D) nt nc wk
  | 0, D, _, h => absurd h (Nat.not_lt_zero _)
  | m + 1, D, hW, h => by
    rw [fnD]
    cases hs : stD D rs wk n t with
    | none =>
      refine ⟨⟨fun t' ht' => ?_, hW.2⟩, DK.refl⟩
      by_cases c : t' = t
      · rw [c]
        show tmW D nc wk (if t = t then n + 1 else lo t) t
        rw [if_pos rfl]
        exact stD_no (by have := hW.1 t ht; rw [hlo] at this; exact this) hnc hn hs
      · show tmW D nc wk (if t' = t then n + 1 else lo t') t'
        rw [if_neg c]; exact hW.1 t' ht'
    | some D' =>
      obtain ⟨h1, h2, h3⟩ := stD_ok hW ht hlo hn hnc hnt hs
      obtain ⟨r1, r2⟩ := fnD_ok ht hlo hn hnc hnt m D' h1 (by omega)
      exact ⟨r1, h3.trans r2⟩
def loM (n k : Nat) : Nat → Nat := fun x => if x < k then n + 1 else n
theorem miD_ok {nt nc wk n : Nat} {rs : Int32} (hn : n ≤ 1440) (hnc : nc ≤ 7) (hnt : nt ≤ 3) {D : DS} (hW : DW D nt nc wk rs (loM n 0)) : ∀ k, k ≤ nt → DW (fldN (fun t D => fnD rs wk n t 6 D) k D) nt nc wk rs (loM n k) ∧ DK D (fldN (fun t D => fnD rs wk n t 6 D) k D) nt nc wk
  | 0, _ => ⟨hW, DK.refl⟩
  | k + 1, hk => by
    obtain ⟨h1, h2⟩ := miD_ok hn hnc hnt hW k (by omega)
    rw [fldN]
    have := muD_le (fldN (fun t D => fnD rs wk n t 6 D) k D) n k
    obtain ⟨r1, r2⟩ := fnD_ok (t := k) (lo := loM n k) (by omega) (by unfold loM; rw [if_neg (by omega)]) hn hnc hnt 6 _ h1 (by omega)
    refine ⟨r1.lo (fun t ht => ?_), h2.trans r2⟩
    unfold loM
    by_cases c : t = k
    · rw [if_pos c, if_pos (by omega)]
    · rw [if_neg c]
      by_cases c2 : t < k
      · rw [if_pos c2, if_pos (by omega)]
      · rw [if_neg c2, if_neg (by omega)]
theorem loM_full {nt n : Nat} {D : DS} {nc wk : Nat} {rs : Int32} (h : DW D nt nc wk rs (loM n nt)) : DW D nt nc wk rs (loM (n + 1) 0) := h.lo (fun t ht => by unfold loM; rw [if_neg (by omega), if_pos ht])
theorem tkD_ok {nt nc wk n : Nat} {rs : Int32} (hnc : nc ≤ 7) (hnt : nt ≤ 3) {D : DS} (hW : DW D nt nc wk rs (loM (n + 1) 0)) : ∀ q, n + q ≤ 1440 → DW (tkD rs wk nt n q D) nt nc wk rs (loM (n + q + 1) 0) ∧ DK D (tkD rs wk nt n q D) nt nc wk
  | 0, _ => ⟨hW, DK.refl⟩
  | q + 1, hq => by
    obtain ⟨h1, h2⟩ := tkD_ok hnc hnt hW q (by omega)
    rw [tkD]
    obtain ⟨r1, r2⟩ := miD_ok (n := n + q + 1) (by omega) hnc hnt h1 nt (Nat.le_refl _)
    exact ⟨loM_full r1, h2.trans r2⟩
