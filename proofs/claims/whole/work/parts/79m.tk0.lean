/-! a minute, as mathematics: D i k, the model's array i -/
abbrev DS : Type := Nat → Nat → Int32
def wyD (D : DS) (a b : Nat) : Int32 := if a = b then 0 else D 29 (8 * a + b)
def mnD (D : DS) (rs : Int32) (j a c : Nat) (has : Int32) : Int32 := if D 36 j ≤ has then wyD D a (1 + c) else wyD D a 0 + rs + wyD D 0 (1 + c)
def sbD (D : DS) (t j : Nat) (has : Int32) : Int32 := (if D 36 j ≤ has then has else D 28 t) - D 36 j
def shD (D : DS) (t m : Nat) : DS := fun i k => if i = 50 ∧ 7 * t ≤ k ∧ k < 7 * t + m then D 50 (k + 1) else D i k
/-- team t goes to cottage c, m are left in its row -/
def goD (D : DS) (rs : Int32) (wk n t c m : Nat) : DS :=
  up2 (up2 (up2 (up2 (up2 (up2 (up2 (up2 (shD (up2 D 51 t (nI m)) t m) 44 t 1) 45 t (nI c)) 46 t (nI n + mnD D rs (7 * wk + c) (D 48 t).toNatClampNeg c (D 47 t))) 47 t (sbD D t (7 * wk + c) (D 47 t))) 48 t (nI (c + 1))) 49 t (D 49 t + mnD D rs (7 * wk + c) (D 48 t).toNatClampNeg c (D 47 t))) 39 (7 * wk + c) (nI t)) 40 (7 * wk + c) (mnD D rs (7 * wk + c) (D 48 t).toNatClampNeg c (D 47 t))
/-- what comes of team t at minute n: nothing, or the next state -/
def stD (D : DS) (rs : Int32) (wk n t : Nat) : Option DS :=
  if D 44 t = 1 then (if D 46 t = nI n then some (up2 (up2 D 44 t 2) 46 t (-1)) else none)
  else if D 44 t = 2 then (if D 33 (7 * wk + (D 45 t).toNatClampNeg) ≤ nI n then some (up2 (up2 (up2 D 44 t 3) 37 (7 * wk + (D 45 t).toNatClampNeg) (nI n)) 46 t (nI n + D 35 (7 * wk + (D 45 t).toNatClampNeg))) else none)
  else if D 44 t = 3 then (if D 46 t = nI n then some (up2 (up2 (up2 (up2 D 44 t 0) 38 (7 * wk + (D 45 t).toNatClampNeg) (nI n)) 45 t (-1)) 46 t (-1)) else none)
  else if D 51 t = 0 then none else some (goD D rs wk n t (D 50 (7 * t)).toNatClampNeg ((D 51 t).toNatClampNeg - 1))
def fnD (rs : Int32) (wk n t : Nat) : Nat → DS → DS
  | 0, D => D
  | m + 1, D => match stD D rs wk n t with
    | none => D
    | some D' => fnD rs wk n t m D'
def muD (D : DS) (n t : Nat) : Nat := if D 44 t = 3 then (if D 46 t = nI n then 5 else 1) else if D 44 t = 0 then 4 else if D 44 t = 1 then 3 else 2
def miD (rs : Int32) (wk nt n : Nat) (D : DS) : DS := fldN (fun t D => fnD rs wk n t 6 D) nt D
def tkD (rs : Int32) (wk nt n : Nat) : Nat → DS → DS
  | 0, D => D
  | m + 1, D => miD rs wk nt (n + m + 1) (tkD rs wk nt n m D)
/-- a team on the open day; lo: till when it is about something at least -/
def tmW (D : DS) (nc wk lo t : Nat) : Prop := rg 0 30 (D 47 t) ∧ rg 0 nc (D 48 t) ∧ ((D 44 t = 0 ∧ D 45 t = -1 ∧ D 46 t = -1) ∨
    ∃ c, c < nc ∧ D 45 t = nI c ∧ D 32 (7 * wk + c) = 1 ∧ D 39 (7 * wk + c) = nI t ∧ D 38 (7 * wk + c) = -1 ∧ D 48 t = nI (c + 1) ∧
      ((D 44 t = 1 ∧ D 37 (7 * wk + c) = -1 ∧ ∃ k, lo ≤ k ∧ k ≤ 1680 ∧ D 46 t = nI k) ∨ (D 44 t = 2 ∧ D 37 (7 * wk + c) = -1 ∧ D 46 t = -1) ∨ (D 44 t = 3 ∧ ¬ D 37 (7 * wk + c) = -1 ∧ ∃ k, lo ≤ k ∧ k ≤ 1840 ∧ D 46 t = nI k)))
def rwW (D : DS) (nt nc wk : Nat) : Prop := (∀ t, t < nt → ∃ n, n ≤ 7 ∧ D 51 t = nI n ∧ ∀ i, i < n → ∃ c, c < nc ∧ D 50 (7 * t + i) = nI c ∧ D 32 (7 * wk + c) = 1 ∧ D 39 (7 * wk + c) = -1) ∧
  ∀ t t' n n' i i', t < nt → t' < nt → D 51 t = nI n → D 51 t' = nI n' → n ≤ 7 → n' ≤ 7 → i < n → i' < n' → D 50 (7 * t + i) = D 50 (7 * t' + i') → t = t' ∧ i = i'
def jbW (D : DS) (nt nc wk : Nat) : Prop := ∀ c, c < nc → D 32 (7 * wk + c) = 1 → (rg 0 1440 (D 33 (7 * wk + c)) ∧ rg 1 400 (D 35 (7 * wk + c)) ∧ rg 0 12 (D 36 (7 * wk + c))) ∧ m1or 0 1440 (D 37 (7 * wk + c)) ∧ m1or 0 1440 (D 38 (7 * wk + c)) ∧ (D 39 (7 * wk + c) = -1 ∨ ∃ t, t < nt ∧ D 39 (7 * wk + c) = nI t) ∧ rg 0 240 (D 40 (7 * wk + c)) ∧ (D 38 (7 * wk + c) ≠ -1 → D 39 (7 * wk + c) ≠ -1 ∧ D 37 (7 * wk + c) ≠ -1) ∧ (D 39 (7 * wk + c) = -1 → D 37 (7 * wk + c) = -1 ∧ D 38 (7 * wk + c) = -1)
def cnW (D : DS) (nt : Nat) (rs : Int32) : Prop := (∀ t, t < nt → rg 12 30 (D 28 t)) ∧ (∀ i j, i < 8 → j < 8 → i ≠ j → rg 0 90 (D 29 (8 * i + j))) ∧ rg 0 60 rs
def DW (D : DS) (nt nc wk : Nat) (rs : Int32) (lo : Nat → Nat) : Prop := (∀ t, t < nt → tmW D nc wk (lo t) t) ∧ rwW D nt nc wk ∧ jbW D nt nc wk ∧ cnW D nt rs
/-- what a day changes -/
def DK (D0 D : DS) (nt nc wk : Nat) : Prop := (∀ i k, ¬ ((37 ≤ i ∧ i ≤ 40) ∧ ∃ c, c < nc ∧ D0 32 (7 * wk + c) = 1 ∧ k = 7 * wk + c) → ¬ (((44 ≤ i ∧ i ≤ 49) ∨ i = 51) ∧ k < nt) → ¬ (i = 50 ∧ k < 7 * nt) → D i k = D0 i k) ∧ ∀ c, c < nc → D0 38 (7 * wk + c) ≠ -1 → D 38 (7 * wk + c) = D0 38 (7 * wk + c) ∧ D 39 (7 * wk + c) = D0 39 (7 * wk + c)
theorem nI_p1 {n : Nat} (h : n < 2 ^ 31) : ¬ nI n = -1 := nI_m1 h
theorem rg_wy {D : DS} {nt : Nat} {rs : Int32} (h : cnW D nt rs) {a b : Nat} (ha : a < 8) (hb : b < 8) : rg 0 90 (wyD D a b) := by
  unfold wyD
  by_cases c : a = b
  · rw [if_pos c]; exact ⟨0, by omega, by omega, rfl⟩
  · rw [if_neg c]; exact h.2.1 a b ha hb c
theorem rg_mn {D : DS} {nt j a c : Nat} {rs has : Int32} (h : cnW D nt rs) (ha : a < 8) (hc : c < 7) : rg 0 240 (mnD D rs j a c has) := by
  unfold mnD
  by_cases z : D 36 j ≤ has
  · rw [if_pos z]
    obtain ⟨k, k1, k2, k3⟩ := rg_wy h ha (show 1 + c < 8 by omega)
    exact ⟨k, k1, by omega, k3⟩
  · rw [if_neg z]
    obtain ⟨k, k1, k2, k3⟩ := rg_wy h ha (show 0 < 8 by omega)
    obtain ⟨l, l1, l2, l3⟩ := rg_wy h (show 0 < 8 by omega) (show 1 + c < 8 by omega)
    obtain ⟨m, m1, m2, m3⟩ := h.2.2
    exact ⟨k + m + l, by omega, by omega, by rw [k3, l3, m3, nI_add, nI_add]⟩
theorem rg_sb {D : DS} {nt t j : Nat} {rs has : Int32} (h : cnW D nt rs) (ht : t < nt) (hl : rg 0 12 (D 36 j)) (hh : rg 0 30 has) : rg 0 30 (sbD D t j has) := by
  obtain ⟨l, l1, l2, l3⟩ := hl
  obtain ⟨m, m1, m2, m3⟩ := hh
  obtain ⟨q, q1, q2, q3⟩ := h.1 t ht
  have sub : ∀ x, l ≤ x → x ≤ 30 → rg 0 30 (nI x - nI l) := fun x h1 h2 => ⟨x - l, by omega, by omega, by
    apply Int32.toInt_inj.mp
    rw [pk_sub_toInt (by omega) (by omega), nI_toInt (by omega)]; omega⟩
  unfold sbD
  rw [l3, m3]
  by_cases z : nI l ≤ nI m
  · rw [if_pos z]; exact sub m ((nI_les (by omega) (by omega)).mp z) m2
  · rw [if_neg z, q3]; exact sub q (by omega) q2
/-- the cells of the others -/
theorem tmW.congr {D D' : DS} {nc wk lo lo' t : Nat} (h : tmW D nc wk lo t) (hl : lo' ≤ lo) (e : ∀ i, (44 ≤ i ∧ i ≤ 48) → D' i t = D i t) (e32 : ∀ k, D' 32 k = D 32 k) (ej : ∀ c, c < nc → D 39 (7 * wk + c) = nI t → D' 37 (7 * wk + c) = D 37 (7 * wk + c) ∧ D' 38 (7 * wk + c) = D 38 (7 * wk + c) ∧ D' 39 (7 * wk + c) = D 39 (7 * wk + c)) : tmW D' nc wk lo' t := by
  obtain ⟨h1, h2, h3⟩ := h
  unfold tmW
  rw [e 47 (by omega), e 48 (by omega), e 44 (by omega), e 45 (by omega), e 46 (by omega)]
  refine ⟨h1, h2, ?_⟩
  rcases h3 with h3 | ⟨c, c1, c2, c3, c4, c5, c6, c7⟩
  · exact Or.inl h3
  · obtain ⟨j1, j2, j3⟩ := ej c c1 c4
    refine Or.inr ⟨c, c1, c2, by rw [e32]; exact c3, by rw [j3]; exact c4, by rw [j2]; exact c5, c6, ?_⟩
    rw [j1]
    rcases c7 with ⟨q1, q2, k, k1, k2⟩ | q | ⟨q1, q2, k, k1, k2⟩
    · exact Or.inl ⟨q1, q2, k, by omega, k2⟩
    · exact Or.inr (Or.inl q)
    · exact Or.inr (Or.inr ⟨q1, q2, k, by omega, k2⟩)
