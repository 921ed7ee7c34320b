/-! texts: how far one goes without a FAULT (part, depth, digits, whether an atom is due) -/
def isDg (x : Int32) : Bool := decide (48 ≤ x) && decide (x ≤ 57)
def isLt (x : Int32) : Bool := x == 99 || x == 108 || x == 114 || x == 103 || x == 100 || x == 104
abbrev TSt : Type := Nat × Nat × Nat × Bool
/-- the part of a clause behind a sign: 0 first, 1 compared, 2 next test, 3 paid -/
def pBh (p : Nat) (x : Int32) : Option Nat :=
  if x = 61 ∨ x = 60 ∨ x = 62 then (if p = 0 ∨ p = 2 then some 1 else none)
  else if x = 38 then (if p = 1 then some 2 else none)
  else if x = 63 then (if p = 1 then some 3 else none)
  else if x = 59 then (if p = 0 ∨ p = 3 then some 0 else none)
  else none
def tStep (s : TSt) (x : Int32) : Option TSt :=
  if isDg x = true ∧ (s.2.2.2 = true ∨ (0 < s.2.2.1 ∧ s.2.2.1 < 4)) then some (s.1, s.2.1, s.2.2.1 + 1, false)
  else if x = 32 then some (s.1, s.2.1, 0, s.2.2.2)
  else if s.2.2.2 = true then
    (if x = 40 ∧ s.2.1 < 6 then some (s.1, s.2.1 + 1, 0, true) else if isLt x = true then some (s.1, s.2.1, 0, false) else none)
  else if 0 < s.2.1 ∧ x = 41 then some (s.1, s.2.1 - 1, 0, false)
  else if x = 43 ∨ x = 45 ∨ x = 42 ∨ x = 47 then some (s.1, s.2.1, 0, true)
  else if 0 < s.2.1 then none
  else match pBh s.1 x with
    | some p => some (p, s.2.1, 0, true)
    | none => none
def tEnd (s : TSt) : Bool := !s.2.2.2 && s.2.1 == 0 && (s.1 == 0 || s.1 == 3)
/-- the first fault of the bytes from i on, m of them -/
def flt (t : Nat → Int32) : Nat → Nat → TSt → Option Nat
  | i, 0, s => if tEnd s = true then none else some i
  | i, m + 1, s => match tStep s (t i) with
    | none => some i
    | some s' => flt t (i + 1) m s'
theorem flt_congr {t t' : Nat → Int32} : ∀ (m i : Nat) (s : TSt), (∀ k, i ≤ k → k < i + m → t' k = t k) → flt t' i m s = flt t i m s
  | 0, _, _, _ => rfl
  | m + 1, i, s, h => by
    rw [flt, flt, h i (by omega) (by omega)]
    cases tStep s (t i) with
    | none => rfl
    | some s' => exact flt_congr m (i + 1) s' (fun k h1 h2 => h k (by omega) (by omega))
def okT (t : Nat → Int32) (n : Nat) : Prop := flt t 0 n (0, 0, 0, true) = none
theorem okT.congr {t t' : Nat → Int32} {n : Nat} (h : okT t n) (e : ∀ k, k < n → t' k = t k) : okT t' n := (flt_congr n 0 _ (fun k _ h2 => e k (by omega))).trans h
