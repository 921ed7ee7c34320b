/-! planning, as mathematics: the problem p (the model's arrays that BEST hangs on; place 0: the minutes at the base), plans, the best one; then the planner's cache and THE INVARIANT -/
def ppS (i : Nat) : Bool := i == 28 || i == 29 || (decide (32 ≤ i) && decide (i ≤ 36)) || i == 39 || (decide (44 ≤ i) && decide (i ≤ 48)) || i == 50 || i == 51
def ppv (φ : VI) : Nat → Nat → Int32 := fun i k => if i = 0 then φ 10 0 31 else if ppS i = true then φ 9 i k else 0
theorem ppv_congr {φ φ' : VI} (e : ∀ i k, ppS i = true → φ' 9 i k = φ 9 i k) (e0 : φ' 10 0 31 = φ 10 0 31) : ppv φ' = ppv φ := by
  funext i k
  unfold ppv
  split
  · exact e0
  · split
    · exact e i k ‹_›
    · rfl
section PLAN
variable (p : Nat → Nat → Int32) (nt nc wk nw : Nat)
/-- the cottages whose jobs nobody has gone to yet -/
def tdL : List Nat := (List.range nc).filter (fun c => p 32 (7 * wk + c) == 1 && p 39 (7 * wk + c) == -1)
def wayV (a b : Nat) : Int := if a = b then 0 else (p 29 (8 * a + b)).toInt
def linV (c : Nat) : Int := (p 36 (7 * wk + c)).toInt
def goV (a c : Nat) (left : Int) : Int := if linV p wk c ≤ left then wayV p a (1 + c) else wayV p a 0 + (p 0 0).toInt + wayV p 0 (1 + c)
def endV (time : Int) (a c : Nat) (left : Int) : Int := max (time + goV p wk a c left) (p 33 (7 * wk + c)).toInt + (p 35 (7 * wk + c)).toInt
def leftV (t c : Nat) (left : Int) : Int := (if linV p wk c ≤ left then left else (p 28 t).toInt) - linV p wk c
def lateV (time : Int) (a c : Nat) (left : Int) : Int := max 0 (endV p wk time a c left - (p 34 (7 * wk + c)).toInt)
/-- in whose row a cottage stands now -/
def inRw (c : Nat) : Option Nat := (List.range nt).find? (fun t => (List.range (p 51 t).toNatClampNeg).any (fun i => p 50 (7 * t + i) == nI c))
def mvdV (t c : Nat) : Int := match inRw p nt c with
  | some t' => if t' = t then 0 else 1
  | none => 0
/-- what a row costs from a start: late, moved, minutes -/
def rowV (t : Nat) : Int → Nat → Int → List Nat → Int × Int × Int
  | _, _, _, [] => (0, 0, 0)
  | time, a, left, c :: r => (lateV p wk time a c left + (rowV t (endV p wk time a c left) (1 + c) (leftV p wk t c left) r).1,
      mvdV p nt t c + (rowV t (endV p wk time a c left) (1 + c) (leftV p wk t c left) r).2.1,
      goV p wk a c left + (rowV t (endV p wk time a c left) (1 + c) (leftV p wk t c left) r).2.2)
def stV (t : Nat) : Int := if p 44 t = 0 then (nw : Int) else if p 44 t = 3 then (p 46 t).toInt
  else max (if p 44 t = 1 then (p 46 t).toInt else (nw : Int)) (p 33 (7 * wk + (p 45 t).toNatClampNeg)).toInt + (p 35 (7 * wk + (p 45 t).toNatClampNeg)).toInt
def teamV (t : Nat) (row : List Nat) : Int × Int × Int := rowV p nt wk t (stV p wk nw t) (p 48 t).toNatClampNeg (p 47 t).toInt row
def planV (rows : Nat → List Nat) : Nat → Int × Int × Int
  | 0 => (0, 0, 0)
  | t + 1 => ((planV rows t).1 + (teamV p nt wk nw t (rows t)).1, (planV rows t).2.1 + (teamV p nt wk nw t (rows t)).2.1, (planV rows t).2.2 + (teamV p nt wk nw t (rows t)).2.2)
/-- a plan: every open job in just one row -/
def isPlan (rows : Nat → List Nat) : Prop := ((List.range nt).flatMap rows).Perm (tdL p nc wk)
/-- the order in which plans are looked at: row by row, a row's end (7) behind all cottages -/
def encP (rows : Nat → List Nat) : List Nat := (List.range nt).flatMap (fun t => rows t ++ [7])
def lexT (a b : Int × Int × Int) : Prop := a.1 < b.1 ∨ (a.1 = b.1 ∧ (a.2.1 < b.2.1 ∨ (a.2.1 = b.2.1 ∧ a.2.2 < b.2.2)))
def lexL : List Nat → List Nat → Prop
  | [], _ => True
  | _ :: _, [] => False
  | a :: r, b :: s => a < b ∨ (a = b ∧ lexL r s)
def isBest (rows : Nat → List Nat) : Prop := isPlan p nt nc wk rows ∧ (∀ t, nt ≤ t → rows t = []) ∧ ∀ rows', isPlan p nt nc wk rows' → lexT (planV p nt wk nw rows nt) (planV p nt wk nw rows' nt) ∨ (planV p nt wk nw rows nt = planV p nt wk nw rows' nt ∧ lexL (encP nt rows) (encP nt rows'))
end PLAN
/-- a row in seven octal digits, 7 its end -/
def octR (td row : List Nat) : Nat → Nat
  | 0 => 0
  | n + 1 => (match row with
    | [] => 7
    | c :: _ => td.idxOf c) * 8 ^ n + octR td row.tail n
def packV (v : Int × Int × Int) : Int := v.1 * 65536 + v.2.1 * 4096 + v.2.2
/-- the planner's cache -/
def IPl (M : Mem) (ad : Nat → Nat → Nat) (φ : VI) (ψ : VJ) (nb nt nc wk nw : Nat) (op : Bool) : Prop := φ 0 7 19 = 0 ∨ (φ 0 7 19 = 1 ∧ (op = true →
  (φ 0 7 2 = nI (tdL (ppv φ) nc wk).length ∧ φ 0 7 4 = nI nt) ∧
  (∀ k c, (tdL (ppv φ) nc wk)[k]? = some c → ∃ b, b < nb ∧ hJ φ wk op b ∧ jAt φ b (7 * wk + c) ∧ mR M (ad 0 17) k = some (ad 6 b)) ∧
  ((tdL (ppv φ) nc wk = [] ∨ 0 < nt) → ∃ rows, isBest (ppv φ) nt nc wk nw rows ∧ (ψ 0 7 17).toInt = packV (planV (ppv φ) nt wk nw rows nt) ∧ ∀ t, t < 3 → φ 0 30 t = nI (octR (tdL (ppv φ) nc wk) (rows t) 7))))
theorem IPl.congr {M : Mem} {ad : Nat → Nat → Nat} {φ φ' : VI} {ψ ψ' : VJ} {nb nt nc wk nw : Nat} {op : Bool} {f : Nat → Nat → Int32} {g : Nat → Nat → Int64} (h : IPl M ad φ ψ nb nt nc wk nw op) (e : eJ nb φ φ') (e9 : ∀ i k, ppS i = true → φ' 9 i k = φ 9 i k) (e0 : φ' 10 0 31 = φ 10 0 31 ∧ φ' 0 7 19 = φ 0 7 19 ∧ φ' 0 7 2 = φ 0 7 2 ∧ φ' 0 7 4 = φ 0 7 4 ∧ ∀ t, φ' 0 30 t = φ 0 30 t) (ej : ψ' 0 7 17 = ψ 0 7 17) : IPl (mm M f g) ad φ' ψ' nb nt nc wk nw op := by
  unfold IPl at *
  rw [ppv_congr e9 e0.1, e0.2.1, e0.2.2.1, e0.2.2.2.1, ej]
  rcases h with h | ⟨h1, h2⟩
  · exact Or.inl h
  · refine Or.inr ⟨h1, fun ho => ?_⟩
    obtain ⟨g1, g2, g3⟩ := h2 ho
    refine ⟨g1, fun k c hk => ?_, fun q => ?_⟩
    · obtain ⟨b, hb, q1, q2, q3⟩ := g2 k c hk
      exact ⟨b, hb, (hJ.congr e hb).mpr q1, (jAt.congr e hb).mpr q2, q3⟩
    · obtain ⟨rows, q1, q2, q3⟩ := g3 q
      exact ⟨rows, q1, q2, fun t ht => by rw [e0.2.2.2.2 t]; exact q3 t ht⟩
/-- what else is kept -/
def IXt (φ : VI) (nb nx ne nk kd wk : Nat) : Prop := ne = nk + kd ∧ (∀ b, nb ≤ b → b < 60 → φ 9 11 b = 0 ∧ φ 9 13 b = 0 ∧ φ 9 16 b = 0) ∧
  (∀ i, i < nx → (∃ k, k ≤ wk ∧ φ 9 79 i = nI k) ∧ ∃ n, n ≤ 120 ∧ φ 7 i 1 = nI n ∧ okT (φ 8 i) n) ∧
  (∀ j, j < 364 → φ 9 41 j = 0 ∨ ∃ i fr, i < nx ∧ φ 9 78 i = nI fr ∧ fr ≤ 51 ∧ 7 * fr ≤ j) ∧ ∀ a b, a < nb → b < nb → φ 9 16 a = 1 → φ 9 16 b = 1 → φ 9 12 a = φ 9 12 b → a = b
theorem IXt.congr {φ φ' : VI} {nb nx ne nk kd wk : Nat} (h : IXt φ nb nx ne nk kd wk) (e : ∀ t i k, (t = 9 ∧ nb ≤ k ∧ (i = 11 ∨ i = 13 ∨ i = 16)) ∨ (t = 9 ∧ k < nb ∧ (i = 12 ∨ i = 16)) ∨ (t = 9 ∧ (i = 78 ∨ i = 79 ∨ i = 41)) ∨ (t = 7 ∧ i < nx ∧ k = 1) ∨ (t = 8 ∧ i < nx) → φ' t i k = φ t i k) : IXt φ' nb nx ne nk kd wk := by
  obtain ⟨h1, h2, h3, h4, h5⟩ := h
  refine ⟨h1, fun b hb hb2 => ?_, fun i hi => ?_, fun j hj => ?_, fun a b ha hb => ?_⟩
  · rw [e 9 11 b (by omega), e 9 13 b (by omega), e 9 16 b (by omega)]
    exact h2 b hb hb2
  · obtain ⟨g1, n, g2, g3, g4⟩ := h3 i hi
    rw [e 9 79 i (by omega)]
    refine ⟨g1, n, g2, by rw [e 7 i 1 (by omega)]; exact g3, g4.congr (fun k hk => e 8 i k (by omega))⟩
  · rw [e 9 41 j (by omega)]
    rcases h4 j hj with q | ⟨i, fr, q1, q2, q3⟩
    · exact Or.inl q
    · exact Or.inr ⟨i, fr, q1, by rw [e 9 78 i (by omega)]; exact q2, q3⟩
  · rw [e 9 16 a (by omega), e 9 16 b (by omega), e 9 12 a (by omega), e 9 12 b (by omega)]
    exact h5 a b ha hb
/-- all of it, with its numbers -/
def WI (M : Mem) (ad : Nat → Nat → Nat) (nc nb nt wk nw nx nl ne nk kd : Nat) (op : Bool) : Prop :=
  Inj ad ∧ (Fx M ad ∧ Mx M ad ∧ Cs M ad nc ∧ Bs M ad nb ∧ Ts M ad nt ∧ Xs M ad nx) ∧
  (ISc (vw ad (mI M)) nc nb nt wk nw op ∧ ICo (vw ad (mI M)) (vw ad (mJ M)) nc ∧ IBk (vw ad (mI M)) nb nc wk op ∧ IRd (vw ad (mI M)) ∧ ILa (vw ad (mI M)) wk op ∧ ITm (vw ad (mI M)) nt nc) ∧
  (IJo (vw ad (mI M)) nb nt wk op ∧ IJr M ad (vw ad (mI M)) nb nc wk op ∧ IBo (vw ad (mI M)) ne nk nb nc ∧ ITx (vw ad (mI M)) nx ∧ ILn M ad (vw ad (mI M)) nl nb wk op) ∧
  ILo (vw ad (mI M)) nb wk ∧ ICd (vw ad (mI M)) (vw ad (mJ M)) kd nb nc ∧ IDy (vw ad (mI M)) nt nc wk nw op ∧ IPl M ad (vw ad (mI M)) (vw ad (mJ M)) nb nt nc wk nw op ∧ IXt (vw ad (mI M)) nb nx ne nk kd wk
def II (x o u : Nat) (sc : Nat × Nat × (Nat → Int32)) (M : Mem) : Prop := mSc M = sc ∧ ∃ (ad : Nat → Nat → Nat) (nc nb nt wk nw nx nl ne nk kd : Nat) (op : Bool), ad 0 0 = x ∧ ad 10 0 = o ∧ ad 0 40 = u ∧ WI M ad nc nb nt wk nw nx nl ne nk kd op
