/-! texts: the parser, as mathematics; where it stops is the first fault -/
abbrev PR : Type := Nat ⊕ (Int64 × Nat)
def bdV (v : Int64) : Int64 := if v < -1000000000 then -1000000000 else if 1000000000 < v then 1000000000 else v
def dvV (a b : Int64) : Int64 := if b = 0 then 0 else a / b
def isSg (x : Int32) : Bool := x == 61 || x == 60 || x == 62
def cmpV (x : Int32) (a b : Int64) : Bool := if x = 61 then decide (a = b) else if x = 60 then decide (a < b) else decide (b < a)
section PARSE
variable (t : Nat → Int32) (L : Nat) (lv : Int32 → Int64)
/-- behind blanks -/
def skN : Nat → Nat → Nat
  | 0, i => i
  | m + 1, i => if t i = 32 then skN m (i + 1) else i
def sk (i : Nat) : Nat := skN t (L - i) i
def numN : Nat → Nat → Int64 → Nat → PR
  | 0, _, v, i => .inr (v, i)
  | m + 1, c, v, i => if i < L ∧ isDg (t i) = true then (if c = 4 then .inl i else numN m (c + 1) (10 * v + (t i).toInt64 - 48) (i + 1)) else .inr (v, i)
def atomM (paren : Nat → PR) (i : Nat) : PR :=
  if sk t L i < L ∧ isLt (t (sk t L i)) = true then .inr (lv (t (sk t L i)), sk t L i + 1)
  else if sk t L i < L ∧ t (sk t L i) = 40 then paren (sk t L i)
  else if sk t L i < L ∧ isDg (t (sk t L i)) = true then numN t L 5 0 0 (sk t L i)
  else .inl (sk t L i)
def prodL (paren : Nat → PR) : Nat → Int64 → Nat → PR
  | 0, v, i => .inr (v, sk t L i)
  | m + 1, v, i => if sk t L i < L ∧ (t (sk t L i) = 42 ∨ t (sk t L i) = 47) then
      (match atomM t L lv paren (sk t L i + 1) with
      | .inl e => .inl e
      | .inr (w, k) => prodL paren m (bdV (if t (sk t L i) = 42 then v * w else dvV v w)) k)
    else .inr (v, sk t L i)
def prodM (paren : Nat → PR) (i : Nat) : PR := match atomM t L lv paren i with
  | .inl e => .inl e
  | .inr (v, k) => prodL t L lv paren (L + 1) v k
def sumL (paren : Nat → PR) : Nat → Int64 → Nat → PR
  | 0, v, i => .inr (v, sk t L i)
  | m + 1, v, i => if sk t L i < L ∧ (t (sk t L i) = 43 ∨ t (sk t L i) = 45) then
      (match prodM t L lv paren (sk t L i + 1) with
      | .inl e => .inl e
      | .inr (w, k) => sumL paren m (bdV (if t (sk t L i) = 43 then v + w else v - w)) k)
    else .inr (v, sk t L i)
def sumM (paren : Nat → PR) (i : Nat) : PR := match prodM t L lv paren i with
  | .inl e => .inl e
  | .inr (v, k) => sumL t L lv paren (L + 1) v k
def parR : Nat → Nat → PR
  | 0, j => .inl j
  | r + 1, j => match sumM t L lv (parR r) (j + 1) with
    | .inl e => .inl e
    | .inr (v, k) => if sk t L k < L ∧ t (sk t L k) = 41 then .inr (v, sk t L k + 1) else .inl (sk t L k)
def tstL : Nat → Bool → Nat → Nat ⊕ (Bool × Nat)
  | 0, all, i => .inr (all, sk t L i)
  | m + 1, all, i => if sk t L i < L ∧ t (sk t L i) = 38 then
      (match sumM t L lv (parR t L lv 6) (sk t L i + 1) with
      | .inl e => .inl e
      | .inr (v, k) => if sk t L k < L ∧ isSg (t (sk t L k)) = true then
          (match sumM t L lv (parR t L lv 6) (sk t L k + 1) with
          | .inl e => .inl e
          | .inr (w, k2) => tstL m (all && cmpV (t (sk t L k)) v w) k2)
        else .inl (sk t L k))
    else .inr (all, sk t L i)
def clsM (i : Nat) : Nat ⊕ (Bool × Int64 × Nat) := match sumM t L lv (parR t L lv 6) i with
  | .inl e => .inl e
  | .inr (v, k) => if sk t L k < L ∧ isSg (t (sk t L k)) = true then
      (match sumM t L lv (parR t L lv 6) (sk t L k + 1) with
      | .inl e => .inl e
      | .inr (w, k2) => match tstL t L lv (L + 1) (cmpV (t (sk t L k)) v w) k2 with
        | .inl e => .inl e
        | .inr (all, j) => if sk t L j < L ∧ t (sk t L j) = 63 then
            (match sumM t L lv (parR t L lv 6) (sk t L j + 1) with
            | .inl e => .inl e
            | .inr (v', k3) => .inr (all, v', k3))
          else .inl (sk t L j))
    else .inr (true, v, k)
def thrL : Nat → Option Int64 → Nat → Nat ⊕ Option Int64
  | 0, p, _ => .inr p
  | m + 1, p, i => if sk t L i < L then (if t (sk t L i) = 59 then
      (match clsM t L lv (sk t L i + 1) with
      | .inl e => .inl e
      | .inr (all, v, k) => thrL m (match p with | some a => some a | none => if all = true then some v else none) k)
      else .inl (sk t L i)) else .inr p
def thrM : Nat ⊕ Option Int64 := match clsM t L lv 0 with
  | .inl e => .inl e
  | .inr (all, v, k) => thrL t L lv (L + 1) (if all = true then some v else none) k
/-- the first fault from a place and a state on -/
def fl (i : Nat) (s : TSt) : Option Nat := flt t i (L - i) s
end PARSE
section PARSE2
variable {t : Nat → Int32} {L : Nat} {lv : Int32 → Int64}
theorem skN_ge : ∀ m i, i ≤ skN t m i ∧ skN t m i ≤ i + m
  | 0, i => ⟨Nat.le_refl _, Nat.le_refl _⟩
  | m + 1, i => by
    rw [skN]
    split
    · have := skN_ge m (i + 1); omega
    · omega
theorem sk_ge {i : Nat} (h : i ≤ L) : i ≤ sk t L i ∧ sk t L i ≤ L := by
  have := skN_ge (t := t) (L - i) i
  unfold sk
  omega
theorem skN_nb : ∀ m i, skN t m i < i + m → ¬ t (skN t m i) = 32
  | 0, i, h => by rw [skN] at h; omega
  | m + 1, i, h => by
    rw [skN] at h ⊢
    split
    · rename_i c; rw [if_pos c] at h; exact skN_nb m (i + 1) (by omega)
    · assumption
theorem sk_nb {i : Nat} (hi : i ≤ L) (h : sk t L i < L) : ¬ t (sk t L i) = 32 := skN_nb _ _ (by unfold sk at h; omega)
theorem sk_sk {i : Nat} (hi : i ≤ L) : sk t L (sk t L i) = sk t L i := by
  obtain ⟨h1, h2⟩ := sk_ge (t := t) hi
  by_cases c : sk t L i < L
  · have hb := sk_nb hi c
    obtain ⟨m, hm⟩ : ∃ m, L - sk t L i = m + 1 := ⟨L - sk t L i - 1, by omega⟩
    show skN t (L - sk t L i) (sk t L i) = sk t L i
    rw [hm, skN, if_neg hb]
  · have e : sk t L i = L := by omega
    rw [e]; unfold sk; rw [Nat.sub_self]; rfl
theorem fl_end {s : TSt} : fl t L L s = if tEnd s = true then none else some L := by unfold fl; rw [Nat.sub_self]; rfl
theorem fl_step {i : Nat} {s : TSt} (h : i < L) : fl t L i s = match tStep s (t i) with | none => some i | some s' => fl t L (i + 1) s' := by
  unfold fl
  obtain ⟨m, hm⟩ : ∃ m, L - i = m + 1 := ⟨L - i - 1, by omega⟩
  rw [hm, flt, show L - (i + 1) = m by omega]
  cases tStep s (t i) <;> rfl
theorem tS_bl (p dp dg : Nat) (b : Bool) : tStep (p, dp, dg, b) 32 = some (p, dp, 0, b) := by
  unfold tStep
  rw [if_neg (fun z => absurd z.1 (by decide)), if_pos rfl]
theorem fl_skN {p dp : Nat} {b : Bool} : ∀ m i, i + m = L → fl t L i (p, dp, 0, b) = fl t L (skN t m i) (p, dp, 0, b)
  | 0, i, _ => rfl
  | m + 1, i, h => by
    rw [skN]
    by_cases c : t i = 32
    · rw [if_pos c, fl_step (by omega), c, tS_bl]
      exact fl_skN m (i + 1) (by omega)
    · rw [if_neg c]
theorem fl_sk {p dp i : Nat} {b : Bool} (hi : i ≤ L) : fl t L i (p, dp, 0, b) = fl t L (sk t L i) (p, dp, 0, b) := fl_skN _ _ (by omega)
theorem isDg_ne {x : Int32} (h : isDg x = true) : ¬ x = 32 ∧ ¬ x = 40 ∧ ¬ x = 41 ∧ ¬ x = 42 ∧ ¬ x = 43 ∧ ¬ x = 45 ∧ ¬ x = 47 ∧ ¬ x = 61 ∧ ¬ x = 60 ∧ ¬ x = 62 ∧ ¬ x = 38 ∧ ¬ x = 63 ∧ ¬ x = 59 := by
  refine ⟨?_, ?_, ?_, ?_, ?_, ?_, ?_, ?_, ?_, ?_, ?_, ?_, ?_⟩ <;> (rintro rfl; exact absurd h (by decide))
theorem isLt_ne {x : Int32} (h : isLt x = true) : isDg x = false ∧ ¬ x = 32 ∧ ¬ x = 40 := by
  simp only [isLt, Bool.or_eq_true, beq_iff_eq] at h
  rcases h with ((((h | h) | h) | h) | h) | h <;> subst h <;> decide
/-- a sign that no atom can begin with or be followed by: the state machine stops -/
theorem tS_f0 {p dp dg : Nat} {x : Int32} (h1 : isDg x = false ∨ dg = 0 ∨ 4 ≤ dg) (h32 : ¬ x = 32) (hop : ¬ (x = 43 ∨ x = 45 ∨ x = 42 ∨ x = 47)) (h41 : ¬ (0 < dp ∧ x = 41)) (hb : 0 < dp ∨ pBh p x = none) : tStep (p, dp, dg, false) x = none := by
  unfold tStep
  rw [if_neg (fun z => by rcases h1 with q | q | q; (rw [z.1] at q; cases q); (have := z.2; simp at this; omega); (have := z.2; simp at this; omega)), if_neg h32]
  simp only [Bool.false_eq_true, if_false]
  rw [if_neg h41, if_neg hop]
  rcases hb with q | q
  · rw [if_pos q]
  · by_cases c : 0 < dp
    · rw [if_pos c]
    · rw [if_neg c, q]
theorem tS_op {p dp : Nat} {x : Int32} (h : x = 43 ∨ x = 45 ∨ x = 42 ∨ x = 47) : tStep (p, dp, 0, false) x = some (p, dp, 0, true) := by
  unfold tStep
  have hd : isDg x = false ∧ ¬ x = 32 ∧ ¬ x = 41 := by rcases h with h | h | h | h <;> subst h <;> decide
  rw [if_neg (fun z => by rw [hd.1] at z; cases z.1), if_neg hd.2.1]
  simp only [Bool.false_eq_true, if_false]
  rw [if_neg (fun z => hd.2.2 z.2), if_pos h]
theorem pBh_dg {p : Nat} {x : Int32} (h : isDg x = true) : pBh p x = none := by
  obtain ⟨-, -, -, -, -, -, -, h1, h2, h3, h4, h5, h6⟩ := isDg_ne h
  unfold pBh
  rw [if_neg (by rintro (z | z | z); exact h1 z; exact h2 z; exact h3 z), if_neg h4, if_neg h5, if_neg h6]
theorem tS_pb {p q : Nat} {x : Int32} (h : pBh p x = some q) : tStep (p, 0, 0, false) x = some (q, 0, 0, true) := by
  have hd : isDg x = false := by
    cases c : isDg x
    · rfl
    · rw [pBh_dg c] at h; cases h
  have hx : x = 61 ∨ x = 60 ∨ x = 62 ∨ x = 38 ∨ x = 63 ∨ x = 59 := by
    apply Classical.byContradiction
    intro z
    unfold pBh at h
    rw [if_neg (fun y => z (by rcases y with y | y | y <;> simp [y])), if_neg (fun y => z (by simp [y])), if_neg (fun y => z (by simp [y])), if_neg (fun y => z (by simp [y]))] at h
    cases h
  have hn : ¬ x = 32 ∧ ¬ x = 43 ∧ ¬ x = 45 ∧ ¬ x = 42 ∧ ¬ x = 47 := by rcases hx with h | h | h | h | h | h <;> subst h <;> decide
  unfold tStep
  rw [if_neg (fun z => by rw [hd] at z; cases z.1), if_neg hn.1]
  simp only [Bool.false_eq_true, if_false]
  rw [if_neg (fun z => absurd z.1 (by decide)), if_neg (by rintro (z | z | z | z); exact hn.2.1 z; exact hn.2.2.1 z; exact hn.2.2.2.1 z; exact hn.2.2.2.2 z), if_neg (by decide), h]
/-- a number of digits doesn't matter where no digit follows -/
theorem fl_dg {p dp dg k : Nat} (hk : k ≤ L) (h : k < L → isDg (t k) = false ∨ 4 ≤ dg) : fl t L k (p, dp, dg, false) = fl t L k (p, dp, 0, false) := by
  by_cases c : k < L
  · rw [fl_step c, fl_step c]
    have e : tStep (p, dp, dg, false) (t k) = tStep (p, dp, 0, false) (t k) := by
      unfold tStep
      rcases h c with q | q
      · simp [q]
      · simp [show ¬ dg < 4 by omega]
    rw [e]
  · rw [show k = L by omega, fl_end, fl_end]; rfl
theorem num_fl {p dp : Nat} : ∀ (m c i : Nat) (v : Int64), m + c = 5 → 0 < c → i ≤ L → (∀ e, numN t L m c v i = .inl e → fl t L i (p, dp, c, false) = some e) ∧ ∀ w k, numN t L m c v i = .inr (w, k) → i ≤ k ∧ k ≤ L ∧ fl t L i (p, dp, c, false) = fl t L k (p, dp, 0, false)
  | 0, c, i, v, h, _, hi => by
    rw [numN]
    refine ⟨fun e he => (by cases he), fun w k he => ?_⟩
    cases he
    exact ⟨Nat.le_refl _, hi, fl_dg hi (fun _ => Or.inr (by omega))⟩
  | m + 1, c, i, v, h, hc, hi => by
    rw [numN]
    by_cases q : i < L ∧ isDg (t i) = true
    · rw [if_pos q]
      by_cases c4 : c = 4
      · rw [if_pos c4]
        refine ⟨fun e he => ?_, fun w k he => by cases he⟩
        cases he
        obtain ⟨n1, n2, n3, n4, n5, n6, n7, -⟩ := isDg_ne q.2
        rw [fl_step q.1, tS_f0 (Or.inr (Or.inr (by omega))) n1 (by rintro (z | z | z | z); exact n5 z; exact n6 z; exact n4 z; exact n7 z) (fun z => n3 z.2) (Or.inr (pBh_dg q.2))]
      · rw [if_neg c4]
        have e : tStep (p, dp, c, false) (t i) = some (p, dp, c + 1, false) := by
          unfold tStep
          rw [if_pos ⟨q.2, Or.inr ⟨hc, by show c < 4; omega⟩⟩]
        have ih := num_fl (p := p) (dp := dp) m (c + 1) (i + 1) (10 * v + (t i).toInt64 - 48) (by omega) (by omega) (by omega)
        rw [fl_step q.1, e]
        exact ⟨ih.1, fun w k hk => by have := ih.2 w k hk; exact ⟨by omega, this.2⟩⟩
    · rw [if_neg q]
      refine ⟨fun e he => (by cases he), fun w k he => ?_⟩
      cases he
      exact ⟨Nat.le_refl _, hi, fl_dg hi (fun z => by cases hq : isDg (t i); exact Or.inl rfl; exact absurd ⟨z, hq⟩ q)⟩
/-- what a parser may bring from a place on, in a part and a depth -/
def Pok (t : Nat → Int32) (L p dp i : Nat) (r : PR) : Prop := (∀ e, r = .inl e → fl t L i (p, dp, 0, true) = some e) ∧ ∀ v k, r = .inr (v, k) → i < k ∧ k ≤ L ∧ fl t L i (p, dp, 0, true) = fl t L k (p, dp, 0, false)
theorem Pok.inl {p dp i e : Nat} (h : fl t L i (p, dp, 0, true) = some e) : Pok t L p dp i (.inl e) := ⟨fun e' he => by cases he; exact h, fun v k he => by cases he⟩
theorem Pok.inr {p dp i k : Nat} {v : Int64} (h1 : i < k) (h2 : k ≤ L) (h : fl t L i (p, dp, 0, true) = fl t L k (p, dp, 0, false)) : Pok t L p dp i (.inr (v, k)) := ⟨fun e he => (by cases he), fun v' k' he => (by cases he; exact ⟨h1, h2, h⟩)⟩
theorem atom_fl {paren : Nat → PR} {p dp i : Nat} (hi : i ≤ L) (hp : ∀ j, j < L → t j = 40 → Pok t L p dp j (paren j)) : Pok t L p dp i (atomM t L lv paren i) := by
  obtain ⟨g1, g2⟩ := sk_ge (t := t) hi
  have hs := fl_sk (t := t) (p := p) (dp := dp) (b := true) hi
  unfold atomM
  by_cases c1 : sk t L i < L ∧ isLt (t (sk t L i)) = true
  · rw [if_pos c1]
    obtain ⟨n1, n2, n3⟩ := isLt_ne c1.2
    refine Pok.inr (by omega) (by omega) ?_
    rw [hs, fl_step c1.1]
    have e : tStep (p, dp, 0, true) (t (sk t L i)) = some (p, dp, 0, false) := by
      unfold tStep
      rw [if_neg (fun z => by rw [n1] at z; cases z.1), if_neg n2]
      simp [n3, c1.2]
    rw [e]
  · rw [if_neg c1]
    by_cases c2 : sk t L i < L ∧ t (sk t L i) = 40
    · rw [if_pos c2]
      have q := hp _ c2.1 c2.2
      exact ⟨fun e he => hs.trans (q.1 e he), fun v k he => ⟨by have := (q.2 v k he).1; omega, (q.2 v k he).2.1, hs.trans (q.2 v k he).2.2⟩⟩
    · rw [if_neg c2]
      by_cases c3 : sk t L i < L ∧ isDg (t (sk t L i)) = true
      · rw [if_pos c3, numN, if_pos c3, if_neg (by decide)]
        have q := num_fl (t := t) (L := L) (p := p) (dp := dp) 4 1 (sk t L i + 1) (10 * 0 + (t (sk t L i)).toInt64 - 48) (by omega) (by omega) (by omega)
        have e : tStep (p, dp, 0, true) (t (sk t L i)) = some (p, dp, 1, false) := by
          unfold tStep
          rw [if_pos ⟨c3.2, Or.inl rfl⟩]
        have hs2 : fl t L i (p, dp, 0, true) = fl t L (sk t L i + 1) (p, dp, 1, false) := by rw [hs, fl_step c3.1, e]
        exact ⟨fun e he => hs2.trans (q.1 e he), fun v k he => ⟨by have := (q.2 v k he).1; omega, (q.2 v k he).2.1, hs2.trans (q.2 v k he).2.2⟩⟩
      · rw [if_neg c3]
        refine Pok.inl ?_
        rw [hs]
        by_cases c4 : sk t L i < L
        · rw [fl_step c4]
          have nd : isDg (t (sk t L i)) = false := by cases h : isDg (t (sk t L i)); rfl; exact absurd ⟨c4, h⟩ c3
          have nl : isLt (t (sk t L i)) = false := by cases h : isLt (t (sk t L i)); rfl; exact absurd ⟨c4, h⟩ c1
          have n4 : ¬ t (sk t L i) = 40 := fun z => c2 ⟨c4, z⟩
          have e : tStep (p, dp, 0, true) (t (sk t L i)) = none := by
            unfold tStep
            rw [if_neg (fun z => by rw [nd] at z; cases z.1), if_neg (sk_nb hi c4)]
            simp [n4, nl]
          rw [e]
        · rw [show sk t L i = L by omega, fl_end]; rfl
/-- behind an atom, a product, a sum: no sign of those that go on -/
def Qok (t : Nat → Int32) (L p dp i : Nat) (bad : Int32 → Prop) (r : PR) : Prop := (∀ e, r = .inl e → fl t L i (p, dp, 0, false) = some e) ∧ ∀ v k, r = .inr (v, k) → i ≤ k ∧ k ≤ L ∧ sk t L k = k ∧ (k < L → ¬ bad (t k)) ∧ fl t L i (p, dp, 0, false) = fl t L k (p, dp, 0, false)
theorem prodL_fl {paren : Nat → PR} {p dp : Nat} (ha : ∀ i, i ≤ L → Pok t L p dp i (atomM t L lv paren i)) : ∀ (m : Nat) (v : Int64) (i : Nat), i ≤ L → L < i + m → Qok t L p dp i (fun x => x = 42 ∨ x = 47) (prodL t L lv paren m v i)
  | 0, v, i, hi, hm => by omega
  | m + 1, v, i, hi, hm => by
    obtain ⟨g1, g2⟩ := sk_ge (t := t) hi
    have hs := fl_sk (t := t) (p := p) (dp := dp) (b := false) hi
    rw [prodL]
    by_cases c : sk t L i < L ∧ (t (sk t L i) = 42 ∨ t (sk t L i) = 47)
    · rw [if_pos c]
      have hs2 : fl t L i (p, dp, 0, false) = fl t L (sk t L i + 1) (p, dp, 0, true) := by rw [hs, fl_step c.1, tS_op (by rcases c.2 with z | z <;> simp [z])]
      have q := ha (sk t L i + 1) (by omega)
      cases hr : atomM t L lv paren (sk t L i + 1) with
      | inl e =>
        rw [hr] at q
        exact ⟨fun e' he => by cases he; exact hs2.trans (q.1 e rfl), fun v k he => by cases he⟩
      | inr w =>
        obtain ⟨w, k⟩ := w
        rw [hr] at q
        obtain ⟨q1, q2, q3⟩ := q.2 w k rfl
        have ih := prodL_fl ha m (bdV (if t (sk t L i) = 42 then v * w else dvV v w)) k q2 (by omega)
        exact ⟨fun e he => hs2.trans (q3.trans (ih.1 e he)), fun v' k' he => by obtain ⟨z1, z2, z3, z4, z5⟩ := ih.2 v' k' he; exact ⟨by omega, z2, z3, z4, hs2.trans (q3.trans z5)⟩⟩
    · rw [if_neg c]
      exact ⟨fun e he => (by cases he), fun v' k' he => (by cases he; exact ⟨g1, g2, sk_sk hi, fun z y => c ⟨z, y⟩, hs⟩)⟩
theorem prodM_fl {paren : Nat → PR} {p dp i : Nat} (hi : i ≤ L) (ha : ∀ i, i ≤ L → Pok t L p dp i (atomM t L lv paren i)) : Pok t L p dp i (prodM t L lv paren i) ∧ ∀ v k, prodM t L lv paren i = .inr (v, k) → sk t L k = k ∧ (k < L → ¬ (t k = 42 ∨ t k = 47)) := by
  unfold prodM
  have q := ha i hi
  cases hr : atomM t L lv paren i with
  | inl e => rw [hr] at q; exact ⟨Pok.inl (q.1 e rfl), fun v k he => by cases he⟩
  | inr w =>
    obtain ⟨v, k⟩ := w
    rw [hr] at q
    obtain ⟨q1, q2, q3⟩ := q.2 v k rfl
    have z := prodL_fl ha (L + 1) v k q2 (by omega)
    exact ⟨⟨fun e he => q3.trans (z.1 e he), fun v' k' he => ⟨by have := (z.2 v' k' he).1; omega, (z.2 v' k' he).2.1, q3.trans (z.2 v' k' he).2.2.2.2⟩⟩, fun v' k' he => ⟨(z.2 v' k' he).2.2.1, (z.2 v' k' he).2.2.2.1⟩⟩
theorem sumL_fl {paren : Nat → PR} {p dp : Nat} (ha : ∀ i, i ≤ L → Pok t L p dp i (atomM t L lv paren i)) : ∀ (m : Nat) (v : Int64) (i : Nat), i ≤ L → L < i + m → sk t L i = i → (i < L → ¬ (t i = 42 ∨ t i = 47)) → Qok t L p dp i (fun x => x = 43 ∨ x = 45 ∨ x = 42 ∨ x = 47) (sumL t L lv paren m v i)
  | 0, v, i, hi, hm, _, _ => by omega
  | m + 1, v, i, hi, hm, he1, he2 => by
    rw [sumL, he1]
    by_cases c : i < L ∧ (t i = 43 ∨ t i = 45)
    · rw [if_pos c]
      have hs2 : fl t L i (p, dp, 0, false) = fl t L (i + 1) (p, dp, 0, true) := by rw [fl_step c.1, tS_op (by rcases c.2 with z | z <;> simp [z])]
      obtain ⟨q, q'⟩ := prodM_fl (i := i + 1) (by omega) ha
      cases hr : prodM t L lv paren (i + 1) with
      | inl e =>
        rw [hr] at q
        exact ⟨fun e' he => by cases he; exact hs2.trans (q.1 e rfl), fun v k he => by cases he⟩
      | inr w =>
        obtain ⟨w, k⟩ := w
        rw [hr] at q
        obtain ⟨q1, q2, q3⟩ := q.2 w k rfl
        obtain ⟨q4, q5⟩ := q' w k hr
        have ih := sumL_fl ha m (bdV (if t i = 43 then v + w else v - w)) k q2 (by omega) q4 q5
        exact ⟨fun e he => hs2.trans (q3.trans (ih.1 e he)), fun v' k' he => by obtain ⟨z1, z2, z3, z4, z5⟩ := ih.2 v' k' he; exact ⟨by omega, z2, z3, z4, hs2.trans (q3.trans z5)⟩⟩
    · rw [if_neg c]
      refine ⟨fun e he => (by cases he), fun v' k' he => ?_⟩
      cases he
      refine ⟨Nat.le_refl _, hi, he1, fun z y => ?_, rfl⟩
      rcases y with y | y | y
      · exact c ⟨z, Or.inl y⟩
      · exact c ⟨z, Or.inr y⟩
      · exact he2 z y
/-- a sum: where it stops, and what can't stand behind it -/
def Sok (t : Nat → Int32) (L p dp i : Nat) (r : PR) : Prop := Pok t L p dp i r ∧ ∀ v k, r = .inr (v, k) → sk t L k = k ∧ (k < L → ¬ t k = 32 ∧ ¬ (t k = 43 ∨ t k = 45 ∨ t k = 42 ∨ t k = 47))
theorem sumM_fl {paren : Nat → PR} {p dp i : Nat} (hi : i ≤ L) (hp : ∀ j, j < L → t j = 40 → Pok t L p dp j (paren j)) : Sok t L p dp i (sumM t L lv paren i) := by
  have ha : ∀ i, i ≤ L → Pok t L p dp i (atomM t L lv paren i) := fun i hi => atom_fl hi hp
  unfold sumM
  obtain ⟨q, q'⟩ := prodM_fl hi ha
  cases hr : prodM t L lv paren i with
  | inl e => rw [hr] at q; exact ⟨Pok.inl (q.1 e rfl), fun v k he => by cases he⟩
  | inr w =>
    obtain ⟨v, k⟩ := w
    rw [hr] at q
    obtain ⟨q1, q2, q3⟩ := q.2 v k rfl
    obtain ⟨q4, q5⟩ := q' v k hr
    have z := sumL_fl ha (L + 1) v k q2 (by omega) q4 q5
    refine ⟨⟨fun e he => q3.trans (z.1 e he), fun v' k' he => ⟨by have := (z.2 v' k' he).1; omega, (z.2 v' k' he).2.1, q3.trans (z.2 v' k' he).2.2.2.2⟩⟩, fun v' k' he => ⟨(z.2 v' k' he).2.2.1, fun hl => ⟨?_, (z.2 v' k' he).2.2.2.1 hl⟩⟩⟩
    obtain ⟨-, y2, y3, -, -⟩ := z.2 v' k' he
    have := sk_nb (t := t) y2 (by rw [y3]; exact hl)
    rwa [y3] at this
theorem parR_fl {p : Nat} : ∀ (r dp : Nat), r + dp = 6 → ∀ j, j < L → t j = 40 → Pok t L p dp j (parR t L lv r j)
  | 0, dp, h, j, hj, ht => by
    rw [parR]
    refine Pok.inl ?_
    rw [fl_step hj, ht]
    have e : tStep (p, dp, 0, true) 40 = none := by
      unfold tStep
      rw [if_neg (fun z => absurd z.1 (by decide)), if_neg (by decide)]
      simp [show ¬ dp < 6 by omega, show isLt 40 = false by decide]
    rw [e]
  | r + 1, dp, h, j, hj, ht => by
    rw [parR]
    have e : tStep (p, dp, 0, true) 40 = some (p, dp + 1, 0, true) := by
      unfold tStep
      rw [if_neg (fun z => absurd z.1 (by decide)), if_neg (by decide)]
      simp [show dp < 6 by omega]
    have hs : fl t L j (p, dp, 0, true) = fl t L (j + 1) (p, dp + 1, 0, true) := by rw [fl_step hj, ht, e]
    obtain ⟨q, q'⟩ := sumM_fl (lv := lv) (p := p) (dp := dp + 1) (i := j + 1) (by omega) (parR_fl r (dp + 1) (by omega))
    cases hr : sumM t L lv (parR t L lv r) (j + 1) with
    | inl e => rw [hr] at q; exact Pok.inl (hs.trans (q.1 e rfl))
    | inr w =>
      obtain ⟨v, k⟩ := w
      rw [hr] at q
      obtain ⟨q1, q2, q3⟩ := q.2 v k rfl
      obtain ⟨q4, q5⟩ := q' v k hr
      show Pok t L p dp j (if sk t L k < L ∧ t (sk t L k) = 41 then .inr (v, sk t L k + 1) else .inl (sk t L k))
      rw [q4]
      by_cases c : k < L ∧ t k = 41
      · rw [if_pos c]
        refine Pok.inr (by omega) (by omega) ?_
        have e2 : tStep (p, dp + 1, 0, false) 41 = some (p, dp, 0, false) := by
          unfold tStep
          rw [if_neg (fun z => absurd z.1 (by decide)), if_neg (by decide)]
          simp
        rw [hs, q3, fl_step c.1, c.2, e2]
      · rw [if_neg c]
        refine Pok.inl ?_
        rw [hs, q3]
        by_cases c2 : k < L
        · rw [fl_step c2, tS_f0 (Or.inr (Or.inl rfl)) (q5 c2).1 (q5 c2).2 (fun z => c ⟨c2, z.2⟩) (Or.inl (by omega))]
        · rw [show k = L by omega, fl_end]; simp [tEnd]
theorem sum6_fl {p i : Nat} (hi : i ≤ L) : Sok t L p 0 i (sumM t L lv (parR t L lv 6) i) := sumM_fl hi (parR_fl 6 0 (by omega))
/-- behind a sum outside brackets: no sign that goes on there is a fault -/
theorem fl_no {p k : Nat} (hk : k ≤ L) (h5 : k < L → ¬ t k = 32 ∧ ¬ (t k = 43 ∨ t k = 45 ∨ t k = 42 ∨ t k = 47)) (hb : k < L → pBh p (t k) = none) (he : k = L → tEnd (p, 0, 0, false) = false) : fl t L k (p, 0, 0, false) = some k := by
  by_cases c : k < L
  · rw [fl_step c, tS_f0 (Or.inr (Or.inl rfl)) (h5 c).1 (h5 c).2 (fun z => absurd z.1 (by decide)) (Or.inr (hb c))]
  · have e : k = L := by omega
    have := he e
    rw [e, fl_end, ← e, this]; rfl
theorem isSg_is {x : Int32} : isSg x = true ↔ (x = 61 ∨ x = 60 ∨ x = 62) := by simp [isSg, or_assoc]
theorem pBh_sg {p : Nat} {x : Int32} (h : isSg x = true) (hp : p = 0 ∨ p = 2) : pBh p x = some 1 := by
  unfold pBh; rw [if_pos (isSg_is.mp h), if_pos hp]
theorem tst_fl : ∀ (m : Nat) (all : Bool) (i : Nat), i ≤ L → L < i + m → sk t L i = i → (i < L → ¬ t i = 32 ∧ ¬ (t i = 43 ∨ t i = 45 ∨ t i = 42 ∨ t i = 47)) → (∀ e, tstL t L lv m all i = .inl e → fl t L i (1, 0, 0, false) = some e) ∧ ∀ b k, tstL t L lv m all i = .inr (b, k) → i ≤ k ∧ k ≤ L ∧ sk t L k = k ∧ (k < L → ¬ t k = 38 ∧ ¬ t k = 32 ∧ ¬ (t k = 43 ∨ t k = 45 ∨ t k = 42 ∨ t k = 47)) ∧ fl t L i (1, 0, 0, false) = fl t L k (1, 0, 0, false)
  | 0, all, i, hi, hm, _, _ => by omega
  | m + 1, all, i, hi, hm, he1, he2 => by
    rw [tstL, he1]
    by_cases c : i < L ∧ t i = 38
    · rw [if_pos c]
      have hs2 : fl t L i (1, 0, 0, false) = fl t L (i + 1) (2, 0, 0, true) := by rw [fl_step c.1, tS_pb (q := 2) (by rw [c.2]; decide)]
      obtain ⟨q, q'⟩ := sum6_fl (t := t) (L := L) (lv := lv) (p := 2) (i := i + 1) (by omega)
      cases hr : sumM t L lv (parR t L lv 6) (i + 1) with
      | inl e =>
        rw [hr] at q
        exact ⟨fun e' he => by cases he; exact hs2.trans (q.1 e rfl), fun v k he => by cases he⟩
      | inr w =>
        obtain ⟨v, k⟩ := w
        rw [hr] at q
        obtain ⟨q1, q2, q3⟩ := q.2 v k rfl
        obtain ⟨q4, q5⟩ := q' v k hr
        simp only []
        rw [q4]
        by_cases c2 : k < L ∧ isSg (t k) = true
        · rw [if_pos c2]
          have hs3 : fl t L k (2, 0, 0, false) = fl t L (k + 1) (1, 0, 0, true) := by rw [fl_step c2.1, tS_pb (q := 1) (pBh_sg c2.2 (Or.inr rfl))]
          obtain ⟨z, z'⟩ := sum6_fl (t := t) (L := L) (lv := lv) (p := 1) (i := k + 1) (by omega)
          cases hr2 : sumM t L lv (parR t L lv 6) (k + 1) with
          | inl e =>
            rw [hr2] at z
            exact ⟨fun e' he => by cases he; exact hs2.trans (q3.trans (hs3.trans (z.1 e rfl))), fun v k he => by cases he⟩
          | inr w =>
            obtain ⟨w, k2⟩ := w
            rw [hr2] at z
            obtain ⟨z1, z2, z3⟩ := z.2 w k2 rfl
            obtain ⟨z4, z5⟩ := z' w k2 hr2
            have ih := tst_fl m (all && cmpV (t k) v w) k2 z2 (by omega) z4 z5
            exact ⟨fun e he => hs2.trans (q3.trans (hs3.trans (z3.trans (ih.1 e he)))), fun b k' he => by obtain ⟨y1, y2, y3, y4, y5⟩ := ih.2 b k' he; exact ⟨by omega, y2, y3, y4, hs2.trans (q3.trans (hs3.trans (z3.trans y5)))⟩⟩
        · rw [if_neg c2]
          refine ⟨fun e he => ?_, fun b k' he => by cases he⟩
          cases he
          refine hs2.trans (q3.trans (fl_no q2 q5 (fun hl => ?_) (fun _ => rfl)))
          unfold pBh
          rw [if_neg (fun y => c2 ⟨hl, isSg_is.mpr y⟩)]
          simp
    · rw [if_neg c]
      refine ⟨fun e he => (by cases he), fun b k' he => ?_⟩
      cases he
      exact ⟨Nat.le_refl _, hi, he1, fun hl => ⟨fun y => c ⟨hl, y⟩, he2 hl⟩, rfl⟩
theorem cls_fl {i : Nat} (hi : i ≤ L) : (∀ e, clsM t L lv i = .inl e → fl t L i (0, 0, 0, true) = some e) ∧ ∀ b v k, clsM t L lv i = .inr (b, v, k) → i < k ∧ k ≤ L ∧ sk t L k = k ∧ ∃ p, (p = 0 ∨ p = 3) ∧ (k < L → (p = 0 → isSg (t k) = false) ∧ ¬ t k = 32 ∧ ¬ (t k = 43 ∨ t k = 45 ∨ t k = 42 ∨ t k = 47)) ∧ fl t L i (0, 0, 0, true) = fl t L k (p, 0, 0, false) := by
  unfold clsM
  obtain ⟨q, q'⟩ := sum6_fl (t := t) (L := L) (lv := lv) (p := 0) hi
  cases hr : sumM t L lv (parR t L lv 6) i with
  | inl e =>
    rw [hr] at q
    exact ⟨fun e' he => by cases he; exact q.1 e rfl, fun b v k he => by cases he⟩
  | inr w =>
    obtain ⟨v, k⟩ := w
    rw [hr] at q
    obtain ⟨q1, q2, q3⟩ := q.2 v k rfl
    obtain ⟨q4, q5⟩ := q' v k hr
    simp only []
    rw [q4]
    by_cases c : k < L ∧ isSg (t k) = true
    · rw [if_pos c]
      have hs : fl t L k (0, 0, 0, false) = fl t L (k + 1) (1, 0, 0, true) := by rw [fl_step c.1, tS_pb (q := 1) (pBh_sg c.2 (Or.inl rfl))]
      obtain ⟨z, z'⟩ := sum6_fl (t := t) (L := L) (lv := lv) (p := 1) (i := k + 1) (by omega)
      cases hr2 : sumM t L lv (parR t L lv 6) (k + 1) with
      | inl e =>
        rw [hr2] at z
        exact ⟨fun e' he => by cases he; exact q3.trans (hs.trans (z.1 e rfl)), fun b v k he => by cases he⟩
      | inr w =>
        obtain ⟨w, k2⟩ := w
        rw [hr2] at z
        obtain ⟨z1, z2, z3⟩ := z.2 w k2 rfl
        obtain ⟨z4, z5⟩ := z' w k2 hr2
        have y := tst_fl (t := t) (L := L) (lv := lv) (L + 1) (cmpV (t k) v w) k2 z2 (by omega) z4 z5
        simp only []
        cases hr3 : tstL t L lv (L + 1) (cmpV (t k) v w) k2 with
        | inl e => exact ⟨fun e' he => by cases he; exact q3.trans (hs.trans (z3.trans (y.1 e hr3))), fun b v k he => by cases he⟩
        | inr w =>
          obtain ⟨all, j⟩ := w
          obtain ⟨y1, y2, y3, y4, y5⟩ := y.2 all j hr3
          simp only []
          rw [y3]
          by_cases c2 : j < L ∧ t j = 63
          · rw [if_pos c2]
            have hs3 : fl t L j (1, 0, 0, false) = fl t L (j + 1) (3, 0, 0, true) := by rw [fl_step c2.1, tS_pb (q := 3) (by rw [c2.2]; decide)]
            obtain ⟨x, x'⟩ := sum6_fl (t := t) (L := L) (lv := lv) (p := 3) (i := j + 1) (by omega)
            cases hr4 : sumM t L lv (parR t L lv 6) (j + 1) with
            | inl e =>
              rw [hr4] at x
              exact ⟨fun e' he => by cases he; exact q3.trans (hs.trans (z3.trans (y5.trans (hs3.trans (x.1 e rfl))))), fun b v k he => by cases he⟩
            | inr w =>
              obtain ⟨v', k3⟩ := w
              rw [hr4] at x
              obtain ⟨x1, x2, x3⟩ := x.2 v' k3 rfl
              obtain ⟨x4, x5⟩ := x' v' k3 hr4
              refine ⟨fun e he => (by cases he), fun b v0 k0 he => ?_⟩
              cases he
              exact ⟨by omega, x2, x4, 3, Or.inr rfl, fun hl => ⟨fun z => absurd z (by decide), x5 hl⟩, q3.trans (hs.trans (z3.trans (y5.trans (hs3.trans x3))))⟩
          · rw [if_neg c2]
            refine ⟨fun e he => ?_, fun b v0 k0 he => (by cases he)⟩
            cases he
            refine q3.trans (hs.trans (z3.trans (y5.trans (fl_no y2 (fun hl => (y4 hl).2) (fun hl => ?_) (fun _ => rfl)))))
            unfold pBh
            have c3 : ¬ t j = 63 := fun y => c2 ⟨hl, y⟩
            simp [(y4 hl).1, c3]
    · rw [if_neg c]
      refine ⟨fun e he => (by cases he), fun b v0 k0 he => ?_⟩
      cases he
      exact ⟨q1, q2, q4, 0, Or.inl rfl, fun hl => ⟨fun _ => by cases h : isSg (t k); rfl; exact absurd ⟨hl, h⟩ c, q5 hl⟩, q3⟩
theorem thrL_fl : ∀ (m : Nat) (o : Option Int64) (i p : Nat), i ≤ L → L < i + m → sk t L i = i → (p = 0 ∨ p = 3) → (i < L → (p = 0 → isSg (t i) = false) ∧ ¬ t i = 32 ∧ ¬ (t i = 43 ∨ t i = 45 ∨ t i = 42 ∨ t i = 47)) → (∀ e, thrL t L lv m o i = .inl e → fl t L i (p, 0, 0, false) = some e) ∧ ∀ o', thrL t L lv m o i = .inr o' → fl t L i (p, 0, 0, false) = none
  | 0, o, i, p, hi, hm, _, _, _ => by omega
  | m + 1, o, i, p, hi, hm, he1, hp, he2 => by
    rw [thrL, he1]
    by_cases c : i < L
    · rw [if_pos c]
      by_cases c2 : t i = 59
      · rw [if_pos c2]
        have hs : fl t L i (p, 0, 0, false) = fl t L (i + 1) (0, 0, 0, true) := by rw [fl_step c, tS_pb (q := 0) (by rw [c2]; rcases hp with rfl | rfl <;> decide)]
        have q := cls_fl (t := t) (L := L) (lv := lv) (i := i + 1) (by omega)
        cases hr : clsM t L lv (i + 1) with
        | inl e => exact ⟨fun e' he => by cases he; exact hs.trans (q.1 e hr), fun o' he => by cases he⟩
        | inr w =>
          obtain ⟨b, v, k⟩ := w
          obtain ⟨q1, q2, q3, p', q4, q5, q6⟩ := q.2 b v k hr
          have ih := thrL_fl m (match o with | some a => some a | none => if b = true then some v else none) k p' q2 (by omega) q3 q4 q5
          exact ⟨fun e he => hs.trans (q6.trans (ih.1 e he)), fun o' he => hs.trans (q6.trans (ih.2 o' he))⟩
      · rw [if_neg c2]
        refine ⟨fun e he => ?_, fun o' he => (by cases he)⟩
        cases he
        refine fl_no hi (fun hl => (he2 hl).2) (fun hl => ?_) (fun z => absurd c (by omega))
        unfold pBh
        rcases hp with rfl | rfl
        · have := (he2 hl).1 rfl
          rw [if_neg (fun y => by rw [isSg_is.mpr y] at this; cases this)]
          simp [c2]
        · simp [c2]
    · rw [if_neg c]
      refine ⟨fun e he => (by cases he), fun o' _ => ?_⟩
      rw [show i = L by omega, fl_end]
      rcases hp with rfl | rfl <;> rfl
theorem thr_fl : (∀ e, thrM t L lv = .inl e → flt t 0 L (0, 0, 0, true) = some e) ∧ ∀ o, thrM t L lv = .inr o → flt t 0 L (0, 0, 0, true) = none := by
  have q := cls_fl (t := t) (L := L) (lv := lv) (i := 0) (Nat.zero_le _)
  unfold thrM
  cases hr : clsM t L lv 0 with
  | inl e => exact ⟨fun e' he => by cases he; exact q.1 e hr, fun o' he => by cases he⟩
  | inr w =>
    obtain ⟨b, v, k⟩ := w
    obtain ⟨q1, q2, q3, p', q4, q5, q6⟩ := q.2 b v k hr
    have z := thrL_fl (t := t) (L := L) (lv := lv) (L + 1) (if b = true then some v else none) k p' q2 (by omega) q3 q4 q5
    exact ⟨fun e he => q6.trans (z.1 e he), fun o' he => q6.trans (z.2 o' he)⟩
end PARSE2
