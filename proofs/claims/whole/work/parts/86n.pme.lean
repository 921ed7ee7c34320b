/-! what sharing finds is the best plan -/
/-- the tables of all teams -/
def TBL (p : Nat → Nat → Int32) (nt nc wk nw ceil : Nat) (C Q : Nat → Nat → Nat) : Prop :=
  (∀ t, t < nt → CVd (rcK p nt nc wk nw t) ceil (Rw (tdL p nc wk).length) (C t) (Q t)) ∧ (∀ t, t < 3 → C t 0 = 0 ∧ Q t 0 = octD 7 []) ∧ ∀ t, nt ≤ t → t < 3 → ∀ m, 0 < m → C t m = 2 ^ 60
section
variable {p : Nat → Nat → Int32} {nt nc wk nw ceil : Nat} {C Q : Nat → Nat → Nat} {ξ : Nat → List Nat}
def m3 (ξ : Nat → List Nat) : Nat × Nat × Nat := (mkN (ξ 0), mkN (ξ 1), mkN (ξ 2))
theorem tc3 (nt3 : nt ≤ 3) : tcK p nt nc wk nw ξ nt = (if 0 < nt then rcK p nt nc wk nw 0 (ξ 0) else 0) + (if 1 < nt then rcK p nt nc wk nw 1 (ξ 1) else 0) + (if 2 < nt then rcK p nt nc wk nw 2 (ξ 2) else 0) := by
  have r : nt = 0 ∨ nt = 1 ∨ nt = 2 ∨ nt = 3 := by omega
  rcases r with rfl | rfl | rfl | rfl <;> simp [tcK]
/-- a row against its table -/
theorem TBL.cov (h : TBL p nt nc wk nw ceil C Q) {t : Nat} {x : List Nat} (ht : t < 3) (hx : x.Nodup ∧ ∀ k ∈ x, k < (tdL p nc wk).length) (h0 : nt ≤ t → x = []) (hc : (if t < nt then rcK p nt nc wk nw t x else 0) ≤ ceil) : C t (mkN x) < (if t < nt then rcK p nt nc wk nw t x else 0) ∨ (C t (mkN x) = (if t < nt then rcK p nt nc wk nw t x else 0) ∧ Q t (mkN x) ≤ octD 7 x) := by
  obtain ⟨h1, h2, h3⟩ := h
  by_cases e : x = []
  · subst e
    have r0 : (if t < nt then rcK p nt nc wk nw t [] else 0) = 0 := by
      split
      · rfl
      · rfl
    rw [r0]
    have := h2 t ht
    exact Or.inr ⟨this.1, by show Q t 0 ≤ _; rw [this.2]; exact Nat.le_refl _⟩
  · by_cases z : t < nt
    · rw [if_pos z] at hc ⊢
      exact (h1 t z).2 x ⟨e, hx⟩ hc
    · exact absurd (h0 (by omega)) e
/-- a table's entry is a row -/
theorem TBL.real (h : TBL p nt nc wk nw ceil C Q) {t m : Nat} (ht : t < 3) (hm : C t m < 2 ^ 60) : ∃ x : List Nat, mkN x = m ∧ (x.Nodup ∧ ∀ k ∈ x, k < (tdL p nc wk).length) ∧ (nt ≤ t → x = []) ∧ C t m = (if t < nt then rcK p nt nc wk nw t x else 0) ∧ Q t m = octD 7 x := by
  obtain ⟨h1, h2, h3⟩ := h
  by_cases e : m = 0
  · subst e
    refine ⟨[], rfl, ⟨List.Pairwise.nil, fun k hk => by cases hk⟩, fun _ => rfl, ?_, (h2 t ht).2⟩
    rw [(h2 t ht).1]
    split
    · rfl
    · rfl
  · by_cases z : t < nt
    · rcases (h1 t z).1 m (by omega) with y | ⟨x, x1, x2, x3, x4⟩
      · omega
      · exact ⟨x, x2, x1.2, fun y => absurd y (by omega), by rw [if_pos z]; exact x3, x4⟩
    · have := h3 t (by omega) ht m (by omega)
      omega
theorem PK.in3 {T A : Nat} (nt3 : nt ≤ 3) (hA : 2 ^ T = A + 1) (h : PK nt T ξ) (h0 : ∀ t, nt ≤ t → ξ t = []) : Ws A (A + 1) (m3 ξ) := by
  unfold PK at h
  rw [fmR3 nt3 h0] at h
  have mem : ∀ k, (k ∈ ξ 0 ∨ k ∈ ξ 1 ∨ k ∈ ξ 2) ↔ k < T := fun k => by
    rw [← List.mem_range, ← h.mem_iff, List.mem_append, List.mem_append]
  have nd : (ξ 0 ++ (ξ 1 ++ ξ 2)).Nodup := h.nodup_iff.mpr List.nodup_range
  obtain ⟨n1, n2, n3⟩ := List.nodup_append.mp nd
  obtain ⟨n4, n5, n6⟩ := List.nodup_append.mp n2
  have d01 : ∀ k, k ∈ ξ 0 → ¬ k ∈ ξ 1 := fun k h1 h2 => n3 k h1 k (List.mem_append_left _ h2) rfl
  have d02 : ∀ k, k ∈ ξ 0 → ¬ k ∈ ξ 2 := fun k h1 h2 => n3 k h1 k (List.mem_append_right _ h2) rfl
  have d12 : ∀ k, k ∈ ξ 1 → ¬ k ∈ ξ 2 := fun k h1 h2 => n6 k h1 k h2 rfl
  have At : ∀ k, A.testBit k = decide (k < T) := fun k => by rw [show A = 2 ^ T - 1 by omega]; exact Nat.testBit_two_pow_sub_one T k
  refine ⟨mkN (ξ 0), mkN (ξ 1), ?_, ?_, ?_⟩
  · have := mkN_lt (n := T) (w := ξ 0) (fun k hk => (mem k).mp (Or.inl hk))
    omega
  · apply Nat.eq_of_testBit_eq
    intro k
    rw [Nat.testBit_and, dfN_tb, At, mkN_tb, mkN_tb]
    by_cases z : k ∈ ξ 1
    · have z0 : ¬ k ∈ ξ 0 := fun y => d01 k y z
      have zT : k < T := (mem k).mp (Or.inr (Or.inl z))
      simp [z, z0, zT]
    · simp [z]
  · unfold m3
    have e : mkN (ξ 2) = dfN (dfN A (mkN (ξ 0))) (mkN (ξ 1)) := by
      apply Nat.eq_of_testBit_eq
      intro k
      rw [dfN_tb, dfN_tb, At, mkN_tb, mkN_tb, mkN_tb]
      by_cases z : k ∈ ξ 2
      · have z0 : ¬ k ∈ ξ 0 := fun y => d02 k y z
        have z1 : ¬ k ∈ ξ 1 := fun y => d12 k y z
        have zT : k < T := (mem k).mp (Or.inr (Or.inr z))
        simp [z, z0, z1, zT]
      · by_cases y0 : k ∈ ξ 0
        · simp [z, y0]
        · by_cases y1 : k ∈ ξ 1
          · simp [z, y1]
          · have : ¬ k < T := fun y => by
              rcases (mem k).mpr y with q | q | q
              · exact y0 q
              · exact y1 q
              · exact z q
            simp [z, this]
    rw [e]
theorem Ws_PK {T A : Nat} (nt3 : nt ≤ 3) (hA : 2 ^ T = A + 1) (hn : ∀ t, t < 3 → (ξ t).Nodup ∧ ∀ k ∈ ξ t, k < T) (h0 : ∀ t, nt ≤ t → ξ t = []) (h : Ws A (A + 1) (m3 ξ)) : PK nt T ξ := by
  obtain ⟨F, s, f1, f2, f3⟩ := h
  injection f3 with e0 e12
  injection e12 with e1 e2
  subst e0 e1
  have At : ∀ k, A.testBit k = decide (k < T) := fun k => by rw [show A = 2 ^ T - 1 by omega]; exact Nat.testBit_two_pow_sub_one T k
  have t1 : ∀ k, k ∈ ξ 1 → ¬ k ∈ ξ 0 := fun k h1 h2 => by
    have := congrArg (fun z => z.testBit k) f2
    rw [Nat.testBit_and, dfN_tb, At, mkN_tb, mkN_tb] at this
    simp [h1, h2] at this
  have t2 : ∀ k, k ∈ ξ 2 ↔ (k < T ∧ ¬ k ∈ ξ 0) ∧ ¬ k ∈ ξ 1 := fun k => by
    have := congrArg (fun z => z.testBit k) e2
    rw [dfN_tb, dfN_tb, At, mkN_tb, mkN_tb, mkN_tb] at this
    rw [Bool.eq_iff_iff, decide_eq_true_iff, Bool.and_eq_true, Bool.and_eq_true, decide_eq_true_iff, Bool.not_eq_true', Bool.not_eq_true', decide_eq_false_iff_not, decide_eq_false_iff_not] at this
    exact this
  unfold PK
  rw [fmR3 nt3 h0]
  refine (List.perm_ext_iff_of_nodup ?_ List.nodup_range).mpr (fun k => ?_)
  · refine List.nodup_append.mpr ⟨(hn 0 (by omega)).1, List.nodup_append.mpr ⟨(hn 1 (by omega)).1, (hn 2 (by omega)).1, fun a ha b hb z => ?_⟩, fun a ha b hb z => ?_⟩
    · subst z; exact ((t2 a).mp hb).2 ha
    · subst z
      rcases List.mem_append.mp hb with y | y
      · exact t1 a y ha
      · exact ((t2 a).mp y).1.2 ha
  · rw [List.mem_append, List.mem_append, List.mem_range]
    constructor
    · rintro (y | y | y)
      · exact (hn 0 (by omega)).2 k y
      · exact (hn 1 (by omega)).2 k y
      · exact (hn 2 (by omega)).2 k y
    · intro y
      by_cases z0 : k ∈ ξ 0
      · exact Or.inl z0
      · by_cases z1 : k ∈ ξ 1
        · exact Or.inr (Or.inl z1)
        · exact Or.inr (Or.inr ((t2 k).mpr ⟨⟨y, z0⟩, z1⟩))
def x3 (a b c : List Nat) : Nat → List Nat := fun t => if t = 0 then a else if t = 1 then b else if t = 2 then c else []
theorem class_best {A B : Nat} {y : Int32 × Int32 × Int32} (hP : PW p nt nc wk nw) (nt3 : nt ≤ 3) (hA : 2 ^ (tdL p nc wk).length = A + 1) (hce : ceil < 2 ^ 59) (hT : TBL p nt nc wk nw ceil C Q) (hx : ∃ ξ, PK nt (tdL p nc wk).length ξ ∧ tcK p nt nc wk nw ξ nt ≤ ceil) (hS : SV C Q ceil (Ws A (A + 1)) B y) :
    ∃ ξ, PK nt (tdL p nc wk).length ξ ∧ (∀ t, nt ≤ t → ξ t = []) ∧ (∀ t, (ξ t).length ≤ 7 ∧ ∀ k ∈ ξ t, k < (tdL p nc wk).length) ∧ B = tcK p nt nc wk nw ξ nt ∧ y = n3 (o3 ξ) ∧ isBest p nt nc wk nw (fun t => (ξ t).map (tdK p nc wk)) := by
  have T7 := td_le (p := p) (nc := nc) (wk := wk)
  have nc7 := hP.2.2.2
  have cut : ∀ ξ, PK nt (tdL p nc wk).length ξ → PK nt (tdL p nc wk).length (fun t => if t < nt then ξ t else []) ∧ tcK p nt nc wk nw (fun t => if t < nt then ξ t else []) nt = tcK p nt nc wk nw ξ nt := fun ξ h => by
    refine ⟨?_, ?_⟩
    · unfold PK at h ⊢
      rwa [fm_congr (f := fun t => if t < nt then ξ t else []) (g := ξ) (fun x hx => if_pos (List.mem_range.mp hx))]
    · have : ∀ n, n ≤ nt → tcK p nt nc wk nw (fun t => if t < nt then ξ t else []) n = tcK p nt nc wk nw ξ n := by
        intro n
        induction n with
        | zero => exact fun _ => rfl
        | succ n ih =>
          intro hn
          rw [tcK, tcK, ih (by omega), if_pos (by omega)]
      exact this nt (Nat.le_refl _)
  -- any plan against the tables
  have gen : ∀ ξ', PK nt (tdL p nc wk).length ξ' → (∀ t, nt ≤ t → ξ' t = []) → tcK p nt nc wk nw ξ' nt ≤ ceil → c3 C (m3 ξ') ≤ tcK p nt nc wk nw ξ' nt ∧ (c3 C (m3 ξ') = tcK p nt nc wk nw ξ' nt → le3 (q3 Q (m3 ξ')) (o3 ξ')) := fun ξ' h' z' hc => by
    have rw' : ∀ t, (ξ' t).Nodup ∧ ∀ k ∈ ξ' t, k < (tdL p nc wk).length := fun t => by
      by_cases e : t < nt
      · exact h'.row e
      · rw [z' t (by omega)]; exact ⟨List.Pairwise.nil, fun k hk => by cases hk⟩
    rw [tc3 nt3] at hc ⊢
    have v0 := hT.cov (t := 0) (x := ξ' 0) (by omega) (rw' 0) (z' 0) (by omega)
    have v1 := hT.cov (t := 1) (x := ξ' 1) (by omega) (rw' 1) (z' 1) (by omega)
    have v2 := hT.cov (t := 2) (x := ξ' 2) (by omega) (rw' 2) (z' 2) (by omega)
    unfold c3 m3 le3 q3 o3
    simp only
    omega
  obtain ⟨ξ0, p0, p1⟩ := hx
  obtain ⟨p2, p3⟩ := cut ξ0 p0
  rw [← p3] at p1
  have z0 : ∀ t, nt ≤ t → (fun t => if t < nt then ξ0 t else []) t = [] := fun t ht => if_neg (by omega)
  have g0 := gen _ p2 z0 p1
  have Bc : B ≤ ceil := by
    rcases hS.2.2 _ (p2.in3 nt3 hA z0) with q | q
    · omega
    · omega
  obtain ⟨τ, t1, t2, t3, t4⟩ := hS.2.1 Bc
  have cτ : c3 C τ ≤ ceil := by omega
  unfold c3 at cτ t2
  obtain ⟨a, a1, a2, a3, a4, a5⟩ := hT.real (t := 0) (m := τ.1) (by omega) (by omega)
  obtain ⟨b, b1, b2, b3, b4, b5⟩ := hT.real (t := 1) (m := τ.2.1) (by omega) (by omega)
  obtain ⟨c, c1, c2, c3', c4, c5⟩ := hT.real (t := 2) (m := τ.2.2) (by omega) (by omega)
  have x0 : x3 a b c 0 = a := rfl
  have x1 : x3 a b c 1 = b := rfl
  have x2 : x3 a b c 2 = c := rfl
  have mt : m3 (x3 a b c) = τ := by
    unfold m3
    rw [x0, x1, x2, a1, b1, c1]
  have zx : ∀ t, nt ≤ t → x3 a b c t = [] := fun t ht => by
    by_cases e0 : t = 0
    · subst e0; exact a3 ht
    · by_cases e1 : t = 1
      · subst e1; exact b3 ht
      · by_cases e2 : t = 2
        · subst e2; exact c3' ht
        · unfold x3; rw [if_neg e0, if_neg e1, if_neg e2]
  have nx : ∀ t, (x3 a b c t).Nodup ∧ ∀ k ∈ x3 a b c t, k < (tdL p nc wk).length := fun t => by
    by_cases e0 : t = 0
    · subst e0; exact a2
    · by_cases e1 : t = 1
      · subst e1; exact b2
      · by_cases e2 : t = 2
        · subst e2; exact c2
        · unfold x3; rw [if_neg e0, if_neg e1, if_neg e2]; exact ⟨List.Pairwise.nil, fun k hk => by cases hk⟩
  have pk : PK nt (tdL p nc wk).length (x3 a b c) := Ws_PK nt3 hA (fun t _ => nx t) zx (by rw [mt]; exact t1)
  have tot : B = tcK p nt nc wk nw (x3 a b c) nt := by
    rw [tc3 nt3, x0, x1, x2, ← a4, ← b4, ← c4]
    exact t2.symm
  have oq : q3 Q τ = o3 (x3 a b c) := by
    unfold q3 o3
    rw [x0, x1, x2, a5, b5, c5]
  refine ⟨x3 a b c, pk, zx, fun t => ⟨by have := nd_len (nx t).1 (nx t).2; omega, (nx t).2⟩, tot, by rw [← oq]; exact t3, best_ix hP nt3 pk zx (fun ξ' h' z' => ?_)⟩
  rw [← tot]
  by_cases hc : tcK p nt nc wk nw ξ' nt ≤ ceil
  · obtain ⟨g1, g2⟩ := gen ξ' h' z' hc
    have w := h'.in3 nt3 hA z'
    have le : B ≤ c3 C (m3 ξ') := by
      rcases hS.2.2 _ w with q | q
      · exact q
      · omega
    rcases Nat.lt_or_eq_of_le (Nat.le_trans le g1) with q | q
    · exact Or.inl q
    · have e1 : c3 C (m3 ξ') = tcK p nt nc wk nw ξ' nt := by omega
      refine Or.inr ⟨q, ?_⟩
      have := t4 _ w (by omega)
      rw [oq] at this
      exact le3_trans this (g2 e1)
  · exact Or.inl (by omega)
theorem TBL.hQ (h : TBL p nt nc wk nw ceil C Q) (hP : PW p nt nc wk nw) (hce : ceil < 2 ^ 59) : ∀ σ : Nat × Nat × Nat, c3 C σ ≤ ceil → (q3 Q σ).1 < 2 ^ 31 ∧ (q3 Q σ).2.1 < 2 ^ 31 ∧ (q3 Q σ).2.2 < 2 ^ 31 := fun σ hσ => by
  have T7 := td_le (p := p) (nc := nc) (wk := wk)
  have nc7 := hP.2.2.2
  have key : ∀ t m, t < 3 → C t m < 2 ^ 60 → Q t m < 2 ^ 31 := fun t m ht hm => by
    obtain ⟨x, x1, x2, x3, x4, x5⟩ := h.real ht hm
    rw [x5]
    have := octD_lt (n := 7) (w := x) (fun k hk => by have := x2.2 k hk; omega)
    omega
  unfold c3 at hσ
  exact ⟨key 0 _ (by omega) (by omega), key 1 _ (by omega) (by omega), key 2 _ (by omega) (by omega)⟩
end
