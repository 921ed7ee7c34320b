/-! the model's planner: a place in the tree of rows -/
def up1 (ρ : Nat → List Nat) (t : Nat) (l : List Nat) : Nat → List Nat := fun t' => if t' = t then l else ρ t'
theorem up1_s (ρ : Nat → List Nat) (t : Nat) (l : List Nat) : up1 ρ t l t = l := if_pos rfl
theorem up1_n {ρ : Nat → List Nat} {t t' : Nat} {l : List Nat} (h : ¬ t' = t) : up1 ρ t l t' = ρ t' := if_neg h
/-- what is put and what is still to put -/
def MN (ad : Nat → Nat → Nat) (nc : Nat) (ρ : Nat → List Nat) (rem : List Nat) (f : Nat → Nat → Int32) : Prop :=
  (∀ c, c < nc → f (ad 9 57) c = if c ∈ rem then 1 else 0) ∧ f (ad 10 0) 58 = nI rem.length ∧
  ∀ t, t < 3 → f (ad 9 54) t = nI (ρ t).length ∧ ∀ i, i < (ρ t).length → f (ad 9 53) (7 * t + i) = nI ((ρ t).getD i 0)
/-- the best so far: its cost z, its word x -/
def MBs (ad : Nat → Nat → Nat) (nt : Nat) (z : Nat × Nat × Nat) (x : List Nat) (f : Nat → Nat → Int32) : Prop :=
  (f (ad 10 0) 59 = nI z.1 ∧ f (ad 10 0) 60 = nI z.2.1 ∧ f (ad 10 0) 61 = nI z.2.2) ∧
  (((z.1 < 1000000 ∧ z.2.1 ≤ 15 ∧ z.2.2 ≤ 4095) ∧ ∃ ρ : Nat → List Nat, x = encP nt ρ ∧ (∀ t, nt ≤ t → ρ t = []) ∧ (∀ t, ∀ x ∈ ρ t, x < 7) ∧ ∀ t, t < 3 → (ρ t).length ≤ 7 ∧ f (ad 9 56) t = nI (ρ t).length ∧ ∀ i, i < (ρ t).length → f (ad 9 55) (7 * t + i) = nI ((ρ t).getD i 0)) ∨ z = (1000000, 1000000, 1000000))
def trF (ad : Nat → Nat → Nat) (f f' : Nat → Nat → Int32) : Prop := ∀ t i k, ¬ (t = 9 ∧ 53 ≤ i ∧ i ≤ 57) → ¬ (t = 10 ∧ i = 0 ∧ 58 ≤ k ∧ k ≤ 61) → f' (ad t i) k = f (ad t i) k
theorem trF.refl (ad : Nat → Nat → Nat) (f : Nat → Nat → Int32) : trF ad f f := fun _ _ _ _ _ => rfl
theorem trF.trans {ad : Nat → Nat → Nat} {f f' f'' : Nat → Nat → Int32} (h : trF ad f f') (h' : trF ad f' f'') : trF ad f f'' := fun t i k z1 z2 => (h' t i k z1 z2).trans (h t i k z1 z2)
theorem trF.up {ad : Nat → Nat → Nat} {f f' : Nat → Nat → Int32} {t i k : Nat} {v : Int32} (hi : Inj ad) (h : trF ad f f') (hz : (t = 9 ∧ 53 ≤ i ∧ i ≤ 57) ∨ (t = 10 ∧ i = 0 ∧ 58 ≤ k ∧ k ≤ 61)) : trF ad f (up2 f' (ad t i) k v) := fun t' i' k' z1 z2 => by
  rw [up2_n _ _ (fun y => by
    obtain ⟨e1, e2⟩ := hi _ _ _ _ y.1
    have e3 := y.2
    subst e1 e2 e3
    rcases hz with q | q
    · exact z1 q
    · exact z2 q)]
  exact h t' i' k' z1 z2
theorem ppS_n {i : Nat} (h : ppS i = true) : ¬ (53 ≤ i ∧ i ≤ 57) := by
  unfold ppS at h
  simp only [Bool.or_eq_true, Bool.and_eq_true, beq_iff_eq, decide_eq_true_iff] at h
  omega
theorem MB.tr {p : Nat → Nat → Int32} {nt nc wk nw : Nat} {ad : Nat → Nat → Nat} {f f' : Nat → Nat → Int32} (h : MB p nt nc wk nw ad f) (ht : trF ad f f') : MB p nt nc wk nw ad f' := by
  obtain ⟨h1, h2, h3, h4, h5, h6⟩ := h
  refine ⟨fun i k hp => (ht 9 i k (fun y => ppS_n hp y.2) (by omega)).trans (h1 i k hp), ?_, ?_, ?_, ?_, ?_⟩
  · rw [ht 10 0 31 (by omega) (by omega)]; exact h2
  · rw [ht 10 0 17 (by omega) (by omega)]; exact h3
  · rw [ht 10 0 19 (by omega) (by omega)]; exact h4
  · rw [ht 10 0 20 (by omega) (by omega)]; exact h5
  · rw [ht 10 0 30 (by omega) (by omega)]; exact h6
/-- a place in the tree -/
def TN (p : Nat → Nat → Int32) (nt nc wk nw t : Nat) (s : Nat × Nat × Nat) (ρ : Nat → List Nat) (rem : List Nat) (v : Nat × Nat × Nat) (pre : List Nat) (m : Nat) : Prop :=
  t ≤ nt ∧ (t < nt → sOK m s) ∧ (rem.Nodup ∧ ∀ c ∈ rem, c ∈ tdL p nc wk) ∧ rem.length + m ≤ 7 ∧ (v.1 ≤ 6560 * m ∧ v.2.1 ≤ m ∧ v.2.2 ≤ 240 * m) ∧
  lnR ρ 3 ≤ m ∧ (∀ t', t < t' → ρ t' = []) ∧ (t = nt → ρ t = []) ∧ (∀ t, ∀ x ∈ ρ t, x < 7) ∧ pre = encR ρ 0 t ++ ρ t ∧ ∀ w, KW p nt wk nw (pre ++ w) = pk3 v + wcW (s0N p wk nw) (spN p wk) (kcN p nt wk) t s w
theorem encR_congr {ρ ρ' : Nat → List Nat} : ∀ {n t : Nat}, (∀ i, t ≤ i → i < t + n → ρ i = ρ' i) → encR ρ t n = encR ρ' t n
  | 0, _, _ => rfl
  | n + 1, t, h => by rw [encR, encR, h t (by omega) (by omega), encR_congr (n := n) (t := t + 1) (fun i h1 h2 => h i (by omega) (by omega))]
theorem encR_snoc (ρ : Nat → List Nat) : ∀ (n t : Nat), encR ρ t (n + 1) = encR ρ t n ++ ρ (t + n) ++ [7]
  | 0, t => by simp [encR]
  | n + 1, t => by
    rw [encR, encR_snoc ρ n (t + 1), encR, show t + 1 + n = t + (n + 1) by omega]
    simp
theorem lnR_up {ρ : Nat → List Nat} {t c : Nat} : ∀ {n : Nat}, lnR (up1 ρ t (ρ t ++ [c])) n = lnR ρ n + (if t < n then 1 else 0)
  | 0 => rfl
  | n + 1 => by
    rw [lnR, lnR, lnR_up (n := n)]
    by_cases e : n = t
    · rw [e, up1_s, List.length_append, if_neg (by omega), if_pos (by omega), List.length_singleton]
      omega
    · rw [up1_n e]
      by_cases z : t < n
      · rw [if_pos z, if_pos (by omega)]; omega
      · rw [if_neg z, if_neg (by omega)]; omega
section
variable {p : Nat → Nat → Int32} {nt nc wk nw t m c : Nat} {s v : Nat × Nat × Nat} {ρ : Nat → List Nat} {rem pre : List Nat}
theorem TN.put (hP : PW p nt nc wk nw) (nt3 : nt ≤ 3) (h : TN p nt nc wk nw t s ρ rem v pre m) (ht : t < nt) (hc : c ∈ rem) :
    TN p nt nc wk nw t (spN p wk t s c) (up1 ρ t (ρ t ++ [c])) (rem.erase c) (v.1 + laN p wk s c, v.2.1 + mvN p nt t c, v.2.2 + goN p wk s.2.1 c s.2.2) (pre ++ [c]) (m + 1) := by
  obtain ⟨h1, h2, ⟨h3, h4⟩, h5, ⟨v1, v2, v3⟩, h6, h7, h8, h9, h10, h11⟩ := h
  have hct := h4 c hc
  have hc7 : c < 7 := by have := td_lt hct; have := hP.2.2.2; omega
  obtain ⟨g1, ⟨g2, g3, g4⟩, -⟩ := hP.st ht hct (h2 ht)
  have le := List.length_erase_of_mem hc
  have l1 : 0 < rem.length := List.length_pos_of_mem hc
  refine ⟨h1, fun _ => g1, ⟨h3.erase c, fun x hx => h4 x (List.mem_of_mem_erase hx)⟩, by omega, ⟨?_, ?_, ?_⟩, ?_, fun t' ht' => ?_, fun z => absurd z (by omega), fun t' x hx => ?_, ?_, fun w => ?_⟩
  · show v.1 + laN p wk s c ≤ 6560 * (m + 1)
    omega
  · show v.2.1 + mvN p nt t c ≤ m + 1
    omega
  · show v.2.2 + goN p wk s.2.1 c s.2.2 ≤ 240 * (m + 1)
    omega
  · rw [lnR_up, if_pos (by omega)]; omega
  · rw [up1_n (by omega)]; exact h7 t' ht'
  · by_cases e : t' = t
    · rw [e, up1_s] at hx
      rcases List.mem_append.mp hx with y | y
      · exact h9 t x y
      · rw [List.mem_singleton.mp y]; exact hc7
    · rw [up1_n e] at hx; exact h9 t' x hx
  · rw [up1_s, encR_congr (ρ := up1 ρ t (ρ t ++ [c])) (ρ' := ρ) (fun i _ hi => up1_n (by omega)), h10, List.append_assoc]
  · rw [List.append_assoc, List.singleton_append, h11 (c :: w), wcW, if_neg (by omega)]
    unfold pk3 kcN
    simp only
    omega
theorem TN.end (hP : PW p nt nc wk nw) (h : TN p nt nc wk nw t s ρ rem v pre m) (ht : t < nt) : TN p nt nc wk nw (t + 1) (s0N p wk nw (t + 1)) ρ rem v (pre ++ [7]) m := by
  obtain ⟨h1, h2, h3, h5, hv, h6, h7, h8, h9, h10, h11⟩ := h
  refine ⟨by omega, fun z => ?_, h3, h5, hv, h6, fun t' ht' => h7 t' (by omega), fun _ => h7 _ (by omega), h9, ?_, fun w => ?_⟩
  · obtain ⟨a1, a2, a3⟩ := hP.s0 z
    exact ⟨by omega, a2, a3⟩
  · rw [encR_snoc, h7 (t + 1) (by omega), List.append_nil, h10, Nat.zero_add]
  · rw [List.append_assoc, List.singleton_append, h11 (7 :: w), wcW, if_pos rfl]
theorem TN.full (h : TN p nt nc wk nw t s ρ rem v pre m) (hw : t = nt) (u : List Nat) : Full nt t rem u ↔ u = [] ∧ rem = [] := by
  cases u with
  | nil => exact ⟨fun y => ⟨rfl, y.2⟩, fun y => ⟨hw, y.2⟩⟩
  | cons c u => exact ⟨fun y => absurd y.1 (by omega), fun y => by cases y.1⟩
end
/-- n elements copied from row j to row i -/
def cpF (ad : Nat → Nat → Nat) (i j n : Nat) (f : Nat → Nat → Int32) : Nat → Nat → Int32 := fun a k => if a = ad 9 i ∧ k < n then f (ad 9 j) k else f a k
theorem cpF_0 {ad : Nat → Nat → Nat} {i j : Nat} {f : Nat → Nat → Int32} : cpF ad i j 0 f = f := by
  funext a k
  unfold cpF
  rw [if_neg (by omega)]
theorem cpF_s {ad : Nat → Nat → Nat} {i j n : Nat} {f : Nat → Nat → Int32} : up2 (cpF ad i j n f) (ad 9 i) n (f (ad 9 j) n) = cpF ad i j (n + 1) f := by
  funext a k
  unfold up2 cpF
  by_cases e : a = ad 9 i ∧ k = n
  · rw [if_pos e, if_pos ⟨e.1, by omega⟩, e.2]
  · rw [if_neg e]
    by_cases z : a = ad 9 i ∧ k < n
    · rw [if_pos z, if_pos ⟨z.1, by omega⟩]
    · rw [if_neg z, if_neg (fun y => e ⟨y.1, by
        have : ¬ k < n := fun q => z ⟨y.1, q⟩
        omega⟩)]
theorem cpF_n {ad : Nat → Nat → Nat} {i j n t i' k : Nat} {f : Nat → Nat → Int32} (hi : Inj ad) (h : ¬ (t = 9 ∧ i' = i ∧ k < n)) : cpF ad i j n f (ad t i') k = f (ad t i') k := if_neg (fun y => h ⟨(hi _ _ _ _ y.1).1, (hi _ _ _ _ y.1).2, y.2⟩)
theorem cpF_at {ad : Nat → Nat → Nat} {i j n k : Nat} {f : Nat → Nat → Int32} (h : k < n) : cpF ad i j n f (ad 9 i) k = f (ad 9 j) k := if_pos ⟨rfl, h⟩
