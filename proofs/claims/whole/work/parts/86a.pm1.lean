/-! the best rows by sets: what is covered -/
def Rw (T : Nat) (x : List Nat) : Prop := ¬ x = [] ∧ x.Nodup ∧ ∀ k ∈ x, k < T
def upN (C : Nat → Nat) (m v : Nat) : Nat → Nat := fun i => if i = m then v else C i
theorem upN_s (C : Nat → Nat) (m v : Nat) : upN C m v m = v := if_pos rfl
theorem upN_n {C : Nat → Nat} {m v i : Nat} (h : ¬ i = m) : upN C m v i = C i := if_neg h
def CVd (rc : List Nat → Nat) (ceil : Nat) (V : List Nat → Prop) (C R : Nat → Nat) : Prop :=
  (∀ m, 0 < m → C m = 2 ^ 60 ∨ ∃ x, V x ∧ mkN x = m ∧ C m = rc x ∧ R m = octD 7 x) ∧
  ∀ x, V x → rc x ≤ ceil → C (mkN x) < rc x ∨ (C (mkN x) = rc x ∧ R (mkN x) ≤ octD 7 x)
section
variable {rc : List Nat → Nat} {ceil T : Nat} {V V' : List Nat → Prop} {C R : Nat → Nat} {r x0 : List Nat}
theorem CVd.keep1 (h : CVd rc ceil V C R) (hr : Rw T r) (hc : rc r < C (mkN r)) (hV : ∀ x, V' x ↔ V x ∨ x = r) : CVd rc ceil V' (upN C (mkN r) (rc r)) (upN R (mkN r) (octD 7 r)) := by
  obtain ⟨h1, h2⟩ := h
  refine ⟨fun m hm => ?_, fun x hx hcx => ?_⟩
  · by_cases e : m = mkN r
    · rw [e, upN_s, upN_s]
      exact Or.inr ⟨r, (hV r).mpr (Or.inr rfl), rfl, rfl, rfl⟩
    · rw [upN_n e, upN_n e]
      rcases h1 m hm with y | ⟨x, y1, y2⟩
      · exact Or.inl y
      · exact Or.inr ⟨x, (hV x).mpr (Or.inl y1), y2⟩
  · rcases (hV x).mp hx with y | y
    · by_cases e : mkN x = mkN r
      · rw [e, upN_s, upN_s]
        have := h2 x y hcx
        rw [e] at this
        exact Or.inl (by omega)
      · rw [upN_n e, upN_n e]
        exact h2 x y hcx
    · rw [y, upN_s, upN_s]
      exact Or.inr ⟨rfl, Nat.le_refl _⟩
theorem CVd.keep2 (h : CVd rc ceil V C R) (hT : T ≤ 7) (hr : Rw T r) (hc : C (mkN r) ≤ rc r) (hf : rc r < 2 ^ 60) (hRw : ∀ x, V x → Rw T x) (hl : ∀ x, V x → lexL x r) (hV : ∀ x, V' x ↔ V x ∨ x = r) : CVd rc ceil V' C R := by
  obtain ⟨h1, h2⟩ := h
  refine ⟨fun m hm => ?_, fun x hx hcx => ?_⟩
  · rcases h1 m hm with y | ⟨x, y1, y2⟩
    · exact Or.inl y
    · exact Or.inr ⟨x, (hV x).mpr (Or.inl y1), y2⟩
  · rcases (hV x).mp hx with y | rfl
    · exact h2 x y hcx
    · rcases Nat.lt_or_eq_of_le hc with z | z
      · exact Or.inl z
      · rcases h1 (mkN x) (mkN_pos hr.1) with y | ⟨y, y1, y2, y3, y4⟩
        · omega
        · refine Or.inr ⟨z, ?_⟩
          rw [y4]
          have hy := hRw y y1
          exact octD_le (hl y y1) (mkN_perm hy.2.1 hr.2.1 y2).length_eq (fun k hk => by have := hy.2.2 k hk; omega) (fun k hk => by have := hr.2.2 k hk; omega)
theorem CVd.dear (h : CVd rc ceil V C R) (hc : ∀ s, ceil < rc (r ++ s)) (hV : ∀ x, V' x ↔ V x ∨ (Rw T x ∧ r <+: x)) : CVd rc ceil V' C R := by
  obtain ⟨h1, h2⟩ := h
  refine ⟨fun m hm => ?_, fun x hx hcx => ?_⟩
  · rcases h1 m hm with y | ⟨x, y1, y2⟩
    · exact Or.inl y
    · exact Or.inr ⟨x, (hV x).mpr (Or.inl y1), y2⟩
  · rcases (hV x).mp hx with y | ⟨-, s, rfl⟩
    · exact h2 x y hcx
    · have := hc s; omega
theorem lexL_app : ∀ {x y : List Nat} (s : List Nat), lexL x y → x.length = y.length → lexL (x ++ s) (y ++ s)
  | [], [], s, _, _ => lexL_refl _
  | [], _ :: _, _, _, h => by simp at h
  | _ :: _, [], _, h, _ => h.elim
  | a :: x, b :: y, s, h, hl => by
    rcases h with h | h
    · exact Or.inl h
    · exact Or.inr ⟨h.1, lexL_app s h.2 (by simpa using hl)⟩
theorem CVd.idle (h : CVd rc ceil V C R) (hT : T ≤ 7) (hx0 : x0.Nodup ∧ ∀ k ∈ x0, k < T) (hr : Rw T r) (hm : mkN x0 = mkN r) (hsub : ∀ s, Rw T (x0 ++ s) → V (x0 ++ s)) (hl : lexL x0 r) (hc : ∀ s, Rw T (r ++ s) → rc (x0 ++ s) ≤ rc (r ++ s)) (hV : ∀ x, V' x ↔ V x ∨ (Rw T x ∧ r <+: x)) : CVd rc ceil V' C R := by
  obtain ⟨h1, h2⟩ := h
  have hp := mkN_perm hx0.1 hr.2.1 hm
  refine ⟨fun m hm => ?_, fun x hx hcx => ?_⟩
  · rcases h1 m hm with y | ⟨x, y1, y2⟩
    · exact Or.inl y
    · exact Or.inr ⟨x, (hV x).mpr (Or.inl y1), y2⟩
  · rcases (hV x).mp hx with y | ⟨hRx, s, rfl⟩
    · exact h2 x y hcx
    · have hps : (x0 ++ s).Perm (r ++ s) := List.Perm.append_right s hp
      have hRs : Rw T (x0 ++ s) := ⟨fun z => hRx.1 (by rw [z] at hps; exact List.nil_perm.mp hps), hps.nodup_iff.mpr hRx.2.1, fun k hk => hRx.2.2 k (hps.mem_iff.mp hk)⟩
      have cs := hc s hRx
      have mm := mkN_of_perm hps
      rcases h2 (x0 ++ s) (hsub s hRs) (by omega) with z | ⟨z1, z2⟩
      · rw [mm] at z; exact Or.inl (by omega)
      · rw [mm] at z1 z2
        rcases Nat.lt_or_eq_of_le cs with q | q
        · exact Or.inl (by omega)
        · refine Or.inr ⟨by omega, Nat.le_trans z2 ?_⟩
          exact octD_le (lexL_app s hl hp.length_eq) hps.length_eq (fun k hk => by have := hRs.2.2 k hk; omega) (fun k hk => by have := hRx.2.2 k hk; omega)
end
/-- visited: before the children k, k + 1, .. of w -/
def VK (T : Nat) (V : List Nat → Prop) (w : List Nat) (k : Nat) (x : List Nat) : Prop := V x ∨ ∃ k', k' < k ∧ ¬ k' ∈ w ∧ Rw T x ∧ (w ++ [k']) <+: x
/-- visited: w's whole tree -/
def VE (T : Nat) (V : List Nat → Prop) (w x : List Nat) : Prop := V x ∨ (Rw T x ∧ w <+: x ∧ ¬ x = w)
section
variable {T : Nat} {V : List Nat → Prop} {w : List Nat} {k : Nat}
theorem VK_0 (x : List Nat) : VK T V w 0 x ↔ V x := ⟨fun h => h.elim id (fun ⟨k', h1, _⟩ => absurd h1 (by omega)), Or.inl⟩
theorem VK_n (h : k ∈ w) (x : List Nat) : VK T V w (k + 1) x ↔ VK T V w k x := by
  constructor
  · rintro (y | ⟨k', h1, h2, h3⟩)
    · exact Or.inl y
    · exact Or.inr ⟨k', by have : ¬ k' = k := fun z => h2 (z ▸ h); omega, h2, h3⟩
  · rintro (y | ⟨k', h1, h2⟩)
    · exact Or.inl y
    · exact Or.inr ⟨k', by omega, h2⟩
theorem VK_s (h : ¬ k ∈ w) (x : List Nat) : VK T V w (k + 1) x ↔ VK T V w k x ∨ (Rw T x ∧ (w ++ [k]) <+: x) := by
  constructor
  · rintro (y | ⟨k', h1, h2, h3, h4⟩)
    · exact Or.inl (Or.inl y)
    · by_cases e : k' = k
      · rw [e] at h4; exact Or.inr ⟨h3, h4⟩
      · exact Or.inl (Or.inr ⟨k', by omega, h2, h3, h4⟩)
  · rintro ((y | ⟨k', h1, h2⟩) | ⟨h1, h2⟩)
    · exact Or.inl y
    · exact Or.inr ⟨k', by omega, h2⟩
    · exact Or.inr ⟨k, by omega, h, h1, h2⟩
theorem VK_e (x : List Nat) : VK T V w T x ↔ VE T V w x := by
  constructor
  · rintro (y | ⟨k', h1, h2, h3, s, rfl⟩)
    · exact Or.inl y
    · exact Or.inr ⟨h3, ⟨k' :: s, by simp⟩, fun z => by
        have := congrArg List.length z
        simp at this⟩
  · rintro (y | ⟨h3, ⟨s, rfl⟩, hne⟩)
    · exact Or.inl y
    · cases s with
      | nil => exact absurd (List.append_nil w) hne
      | cons k' s =>
        have hm : k' ∈ w ++ k' :: s := List.mem_append_right _ (List.mem_cons_self ..)
        refine Or.inr ⟨k', h3.2.2 k' hm, fun z => ?_, h3, ⟨s, by simp⟩⟩
        have := (List.nodup_append.mp h3.2.1).2.2 k' z k' (List.mem_cons_self ..)
        exact this rfl
/-- a child and its tree -/
theorem VK_c (h : ¬ k ∈ w) (hr : Rw T (w ++ [k])) (x : List Nat) : VK T V w (k + 1) x ↔ VE T (fun y => VK T V w k y ∨ y = w ++ [k]) (w ++ [k]) x := by
  rw [VK_s h]
  constructor
  · rintro (y | ⟨h1, h2⟩)
    · exact Or.inl (Or.inl y)
    · by_cases e : x = w ++ [k]
      · exact Or.inl (Or.inr e)
      · exact Or.inr ⟨h1, h2, e⟩
  · rintro ((y | rfl) | ⟨h1, h2, _⟩)
    · exact Or.inl y
    · exact Or.inr ⟨hr, List.prefix_rfl⟩
    · exact Or.inr ⟨h1, h2⟩
theorem lexL_ext (w s : List Nat) : lexL w (w ++ s) := by
  have := (lexL_pre w [] s).mpr trivial
  rwa [List.append_nil] at this
theorem VK_l (hV : ∀ x, V x → lexL x w) {x : List Nat} (h : VK T V w k x) (s : List Nat) : lexL x (w ++ k :: s) := by
  rcases h with y | ⟨k', h1, h2, h3, u, rfl⟩
  · exact lexL_trans (hV x y) (lexL_ext w _)
  · rw [List.append_assoc, lexL_pre]
    exact Or.inl h1
theorem VK_R (hV : ∀ x, V x → Rw T x) {x : List Nat} (h : VK T V w k x) : Rw T x := by
  rcases h with y | ⟨k', h1, h2, h3, u⟩
  · exact hV x y
  · exact h3
end
/-- later is not cheaper -/
theorem rc_mono {p : Nat → Nat → Int32} {nt wk t : Nat} {κ : Nat → Nat} : ∀ (u : List Nat) (s s' : Nat × Nat × Nat), s.1 ≤ s'.1 → s.2 = s'.2 → rcW (fun t s k => spN p wk t s (κ k)) (fun t s k => kcN p nt wk t s (κ k)) t s u ≤ rcW (fun t s k => spN p wk t s (κ k)) (fun t s k => kcN p nt wk t s (κ k)) t s' u
  | [], _, _, _, _ => Nat.le_refl _
  | k :: u, s, s', h1, h2 => by
    have e : enN p wk s (κ k) ≤ enN p wk s' (κ k) := by
      unfold enN
      rw [h2]
      omega
    have l : laN p wk s (κ k) ≤ laN p wk s' (κ k) := by unfold laN; omega
    have c : kcN p nt wk t s (κ k) ≤ kcN p nt wk t s' (κ k) := by
      unfold kcN
      rw [h2]
      omega
    have i := rc_mono (p := p) (nt := nt) (wk := wk) (t := t) (κ := κ) u (spN p wk t s (κ k)) (spN p wk t s' (κ k)) e (by unfold spN; rw [h2])
    show kcN p nt wk t s (κ k) + _ ≤ kcN p nt wk t s' (κ k) + _
    exact Nat.add_le_add c i
