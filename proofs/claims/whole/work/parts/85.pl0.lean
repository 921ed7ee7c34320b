/-! plans as words: a row's cottages, then 7, its end; the first of the cheapest -/
section WORDS
variable {σ : Type} (S0 : Nat → σ) (sp : Nat → σ → Nat → σ) (cs : Nat → σ → Nat → Nat)
/-- what a word costs from a team's state -/
def wcW : Nat → σ → List Nat → Nat
  | _, _, [] => 0
  | t, s, c :: w => if c = 7 then wcW (t + 1) (S0 (t + 1)) w else cs t s c + wcW t (sp t s c) w
/-- what a row costs -/
def rcW (t : Nat) : σ → List Nat → Nat
  | _, [] => 0
  | s, c :: w => cs t s c + rcW t (sp t s c) w
def rsW (t : Nat) : σ → List Nat → σ
  | s, [] => s
  | s, c :: w => rsW t (sp t s c) w
theorem rcW_app (t : Nat) : ∀ (s : σ) (a b : List Nat), rcW sp cs t s (a ++ b) = rcW sp cs t s a + rcW sp cs t (rsW sp t s a) b
  | s, [], b => by simp [rcW, rsW]
  | s, c :: a, b => by
    show cs t s c + rcW sp cs t (sp t s c) (a ++ b) = cs t s c + rcW sp cs t (sp t s c) a + rcW sp cs t (rsW sp t (sp t s c) a) b
    rw [rcW_app t (sp t s c) a b, Nat.add_assoc]
theorem rsW_app (t : Nat) : ∀ (s : σ) (a b : List Nat), rsW sp t s (a ++ b) = rsW sp t (rsW sp t s a) b
  | s, [], b => rfl
  | s, c :: a, b => rsW_app t (sp t s c) a b
theorem wcW_row (t : Nat) : ∀ (s : σ) (l w : List Nat), (∀ x ∈ l, ¬ x = 7) → wcW S0 sp cs t s (l ++ 7 :: w) = rcW sp cs t s l + wcW S0 sp cs (t + 1) (S0 (t + 1)) w
  | s, [], w, _ => by
    show wcW S0 sp cs t s (7 :: w) = 0 + _
    rw [wcW, if_pos rfl, Nat.zero_add]
  | s, c :: l, w, h => by
    show wcW S0 sp cs t s (c :: (l ++ 7 :: w)) = (cs t s c + rcW sp cs t (sp t s c) l) + _
    rw [wcW, if_neg (h c (List.mem_cons_self ..)), wcW_row t (sp t s c) l w (fun x hx => h x (List.mem_cons_of_mem _ hx)), Nat.add_assoc]
end WORDS
/-- the whole words behind a place: team t, still to put rem -/
def Full (nt : Nat) : Nat → List Nat → List Nat → Prop
  | t, rem, [] => t = nt ∧ rem = []
  | t, rem, c :: w => t < nt ∧ ((c = 7 ∧ Full nt (t + 1) rem w) ∨ (c ∈ rem ∧ Full nt t (rem.erase c) w))
theorem Full.perm {nt : Nat} : ∀ {w : List Nat} {t : Nat} {r r' : List Nat}, r.Perm r' → Full nt t r w → Full nt t r' w
  | [], t, r, r', hp, h => ⟨h.1, by have := h.2; subst this; exact (List.nil_perm.mp hp)⟩
  | c :: w, t, r, r', hp, h => by
    refine ⟨h.1, ?_⟩
    rcases h.2 with ⟨h1, h2⟩ | ⟨h1, h2⟩
    · exact Or.inl ⟨h1, Full.perm hp h2⟩
    · exact Or.inr ⟨hp.mem_iff.mp h1, Full.perm (hp.erase c) h2⟩
theorem Full.row {nt t : Nat} {w : List Nat} : ∀ {l r : List Nat}, (∀ x ∈ r, ¬ x = 7) → (∀ x ∈ l, ¬ x = 7) → Full nt t r (l ++ 7 :: w) → t < nt ∧ ∃ r', r.Perm (l ++ r') ∧ (∀ x ∈ r', ¬ x = 7) ∧ Full nt (t + 1) r' w
  | [], r, hr, _, h => by
    rcases h.2 with ⟨_, h2⟩ | ⟨h1, _⟩
    · exact ⟨h.1, r, List.Perm.refl _, hr, h2⟩
    · exact absurd rfl (hr 7 h1)
  | c :: l, r, hr, hl, h => by
    rcases h.2 with ⟨h1, _⟩ | ⟨h1, h2⟩
    · exact absurd h1 (hl c (List.mem_cons_self ..))
    · obtain ⟨g1, r', g2, g3, g4⟩ := Full.row (fun x hx => hr x (List.mem_of_mem_erase hx)) (fun x hx => hl x (List.mem_cons_of_mem _ hx)) h2
      exact ⟨g1, r', (List.perm_cons_erase h1).trans (g2.cons c), g3, g4⟩
theorem Full.of_row {nt t : Nat} {w : List Nat} (ht : t < nt) : ∀ {l r r' : List Nat}, r.Perm (l ++ r') → Full nt (t + 1) r' w → Full nt t r (l ++ 7 :: w)
  | [], r, r', hp, h => ⟨ht, Or.inl ⟨rfl, Full.perm hp.symm h⟩⟩
  | c :: l, r, r', hp, h => by
    have hc : c ∈ r := hp.mem_iff.mpr (List.mem_cons_self ..)
    have hp2 : (r.erase c).Perm (l ++ r') := by
      have := hp.erase c
      rwa [List.cons_append, List.erase_cons_head] at this
    exact ⟨ht, Or.inr ⟨hc, Full.of_row ht hp2 h⟩⟩
/-- the word of rows t, t + 1, .. (n of them) -/
def encR (ρ : Nat → List Nat) : Nat → Nat → List Nat
  | _, 0 => []
  | t, n + 1 => ρ t ++ 7 :: encR ρ (t + 1) n
def flR (ρ : Nat → List Nat) : Nat → Nat → List Nat
  | _, 0 => []
  | t, n + 1 => ρ t ++ flR ρ (t + 1) n
theorem encR_rng (ρ : Nat → List Nat) : ∀ (n t : Nat), encR ρ t n = (List.range' t n).flatMap (fun t => ρ t ++ [7])
  | 0, t => rfl
  | n + 1, t => by
    rw [List.range'_succ, List.flatMap_cons, ← encR_rng ρ n (t + 1), encR, List.append_assoc]; rfl
theorem encP_R (ρ : Nat → List Nat) (nt : Nat) : encP nt ρ = encR ρ 0 nt := by
  rw [encR_rng, encP, List.range_eq_range']
theorem flR_rng (ρ : Nat → List Nat) : ∀ (n t : Nat), flR ρ t n = (List.range' t n).flatMap ρ
  | 0, t => rfl
  | n + 1, t => by
    rw [List.range'_succ, List.flatMap_cons, ← flR_rng ρ n (t + 1), flR]
theorem Full.enc {nt : Nat} {ρ : Nat → List Nat} : ∀ {n t : Nat} {r : List Nat}, t + n = nt → (∀ x ∈ r, ¬ x = 7) → (∀ t, ∀ x ∈ ρ t, ¬ x = 7) → (Full nt t r (encR ρ t n) ↔ (flR ρ t n).Perm r)
  | 0, t, r, ht, _, _ => by
    constructor
    · intro h
      rw [h.2]; exact List.Perm.refl _
    · intro h
      exact ⟨by omega, (List.nil_perm.mp h)⟩
  | n + 1, t, r, ht, hr, hρ => by
    constructor
    · intro h
      obtain ⟨_, r', g2, g3, g4⟩ := Full.row hr (hρ t) h
      have ih := (Full.enc (n := n) (t := t + 1) (by omega) g3 hρ).mp g4
      exact ((List.Perm.append_left (ρ t) ih).trans g2.symm)
    · intro h
      have hr' : ∀ x ∈ flR ρ (t + 1) n, ¬ x = 7 := fun x hx => hr x (h.mem_iff.mp (List.mem_append_right _ hx))
      exact Full.of_row (by omega) h.symm ((Full.enc (n := n) (t := t + 1) (by omega) hr' hρ).mpr (List.Perm.refl _))
theorem lexL_refl : ∀ a : List Nat, lexL a a
  | [] => trivial
  | _ :: a => Or.inr ⟨rfl, lexL_refl a⟩
theorem lexL_pre : ∀ (p a b : List Nat), lexL (p ++ a) (p ++ b) ↔ lexL a b
  | [], a, b => Iff.rfl
  | c :: p, a, b => by
    show (c < c ∨ (c = c ∧ lexL (p ++ a) (p ++ b))) ↔ _
    rw [lexL_pre p a b]
    constructor
    · rintro (h | h)
      · omega
      · exact h.2
    · exact fun h => Or.inr ⟨rfl, h⟩
theorem lexL_anti : ∀ {a b : List Nat}, lexL a b → lexL b a → a = b
  | [], [], _, _ => rfl
  | [], _ :: _, _, h => h.elim
  | _ :: _, [], h, _ => h.elim
  | x :: a, y :: b, h1, h2 => by
    rcases h1 with h1 | h1 <;> rcases h2 with h2 | h2
    · omega
    · omega
    · omega
    · rw [h1.1, lexL_anti h1.2 h2.2]
theorem lexL_trans : ∀ {a b c : List Nat}, lexL a b → lexL b c → lexL a c
  | [], _, _, _, _ => trivial
  | _ :: _, [], _, h, _ => h.elim
  | _ :: _, _ :: _, [], _, h => h.elim
  | x :: a, y :: b, z :: c, h1, h2 => by
    rcases h1 with h1 | h1 <;> rcases h2 with h2 | h2
    · exact Or.inl (by omega)
    · exact Or.inl (by omega)
    · exact Or.inl (by omega)
    · exact Or.inr ⟨by omega, lexL_trans h1.2 h2.2⟩
/-- from a best one (cost z, word x) over the words S to a best one (z', x') -/
def BR (K : List Nat → Nat) (S : List Nat → Prop) (z : Nat) (x : List Nat) (z' : Nat) (x' : List Nat) : Prop :=
  (z' = z ∧ x' = x ∧ ∀ w, S w → z ≤ K w) ∨ (S x' ∧ z' = K x' ∧ K x' < z ∧ ∀ w, S w → K x' < K w ∨ (K x' = K w ∧ lexL x' w))
theorem BR.stay {K : List Nat → Nat} {S : List Nat → Prop} {z : Nat} {x : List Nat} (h : ∀ w, S w → z ≤ K w) : BR K S z x z x := Or.inl ⟨rfl, rfl, h⟩
theorem BR.take {K : List Nat → Nat} {S : List Nat → Prop} {z : Nat} {x x' : List Nat} (h : ∀ w, S w ↔ w = x') (hk : K x' < z) : BR K S z x (K x') x' :=
  Or.inr ⟨(h x').mpr rfl, rfl, hk, fun w hw => Or.inr (by rw [(h w).mp hw]; exact ⟨rfl, lexL_refl _⟩)⟩
theorem BR.seq {K : List Nat → Nat} {S S1 S2 : List Nat → Prop} {z z1 z2 : Nat} {x x1 x2 : List Nat} (h1 : BR K S1 z x z1 x1) (h2 : BR K S2 z1 x1 z2 x2) (hl : ∀ a b, S1 a → S2 b → lexL a b) (hS : ∀ w, S w ↔ S1 w ∨ S2 w) : BR K S z x z2 x2 := by
  rcases h1 with ⟨rfl, rfl, g1⟩ | ⟨g1, g2, g3, g4⟩ <;> rcases h2 with ⟨rfl, rfl, k1⟩ | ⟨k1, k2, k3, k4⟩
  · exact Or.inl ⟨rfl, rfl, fun w hw => ((hS w).mp hw).elim (g1 w) (k1 w)⟩
  · refine Or.inr ⟨(hS _).mpr (Or.inr k1), k2, k3, fun w hw => ?_⟩
    rcases (hS w).mp hw with q | q
    · have := g1 w q
      exact Or.inl (by omega)
    · exact k4 w q
  · refine Or.inr ⟨(hS _).mpr (Or.inl g1), g2, g3, fun w hw => ?_⟩
    rcases (hS w).mp hw with q | q
    · exact g4 w q
    · have := k1 w q
      rw [g2] at this
      rcases Nat.lt_or_eq_of_le this with y | y
      · exact Or.inl y
      · exact Or.inr ⟨y, hl _ _ g1 q⟩
  · refine Or.inr ⟨(hS _).mpr (Or.inr k1), k2, by omega, fun w hw => ?_⟩
    rcases (hS w).mp hw with q | q
    · have := g4 w q
      exact Or.inl (by omega)
    · exact k4 w q
theorem BR.congr {K : List Nat → Nat} {S S' : List Nat → Prop} {z z' : Nat} {x x' : List Nat} (h : BR K S z x z' x') (hS : ∀ w, S' w ↔ S w) : BR K S' z x z' x' := by
  rcases h with ⟨h1, h2, h3⟩ | ⟨h1, h2, h3, h4⟩
  · exact Or.inl ⟨h1, h2, fun w hw => h3 w ((hS w).mp hw)⟩
  · exact Or.inr ⟨(hS _).mpr h1, h2, h3, fun w hw => h4 w ((hS w).mp hw)⟩
