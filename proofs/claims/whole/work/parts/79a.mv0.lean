/-! moves: as mathematics -/
def fldN {α : Type} (f : Nat → α → α) : Nat → α → α
  | 0, x => x
  | n + 1, x => f n (fldN f n x)
abbrev MvB : Type := Option (Nat × Int32 × (Nat → Int32))
def mvU (B : MvB) (m : Nat) (a : Int32) (acc : Nat → Int32) : MvB := match B with
  | none => some (m, a, acc)
  | some b => if b.1 < m ∨ (m = b.1 ∧ a < b.2.1) then some (m, a, acc) else some b
def mvS (ok : Nat → Nat → Bool) (ds : Nat → Nat → Int32) (nc : Nat) : List Nat → (Nat → Bool) → Nat → Int32 → (Nat → Int32) → MvB → MvB
  | [], _, m, a, acc, B => mvU B m a acc
  | b :: r, fr, m, a, acc, B => mvS ok ds nc r fr m a (va_up acc b (-1)) (fldN (fun c B => if fr c = true ∧ ok c b = true then mvS ok ds nc r (va_up fr c false) (m + 1) (a + ds c b) (va_up acc b (nI c)) B else B) nc B)
def mvM (B : MvB) : Int32 := match B with | none => -1 | some b => nI b.1
def mvA (B : MvB) : Int32 := match B with | none => 0 | some b => b.2.1
theorem va_s {α : Type} (f : Nat → α) (k : Nat) (v : α) : va_up f k v k = v := by simp [va_up]
theorem va_n {α : Type} (f : Nat → α) {k j : Nat} (v : α) (h : ¬ j = k) : va_up f k v j = f j := by simp [va_up, h]
theorem mvU_some {B : MvB} {m : Nat} {a : Int32} {acc : Nat → Int32} : ∃ r, mvU B m a acc = some r := by
  unfold mvU
  cases B with
  | none => exact ⟨_, rfl⟩
  | some b => by_cases c : b.1 < m ∨ (m = b.1 ∧ a < b.2.1)
              · exact ⟨_, if_pos c⟩
              · exact ⟨_, if_neg c⟩
theorem mvS_some {ok : Nat → Nat → Bool} {ds : Nat → Nat → Int32} {nc : Nat} : ∀ (l : List Nat) (fr : Nat → Bool) (m : Nat) (a : Int32) (acc : Nat → Int32) (B : MvB), ∃ r, mvS ok ds nc l fr m a acc B = some r
  | [], _, _, _, _, _ => by rw [mvS]; exact mvU_some
  | b :: r, fr, m, a, acc, B => by rw [mvS]; exact mvS_some r _ _ _ _ _
/-- what a found move looks like -/
def GD (nc : Nat) (fr : Nat → Bool) (l : List Nat) (acc G : Nat → Int32) : Prop := (∀ b, b ∉ l → G b = acc b) ∧ (∀ b, b ∈ l → G b = -1 ∨ ∃ c, c < nc ∧ fr c = true ∧ G b = nI c) ∧ ∀ a b c, a ∈ l → b ∈ l → c < nc → G a = nI c → G b = nI c → a = b
def mOk (b : Nat × Int32 × (Nat → Int32)) (N nc : Nat) (fr : Nat → Bool) (l : List Nat) (acc : Nat → Int32) : Prop := b.1 ≤ N ∧ GD nc fr l acc b.2.2
theorem mvS_gd {ok : Nat → Nat → Bool} {ds : Nat → Nat → Int32} {nc : Nat} (hnc : nc ≤ 7) : ∀ (l : List Nat) (fr : Nat → Bool) (m : Nat) (a : Int32) (acc : Nat → Int32) (B : MvB) (r : Nat × Int32 × (Nat → Int32)), l.Nodup → mvS ok ds nc l fr m a acc B = some r → B = some r ∨ mOk r (m + l.length) nc fr l acc := by
  intro l
  induction l with
  | nil =>
    intro fr m a acc B r _ h
    rw [mvS] at h
    have g0 : mOk (m, a, acc) (m + 0) nc fr [] acc := ⟨Nat.le_refl _, fun _ _ => rfl, fun b hb => absurd hb (by simp), fun a b c ha => absurd ha (by simp)⟩
    unfold mvU at h
    cases B with
    | none => cases h; exact Or.inr g0
    | some b =>
      by_cases c : b.1 < m ∨ (m = b.1 ∧ a < b.2.1)
      · simp only [if_pos c] at h; cases h; exact Or.inr g0
      · simp only [if_neg c] at h; exact Or.inl h
  | cons b l ih =>
    intro fr m a acc B r hnd h
    rw [mvS] at h
    have hbl : b ∉ l := (List.nodup_cons.mp hnd).1
    have hnl : l.Nodup := (List.nodup_cons.mp hnd).2
    rcases ih _ _ _ _ _ _ hnl h with h1 | h1
    · -- from the loop
      have key : ∀ n, n ≤ nc → ∀ r, fldN (fun c B => if fr c = true ∧ ok c b = true then mvS ok ds nc l (va_up fr c false) (m + 1) (a + ds c b) (va_up acc b (nI c)) B else B) n B = some r → B = some r ∨ mOk r (m + (b :: l).length) nc fr (b :: l) acc := by
        intro n
        induction n with
        | zero => intro _ r h; exact Or.inl h
        | succ n ihn =>
          intro hn r h
          rw [fldN] at h
          by_cases c : fr n = true ∧ ok n b = true
          · rw [if_pos c] at h
            rcases ih _ _ _ _ _ _ hnl h with h2 | ⟨h2, h3, h4, h5⟩
            · exact ihn (by omega) r h2
            · refine Or.inr ⟨by rw [List.length_cons]; omega, fun x hx => ?_, fun x hx => ?_, fun x y c' hx hy hc' e1 e2 => ?_⟩
              · rw [h3 x (fun z => hx (List.mem_cons_of_mem _ z)), va_n _ _ (fun z => hx (by rw [z]; exact List.mem_cons_self))]
              · rcases List.mem_cons.mp hx with z | z
                · exact Or.inr ⟨n, by omega, c.1, by rw [z, h3 b hbl, va_s]⟩
                · rcases h4 x z with q | ⟨c', q1, q2, q3⟩
                  · exact Or.inl q
                  · have nz : ¬ c' = n := fun y => by rw [y, va_s] at q2; cases q2
                    exact Or.inr ⟨c', q1, by rw [va_n _ _ nz] at q2; exact q2, q3⟩
              · have eb : r.2.2 b = nI n := by rw [h3 b hbl, va_s]
                have no : ∀ x, x ∈ l → r.2.2 x = nI n → False := fun x hx e => by
                  rcases h4 x hx with q | ⟨c', q1, q2, q3⟩
                  · rw [q] at e; exact nI_m1 (n := n) (by omega) e.symm
                  · rw [q3] at e
                    have := (nI_eqs (by omega) (by omega)).mp e
                    rw [this, va_s] at q2; cases q2
                rcases List.mem_cons.mp hx with z1 | z1 <;> rcases List.mem_cons.mp hy with z2 | z2
                · rw [z1, z2]
                · rw [z1, eb] at e1
                  have := (nI_eqs (by omega) (by omega)).mp e1
                  rw [← this] at e2
                  exact absurd e2 (no y z2)
                · rw [z2, eb] at e2
                  have := (nI_eqs (by omega) (by omega)).mp e2
                  rw [← this] at e1
                  exact absurd e1 (no x z1)
                · exact h5 x y c' z1 z2 hc' e1 e2
          · rw [if_neg c] at h; exact ihn (by omega) r h
      exact key nc (Nat.le_refl _) r h1
    · obtain ⟨h2, h3, h4, h5⟩ := h1
      have eb : r.2.2 b = -1 := by rw [h3 b hbl, va_s]
      refine Or.inr ⟨by rw [List.length_cons]; omega, fun x hx => ?_, fun x hx => ?_, fun x y c hx hy hc e1 e2 => ?_⟩
      · rw [h3 x (fun z => hx (List.mem_cons_of_mem _ z)), va_n _ _ (fun z => hx (by rw [z]; exact List.mem_cons_self))]
      · rcases List.mem_cons.mp hx with z | z
        · exact Or.inl (by rw [z]; exact eb)
        · exact h4 x z
      · rcases List.mem_cons.mp hx with z1 | z1
        · rw [z1, eb] at e1; exact absurd e1.symm (nI_m1 (by omega))
        · rcases List.mem_cons.mp hy with z2 | z2
          · rw [z2, eb] at e2; exact absurd e2.symm (nI_m1 (by omega))
          · exact h5 x y c z1 z2 hc e1 e2
/-- the bookings that must go: those in a week, of cottages that are shut -/
def gsL (p : Nat → Bool) (nb : Nat) : List Nat := (List.range nb).filter p
theorem gs_nodup (p : Nat → Bool) (nb : Nat) : (gsL p nb).Nodup := List.nodup_range.filter _
theorem gs_succ (p : Nat → Bool) (n : Nat) : gsL p (n + 1) = gsL p n ++ (if p n = true then [n] else []) := by
  unfold gsL
  rw [List.range_succ, List.filter_append]
  congr 1
  by_cases c : p n = true
  · simp [c]
  · simp [c]
theorem inj_len {h : Nat → Nat} {n : Nat} : ∀ (l : List Nat), l.Nodup → (∀ x, x ∈ l → h x < n) → (∀ x y, x ∈ l → y ∈ l → h x = h y → x = y) → l.length ≤ n := by
  induction n with
  | zero =>
    intro l _ h1 _
    cases l with
    | nil => exact Nat.le_refl _
    | cons x l => exact absurd (h1 x List.mem_cons_self) (by omega)
  | succ n ih =>
    intro l hn h1 h2
    by_cases c : ∃ x, x ∈ l ∧ h x = n
    · obtain ⟨x, hx, hxn⟩ := c
      have hl := List.length_erase_of_mem hx
      have := ih (l.erase x) (hn.erase x) (fun y hy => by
        have hy1 := (hn.mem_erase_iff.mp hy)
        have := h1 y hy1.2
        have ne : h y ≠ n := fun z => hy1.1 (h2 y x hy1.2 hx (z.trans hxn.symm))
        omega) (fun y z hy hz => h2 y z (hn.mem_erase_iff.mp hy).2 (hn.mem_erase_iff.mp hz).2)
      omega
    · have := ih l hn (fun y hy => by
        have := h1 y hy
        have ne : h y ≠ n := fun z => c ⟨y, hy, z⟩
        omega) h2
      omega
theorem gtD_app {l r : List Nat} {b : Nat} : (l ++ b :: r).getD l.length 0 = b := by
  rw [List.getD_eq_getElem?_getD, List.getElem?_append_right (Nat.le_refl _), Nat.sub_self]; rfl
theorem gtD_mem {l : List Nat} {k : Nat} (h : k < l.length) : l.getD k 0 ∈ l := by
  rw [List.getD_eq_getElem?_getD, List.getElem?_eq_getElem h]
  exact List.getElem_mem h
theorem gtD_inj {l : List Nat} (hn : l.Nodup) {i j : Nat} (h1 : i < l.length) (h2 : j < l.length) (e : l.getD i 0 = l.getD j 0) : i = j := by
  rw [List.getD_eq_getElem?_getD, List.getD_eq_getElem?_getD, List.getElem?_eq_getElem h1, List.getElem?_eq_getElem h2] at e
  exact (List.getElem_inj hn).mp e
theorem mem_gtD {l : List Nat} {b : Nat} (h : b ∈ l) : ∃ k, k < l.length ∧ l.getD k 0 = b := by
  obtain ⟨k, hk, e⟩ := List.mem_iff_getElem.mp h
  exact ⟨k, hk, by rw [List.getD_eq_getElem?_getD, List.getElem?_eq_getElem hk]; exact e⟩

