/-! plans, their costs and the best one -/
theorem fm_congr {l : List Nat} {f g : Nat → List Nat} (h : ∀ x ∈ l, f x = g x) : l.flatMap f = l.flatMap g := by
  induction l with
  | nil => rfl
  | cons a l ih => rw [List.flatMap_cons, List.flatMap_cons, h a (List.mem_cons_self ..), ih (fun x hx => h x (List.mem_cons_of_mem _ hx))]
def lnR (ρ : Nat → List Nat) : Nat → Nat
  | 0 => 0
  | n + 1 => lnR ρ n + (ρ n).length
theorem lnR_fl (ρ : Nat → List Nat) : ∀ n, ((List.range n).flatMap ρ).length = lnR ρ n
  | 0 => rfl
  | n + 1 => by
    rw [List.range_succ, List.flatMap_append, List.length_append, lnR_fl ρ n, lnR]
    simp
theorem lnR_ge (ρ : Nat → List Nat) : ∀ {n t : Nat}, t < n → (ρ t).length ≤ lnR ρ n
  | n + 1, t, h => by
    rw [lnR]
    by_cases e : t = n
    · rw [e]; omega
    · have := lnR_ge ρ (show t < n by omega); omega
theorem pk3_lt {a b : Nat × Nat × Nat} (ha : a.2.1 ≤ 15 ∧ a.2.2 ≤ 4095) (hb : b.2.1 ≤ 15 ∧ b.2.2 ≤ 4095) : pk3 a < pk3 b ↔ (a.1 < b.1 ∨ (a.1 = b.1 ∧ (a.2.1 < b.2.1 ∨ (a.2.1 = b.2.1 ∧ a.2.2 < b.2.2)))) := by
  unfold pk3
  omega
theorem pk3_eq {a b : Nat × Nat × Nat} (ha : a.2.1 ≤ 15 ∧ a.2.2 ≤ 4095) (hb : b.2.1 ≤ 15 ∧ b.2.2 ≤ 4095) (h : pk3 a = pk3 b) : a = b := by
  unfold pk3 at h
  have h1 : a.1 = b.1 := by omega
  have h2 : a.2.1 = b.2.1 := by omega
  have h3 : a.2.2 = b.2.2 := by omega
  exact Prod.ext h1 (Prod.ext h2 h3)
def ct3 (v : Nat × Nat × Nat) : Int × Int × Int := ((v.1 : Int), (v.2.1 : Int), (v.2.2 : Int))
theorem packV_ct (v : Nat × Nat × Nat) : packV (ct3 v) = (pk3 v : Int) := by
  show (v.1 : Int) * 65536 + (v.2.1 : Int) * 4096 + (v.2.2 : Int) = ((v.1 * 65536 + v.2.1 * 4096 + v.2.2 : Nat) : Int)
  omega
theorem lexT_ct {a b : Nat × Nat × Nat} (ha : a.2.1 ≤ 15 ∧ a.2.2 ≤ 4095) (hb : b.2.1 ≤ 15 ∧ b.2.2 ≤ 4095) : lexT (ct3 a) (ct3 b) ↔ pk3 a < pk3 b := by
  rw [pk3_lt ha hb]
  unfold lexT ct3
  simp only
  omega
section
variable {p : Nat → Nat → Int32} {nt nc wk nw : Nat} {ρ : Nat → List Nat}
def KW (p : Nat → Nat → Int32) (nt wk nw : Nat) (w : List Nat) : Nat := wcW (s0N p wk nw) (spN p wk) (kcN p nt wk) 0 (s0N p wk nw 0) w
theorem plan_mem (h : isPlan p nt nc wk ρ) {t c : Nat} (ht : t < nt) (hc : c ∈ ρ t) : c ∈ tdL p nc wk :=
  h.mem_iff.mp (List.mem_flatMap.mpr ⟨t, List.mem_range.mpr ht, hc⟩)
theorem plan_len (h : isPlan p nt nc wk ρ) : lnR ρ nt = (tdL p nc wk).length := by rw [← lnR_fl]; exact h.length_eq
theorem plan_ct (hP : PW p nt nc wk nw) (h : isPlan p nt nc wk ρ) : ∀ n, n ≤ nt → planV p nt wk nw ρ n = ct3 (pl3 p nt wk nw ρ n) ∧ (pl3 p nt wk nw ρ n).1 ≤ lnR ρ n * 6560 ∧ (pl3 p nt wk nw ρ n).2.1 ≤ lnR ρ n ∧ (pl3 p nt wk nw ρ n).2.2 ≤ 240 * lnR ρ n
  | 0, _ => ⟨rfl, Nat.zero_le _, Nat.zero_le _, Nat.zero_le _⟩
  | n + 1, hn => by
    obtain ⟨i1, i2, i3, i4⟩ := plan_ct hP h n (by omega)
    have ln := plan_len h
    have l7 := td_le (p := p) (nc := nc) (wk := wk)
    have nc7 := hP.2.2.2
    have lg := lnR_ge ρ (show n < nt by omega)
    have hm : ∀ c ∈ ρ n, c ∈ tdL p nc wk := fun c hc => plan_mem h (by omega) hc
    obtain ⟨r1, r2, r3, r4, r5⟩ := hP.rc (show n < nt by omega) (hP.s0 (show n < nt by omega)) hm
    have cs := hP.cast (show n < nt by omega) (hP.s0 (show n < nt by omega)) (by omega) hm
    have lm : (ρ n).length * (2080 + 640 * (0 + (ρ n).length)) ≤ (ρ n).length * 6560 := Nat.mul_le_mul_left _ (by omega)
    refine ⟨?_, ?_, ?_, ?_⟩
    · obtain ⟨z1, z2, z3, z4⟩ := hP.2.1 n (by omega)
      have tv : teamV p nt wk nw n (ρ n) = ct3 (rc3 p nt wk n (s0N p wk nw n) (ρ n)) := by
        unfold teamV
        rw [z2, rg_ti z4 (by decide)]
        exact cs
      show ((planV p nt wk nw ρ n).1 + (teamV p nt wk nw n (ρ n)).1, (planV p nt wk nw ρ n).2.1 + (teamV p nt wk nw n (ρ n)).2.1, (planV p nt wk nw ρ n).2.2 + (teamV p nt wk nw n (ρ n)).2.2) = _
      rw [i1, tv]
      unfold ct3
      simp only [pl3, Int.natCast_add]
    · show (pl3 p nt wk nw ρ n).1 + (rc3 p nt wk n (s0N p wk nw n) (ρ n)).1 ≤ (lnR ρ n + (ρ n).length) * 6560
      rw [Nat.add_mul]; omega
    · show (pl3 p nt wk nw ρ n).2.1 + (rc3 p nt wk n (s0N p wk nw n) (ρ n)).2.1 ≤ lnR ρ n + (ρ n).length
      omega
    · show (pl3 p nt wk nw ρ n).2.2 + (rc3 p nt wk n (s0N p wk nw n) (ρ n)).2.2 ≤ 240 * (lnR ρ n + (ρ n).length)
      omega
theorem plan_bd (hP : PW p nt nc wk nw) (h : isPlan p nt nc wk ρ) : (pl3 p nt wk nw ρ nt).2.1 ≤ 15 ∧ (pl3 p nt wk nw ρ nt).2.2 ≤ 4095 := by
  obtain ⟨i1, i2, i3, i4⟩ := plan_ct hP h nt (Nat.le_refl _)
  have ln := plan_len h
  have l7 := td_le (p := p) (nc := nc) (wk := wk)
  have nc7 := hP.2.2.2
  omega
theorem plan_wc (hP : PW p nt nc wk nw) (h : isPlan p nt nc wk ρ) : ∀ n t, t + n = nt → pk3 (pl3 p nt wk nw ρ nt) = pk3 (pl3 p nt wk nw ρ t) + wcW (s0N p wk nw) (spN p wk) (kcN p nt wk) t (s0N p wk nw t) (encR ρ t n)
  | 0, t, ht => by rw [show t = nt by omega]; exact (Nat.add_zero _).symm
  | n + 1, t, ht => by
    have hm : ∀ c ∈ ρ t, c ∈ tdL p nc wk := fun c hc => plan_mem h (by omega) hc
    have h7 : ∀ c ∈ ρ t, ¬ c = 7 := fun c hc => by have := td_lt (hm c hc); have := hP.2.2.2; omega
    obtain ⟨-, -, -, r4, -⟩ := hP.rc (show t < nt by omega) (hP.s0 (show t < nt by omega)) hm
    rw [plan_wc hP h n (t + 1) (by omega), encR, wcW_row _ _ _ _ _ _ _ h7, ← r4]
    unfold pk3
    simp only [pl3]
    omega
theorem plan_K (hP : PW p nt nc wk nw) (h : isPlan p nt nc wk ρ) : KW p nt wk nw (encP nt ρ) = pk3 (pl3 p nt wk nw ρ nt) := by
  rw [plan_wc hP h nt 0 (by omega), encP_R]
  unfold KW
  simp [pl3, pk3]
theorem plan_full (hP : PW p nt nc wk nw) (hρ : ∀ t, nt ≤ t → ρ t = []) (h7 : ∀ t, ∀ x ∈ ρ t, ¬ x = 7) : Full nt 0 (tdL p nc wk) (encP nt ρ) ↔ isPlan p nt nc wk ρ := by
  rw [encP_R, Full.enc (by omega) (fun x hx => by have := td_lt hx; have := hP.2.2.2; omega) h7]
  unfold isPlan
  rw [flR_rng, List.range_eq_range']
theorem plan_full' (hP : PW p nt nc wk nw) (h : isPlan p nt nc wk ρ) : Full nt 0 (tdL p nc wk) (encP nt ρ) := by
  have e : encP nt ρ = encP nt (fun t => if t < nt then ρ t else []) := by
    unfold encP
    refine fm_congr (fun t ht => ?_)
    show ρ t ++ [7] = (if t < nt then ρ t else []) ++ [7]
    rw [if_pos (List.mem_range.mp ht)]
  rw [e, plan_full hP (fun t ht => if_neg (by omega)) (fun t x hx => ?_)]
  · unfold isPlan
    have e2 : (List.range nt).flatMap (fun t => if t < nt then ρ t else []) = (List.range nt).flatMap ρ := fm_congr (fun t ht => if_pos (List.mem_range.mp ht))
    rw [e2]
    exact h
  · by_cases z : t < nt
    · have hx' : x ∈ ρ t := by simpa [z] using hx
      have := td_lt (plan_mem h z hx')
      have := hP.2.2.2
      omega
    · simp [z] at hx
theorem best_of (hP : PW p nt nc wk nw) (h : isPlan p nt nc wk ρ) (hρ : ∀ t, nt ≤ t → ρ t = []) (hb : ∀ w, Full nt 0 (tdL p nc wk) w → KW p nt wk nw (encP nt ρ) < KW p nt wk nw w ∨ (KW p nt wk nw (encP nt ρ) = KW p nt wk nw w ∧ lexL (encP nt ρ) w)) : isBest p nt nc wk nw ρ := by
  refine ⟨h, hρ, fun ρ' h' => ?_⟩
  have z := hb (encP nt ρ') (plan_full' hP h')
  rw [plan_K hP h, plan_K hP h'] at z
  rw [(plan_ct hP h nt (Nat.le_refl _)).1, (plan_ct hP h' nt (Nat.le_refl _)).1]
  rcases z with z | ⟨z, y⟩
  · exact Or.inl ((lexT_ct (plan_bd hP h) (plan_bd hP h')).mpr z)
  · exact Or.inr ⟨by rw [pk3_eq (plan_bd hP h) (plan_bd hP h') z], y⟩
theorem encR_inj {ρ ρ' : Nat → List Nat} : ∀ {n t : Nat}, (∀ t, ∀ x ∈ ρ t, ¬ x = 7) → (∀ t, ∀ x ∈ ρ' t, ¬ x = 7) → encR ρ t n = encR ρ' t n → ∀ i, t ≤ i → i < t + n → ρ i = ρ' i
  | 0, t, _, _, _, i, h1, h2 => absurd h2 (by omega)
  | n + 1, t, h7, h7', h, i, h1, h2 => by
    have key : ∀ (a b u v : List Nat), (∀ x ∈ a, ¬ x = 7) → (∀ x ∈ b, ¬ x = 7) → a ++ 7 :: u = b ++ 7 :: v → a = b ∧ u = v := by
      intro a
      induction a with
      | nil =>
        intro b u v _ hb e
        cases b with
        | nil => simp at e; exact ⟨rfl, e⟩
        | cons y b => simp at e; exact absurd e.1.symm (hb y (List.mem_cons_self ..))
      | cons x a ih =>
        intro b u v ha hb e
        cases b with
        | nil => simp at e; exact absurd e.1 (ha x (List.mem_cons_self ..))
        | cons y b =>
          simp at e
          obtain ⟨e1, e2⟩ := ih b u v (fun z hz => ha z (List.mem_cons_of_mem _ hz)) (fun z hz => hb z (List.mem_cons_of_mem _ hz)) e.2
          rw [e.1, e1]
          exact ⟨rfl, e2⟩
    obtain ⟨e1, e2⟩ := key _ _ _ _ (h7 t) (h7' t) h
    by_cases e : i = t
    · rw [e]; exact e1
    · exact encR_inj (n := n) (t := t + 1) h7 h7' e2 i (by omega) (by omega)
theorem best_uniq (hP : PW p nt nc wk nw) {ρ ρ' : Nat → List Nat} (h : isBest p nt nc wk nw ρ) (h' : isBest p nt nc wk nw ρ') : ρ = ρ' := by
  have s7 : ∀ {ρ : Nat → List Nat}, isBest p nt nc wk nw ρ → ∀ t, ∀ x ∈ ρ t, ¬ x = 7 := fun {ρ} h t x hx => by
    by_cases z : t < nt
    · have := td_lt (plan_mem h.1 z hx)
      have := hP.2.2.2
      omega
    · rw [h.2.1 t (by omega)] at hx
      cases hx
  have e : encP nt ρ = encP nt ρ' := by
    rcases h.2.2 ρ' h'.1 with a | a <;> rcases h'.2.2 ρ h.1 with b | b
    · unfold lexT at a b; omega
    · rw [b.1] at a; unfold lexT at a; omega
    · rw [a.1] at b; unfold lexT at b; omega
    · exact lexL_anti a.2 b.2
  rw [encP_R, encP_R] at e
  funext t
  by_cases z : t < nt
  · exact encR_inj (s7 h) (s7 h') e t (by omega) (by omega)
  · rw [h.2.1 t (by omega), h'.2.1 t (by omega)]
end
