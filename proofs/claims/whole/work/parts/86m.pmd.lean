/-! the best plan by sets is the best plan -/
theorem octD_lexm {κ : Nat → Nat} {T : Nat} (hκ : ∀ a b, a < T → b < T → a < b → κ a < κ b) (h7 : ∀ a, a < T → κ a < 7) (hT : T ≤ 7) : ∀ {n : Nat} {x y u v : List Nat}, (∀ z ∈ x, z < T) → (∀ z ∈ y, z < T) → octD n x < octD n y → lexL (x.map κ ++ 7 :: u) (y.map κ ++ 7 :: v)
  | 0, _, _, _, _, _, _, e => by simp [octD] at e
  | n + 1, [], [], _, _, _, _, e => by omega
  | n + 1, [], d :: y, u, v, _, hy, e => by
    exfalso
    rw [octD_nil, octD_cons, Nat.pow_succ] at e
    have h1 := octD_lt (n := n) (w := y) (fun z hz => by have := hy z (List.mem_cons_of_mem _ hz); omega)
    have h2 : d * 8 ^ n ≤ 6 * 8 ^ n := Nat.mul_le_mul_right _ (by have := hy d (List.mem_cons_self ..); omega)
    omega
  | n + 1, c :: x, [], u, v, hx, _, _ => Or.inl (h7 c (hx c (List.mem_cons_self ..)))
  | n + 1, c :: x, d :: y, u, v, hx, hy, e => by
    rw [octD_cons, octD_cons] at e
    have h2 := octD_lt (n := n) (w := y) (fun z hz => by have := hy z (List.mem_cons_of_mem _ hz); omega)
    rcases Nat.lt_trichotomy c d with z | z | z
    · exact Or.inl (hκ c d (hx c (List.mem_cons_self ..)) (hy d (List.mem_cons_self ..)) z)
    · refine Or.inr ⟨by rw [z], octD_lexm hκ h7 hT (n := n) (fun z hz => hx z (List.mem_cons_of_mem _ hz)) (fun z hz => hy z (List.mem_cons_of_mem _ hz)) ?_⟩
      rw [z] at e; omega
    · exfalso
      have : (d + 1) * 8 ^ n ≤ c * 8 ^ n := Nat.mul_le_mul_right _ z
      rw [Nat.add_mul] at this; omega
def o3 (ξ : Nat → List Nat) : Nat × Nat × Nat := (octD 7 (ξ 0), octD 7 (ξ 1), octD 7 (ξ 2))
theorem enc_le {κ : Nat → Nat} {T nt : Nat} {ξ ξ' : Nat → List Nat} (hκ : ∀ a b, a < T → b < T → a < b → κ a < κ b) (h7 : ∀ a, a < T → κ a < 7) (hT : T ≤ 7) (nt3 : nt ≤ 3) (hx : ∀ t, (ξ t).length ≤ 7 ∧ ∀ z ∈ ξ t, z < T) (hx' : ∀ t, (ξ' t).length ≤ 7 ∧ ∀ z ∈ ξ' t, z < T) (h : le3 (o3 ξ) (o3 ξ')) : lexL (encR (fun t => (ξ t).map κ) 0 nt) (encR (fun t => (ξ' t).map κ) 0 nt) := by
  have eqo : ∀ t, octD 7 (ξ t) = octD 7 (ξ' t) → ξ t = ξ' t := fun t e => octD_inj (hx t).1 (hx' t).1 (fun z hz => by have := (hx t).2 z hz; omega) (fun z hz => by have := (hx' t).2 z hz; omega) e
  have step : ∀ (t n : Nat), (octD 7 (ξ t) = octD 7 (ξ' t) → lexL (encR (fun t => (ξ t).map κ) (t + 1) n) (encR (fun t => (ξ' t).map κ) (t + 1) n)) → octD 7 (ξ t) ≤ octD 7 (ξ' t) → lexL (encR (fun t => (ξ t).map κ) t (n + 1)) (encR (fun t => (ξ' t).map κ) t (n + 1)) := fun t n h1 h2 => by
    rw [encR, encR]
    rcases Nat.lt_or_eq_of_le h2 with z | z
    · exact octD_lexm hκ h7 hT (hx t).2 (hx' t).2 z
    · rw [eqo t z, lexL_pre]
      exact Or.inr ⟨rfl, h1 z⟩
  unfold le3 o3 at h
  simp only at h
  have r : nt = 0 ∨ nt = 1 ∨ nt = 2 ∨ nt = 3 := by omega
  rcases r with rfl | rfl | rfl | rfl
  · exact trivial
  · exact step 0 0 (fun _ => trivial) (by omega)
  · exact step 0 1 (fun e => step 1 0 (fun _ => trivial) (by omega)) (by omega)
  · exact step 0 2 (fun e => step 1 1 (fun e' => step 2 0 (fun _ => trivial) (by omega)) (by omega)) (by omega)
theorem fmR3 {nt : Nat} {ξ : Nat → List Nat} (nt3 : nt ≤ 3) (h : ∀ t, nt ≤ t → ξ t = []) : (List.range nt).flatMap ξ = ξ 0 ++ (ξ 1 ++ ξ 2) := by
  have r : nt = 0 ∨ nt = 1 ∨ nt = 2 ∨ nt = 3 := by omega
  rcases r with rfl | rfl | rfl | rfl
  · simp [h 0, h 1, h 2]
  · simp [List.range_succ, h 1, h 2]
  · simp [List.range_succ, h 2]
  · simp [List.range_succ]
section
variable {p : Nat → Nat → Int32} {nt nc wk nw : Nat} {ξ : Nat → List Nat}
theorem tdK_mono {a b : Nat} (ha : a < (tdL p nc wk).length) (hb : b < (tdL p nc wk).length) (h : a < b) : tdK p nc wk a < tdK p nc wk b := by
  unfold tdK
  rw [List.getD_eq_getElem?_getD, List.getElem?_eq_getElem ha, List.getD_eq_getElem?_getD, List.getElem?_eq_getElem hb]
  exact List.pairwise_iff_getElem.mp td_as a b ha hb h
theorem tdK_range : (List.range (tdL p nc wk).length).map (tdK p nc wk) = tdL p nc wk := by
  refine List.ext_getElem (by rw [List.length_map, List.length_range]) (fun i h1 h2 => ?_)
  rw [List.getElem_map, List.getElem_range]
  unfold tdK
  rw [List.getD_eq_getElem?_getD, List.getElem?_eq_getElem h2]; rfl
theorem PK.plan (h : PK nt (tdL p nc wk).length ξ) : isPlan p nt nc wk (fun t => (ξ t).map (tdK p nc wk)) := by
  unfold isPlan
  rw [← List.map_flatMap]
  have := List.Perm.map (tdK p nc wk) h
  rwa [tdK_range] at this
theorem PK.of {ρ : Nat → List Nat} (h : isPlan p nt nc wk ρ) : PK nt (tdL p nc wk).length (fun t => (ρ t).map (tdL p nc wk).idxOf) := by
  unfold PK
  rw [← List.map_flatMap]
  have e : (tdL p nc wk).map (tdL p nc wk).idxOf = List.range (tdL p nc wk).length := by
    refine List.ext_getElem (by rw [List.length_map, List.length_range]) (fun i h1 h2 => ?_)
    rw [List.getElem_map, List.getElem_range]
    exact td_nd.idxOf_getElem i _
  have := List.Perm.map (tdL p nc wk).idxOf h
  rwa [e] at this
theorem tc_pl (hP : PW p nt nc wk nw) (h : PK nt (tdL p nc wk).length ξ) : ∀ n, n ≤ nt → tcK p nt nc wk nw ξ n = pk3 (pl3 p nt wk nw (fun t => (ξ t).map (tdK p nc wk)) n)
  | 0, _ => by simp [tcK, pl3, pk3]
  | n + 1, hn => by
    have ih := tc_pl hP h n (by omega)
    obtain ⟨r1, r2⟩ := h.row (show n < nt by omega)
    obtain ⟨-, -, -, r4, -⟩ := hP.rc (show n < nt by omega) (r := (ξ n).map (tdK p nc wk)) (hP.s0 (show n < nt by omega)) (fun c hc => by
      obtain ⟨k, hk, rfl⟩ := List.mem_map.mp hc
      exact tdK_mem (r2 k hk))
    have e := (rcK_map (p := p) (nt := nt) (nc := nc) (wk := wk) (t := n) (ξ n) (s0N p wk nw n)).1
    rw [tcK, ih]
    unfold rcK
    rw [e, ← r4]
    unfold pk3
    simp only [pl3]
    omega
/-- a best one by indices is a best one -/
theorem best_ix (hP : PW p nt nc wk nw) (nt3 : nt ≤ 3) (h : PK nt (tdL p nc wk).length ξ) (h0 : ∀ t, nt ≤ t → ξ t = []) (hb : ∀ ξ', PK nt (tdL p nc wk).length ξ' → (∀ t, nt ≤ t → ξ' t = []) → tcK p nt nc wk nw ξ nt < tcK p nt nc wk nw ξ' nt ∨ (tcK p nt nc wk nw ξ nt = tcK p nt nc wk nw ξ' nt ∧ le3 (o3 ξ) (o3 ξ'))) : isBest p nt nc wk nw (fun t => (ξ t).map (tdK p nc wk)) := by
  have T7 := td_le (p := p) (nc := nc) (wk := wk)
  have nc7 := hP.2.2.2
  have rowall : ∀ {ξ : Nat → List Nat}, PK nt (tdL p nc wk).length ξ → (∀ t, nt ≤ t → ξ t = []) → ∀ t, (ξ t).length ≤ 7 ∧ ∀ z ∈ ξ t, z < (tdL p nc wk).length := fun {ξ} hk hz t => by
    by_cases z : t < nt
    · obtain ⟨r1, r2⟩ := hk.row z
      exact ⟨by have := nd_len r1 r2; omega, r2⟩
    · rw [hz t (by omega)]
      exact ⟨Nat.zero_le _, fun z hz => by cases hz⟩
  have hp := h.plan
  refine ⟨hp, fun t ht => by show (ξ t).map _ = []; rw [h0 t ht]; rfl, fun ρ' hρ' => ?_⟩
  have key : ∃ ξ' : Nat → List Nat, PK nt (tdL p nc wk).length ξ' ∧ (∀ t, nt ≤ t → ξ' t = []) ∧ ∀ t, t < nt → (ξ' t).map (tdK p nc wk) = ρ' t := by
    refine ⟨fun t => if t < nt then (ρ' t).map (tdL p nc wk).idxOf else [], ?_, fun t ht => if_neg (by omega), fun t ht => ?_⟩
    · have := PK.of hρ'
      unfold PK at this ⊢
      rwa [fm_congr (f := fun t => if t < nt then (ρ' t).map (tdL p nc wk).idxOf else []) (g := fun t => (ρ' t).map (tdL p nc wk).idxOf) (fun x hx => if_pos (List.mem_range.mp hx))]
    · show (if t < nt then (ρ' t).map (tdL p nc wk).idxOf else []).map (tdK p nc wk) = ρ' t
      rw [if_pos ht, List.map_map]
      have : (ρ' t).map (tdK p nc wk ∘ (tdL p nc wk).idxOf) = (ρ' t).map id := List.map_congr_left (fun c hc => (td_idx (plan_mem hρ' ht hc)).2)
      rw [this, List.map_id]
  obtain ⟨ξ', k1, k2, k3⟩ := key
  have hp' := k1.plan
  have ee : encP nt ρ' = encP nt (fun t => (ξ' t).map (tdK p nc wk)) := by
    unfold encP
    exact fm_congr (fun t ht => by
      show ρ' t ++ [7] = (ξ' t).map (tdK p nc wk) ++ [7]
      rw [k3 t (List.mem_range.mp ht)])
  have pe : ∀ n, n ≤ nt → planV p nt wk nw ρ' n = planV p nt wk nw (fun t => (ξ' t).map (tdK p nc wk)) n := by
    intro n
    induction n with
    | zero => exact fun _ => rfl
    | succ n ih =>
      intro hn
      rw [planV, planV, ih (by omega), k3 n (by omega)]
  rw [pe nt (Nat.le_refl _), ee, (plan_ct hP hp nt (Nat.le_refl _)).1, (plan_ct hP hp' nt (Nat.le_refl _)).1]
  have z := hb ξ' k1 k2
  rw [tc_pl hP h nt (Nat.le_refl _), tc_pl hP k1 nt (Nat.le_refl _)] at z
  rcases z with z | ⟨z, y⟩
  · exact Or.inl ((lexT_ct (plan_bd hP hp) (plan_bd hP hp')).mpr z)
  · refine Or.inr ⟨by rw [pk3_eq (plan_bd hP hp) (plan_bd hP hp') z], ?_⟩
    rw [encP_R, encP_R]
    exact enc_le (T := (tdL p nc wk).length) (fun a b ha hb hab => tdK_mono ha hb hab) (fun a ha => by have := td_lt (tdK_mem ha); omega) (by omega) nt3 (rowall h h0) (rowall k1 k2) y
end
