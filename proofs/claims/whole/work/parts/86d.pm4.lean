/-! the class's planner: what stands in its tables -/
theorem nd_len : ∀ {T : Nat} {x : List Nat}, x.Nodup → (∀ k ∈ x, k < T) → x.length ≤ T
  | 0, x, _, h => by
    cases x with
    | nil => exact Nat.le_refl _
    | cons k x => exact absurd (h k (List.mem_cons_self ..)) (by omega)
  | T + 1, x, hn, h => by
    by_cases e : T ∈ x
    · have := nd_len (T := T) (hn.erase T) (fun k hk => by
        have h1 := h k (List.mem_of_mem_erase hk)
        have h2 : ¬ k = T := fun z => hn.not_mem_erase (z ▸ hk)
        omega)
      rw [List.length_erase_of_mem e] at this
      have := List.length_pos_of_mem e
      omega
    · have := nd_len (T := T) hn (fun k hk => by
        have h1 := h k hk
        have h2 : ¬ k = T := fun z => e (z ▸ hk)
        omega)
      omega
theorem rcW_map {σ : Type} (sp : Nat → σ → Nat → σ) (cs : Nat → σ → Nat → Nat) (κ : Nat → Nat) (t : Nat) (y : List Nat) : ∀ s : σ, rcW (fun t s k => sp t s (κ k)) (fun t s k => cs t s (κ k)) t s y = rcW sp cs t s (y.map κ) ∧ rsW (fun t s k => sp t s (κ k)) t s y = rsW sp t s (y.map κ) := by
  induction y with
  | nil => exact fun s => ⟨rfl, rfl⟩
  | cons j y ih =>
    intro s
    obtain ⟨h1, h2⟩ := ih (sp t s (κ j))
    refine ⟨?_, h2⟩
    show cs t s (κ j) + _ = cs t s (κ j) + _
    rw [h1]
section
variable (p : Nat → Nat → Int32) (nt nc wk nw : Nat)
def rcK (t : Nat) (x : List Nat) : Nat := rcW (fun t s k => spN p wk t s (tdK p nc wk k)) (fun t s k => kcN p nt wk t s (tdK p nc wk k)) t (s0N p wk nw t) x
def rsK (t : Nat) (x : List Nat) : Nat × Nat × Nat := rsW (fun t s k => spN p wk t s (tdK p nc wk k)) t (s0N p wk nw t) x
/-- the tables of team t, while the row w is tried and V is done -/
def LI (ad : Nat → Nat → Nat) (t ceil : Nat) (V : List Nat → Prop) (w : List Nat) (C Q : Nat → Nat) (K : Nat) (f : Nat → Nat → Int32) (g : Nat → Nat → Int64) : Prop :=
  (∀ m, m < 128 → g (ad 0 19) (128 * t + m) = lN (C m) ∧ f (ad 0 20) (128 * t + m) = nI (Q m) ∧ C m ≤ 2 ^ 60) ∧ CVd (rcK p nt nc wk nw t) ceil V C Q ∧
  ∀ J, J < 896 → ∃ cn, cn ≤ K ∧ f (ad 0 29) J = nI cn ∧ ∀ i, i < cn → i < 4 → ∃ x, Rw (tdL p nc wk).length x ∧ mkN x * 7 + x.getLastD 0 = J ∧ f (ad 0 26) (J * 4 + i) = nI (rsK p nc wk nw t x).1 ∧ f (ad 0 27) (J * 4 + i) = nI (rsK p nc wk nw t x).2.2 ∧ g (ad 0 28) (J * 4 + i) = lN (rcK p nt nc wk nw t x) ∧ (x <+: w ∨ ∀ s, Rw (tdL p nc wk).length (x ++ s) → V (x ++ s))
end
/-- what lengthening leaves alone: places up to many, other teams' tables -/
def LFr (ad : Nat → Nat → Nat) (t many : Nat) (f : Nat → Nat → Int32) (g : Nat → Nat → Int64) (f' : Nat → Nat → Int32) (g' : Nat → Nat → Int64) : Prop :=
  (∀ a i k, ¬ (a = 0 ∧ ((20 ≤ i ∧ i ≤ 24) ∨ i = 26 ∨ i = 27 ∨ i = 29)) → f' (ad a i) k = f (ad a i) k) ∧ (∀ i k, 21 ≤ i → i ≤ 24 → k ≤ many → f' (ad 0 i) k = f (ad 0 i) k) ∧ (∀ k, ¬ (128 * t < k ∧ k < 128 * t + 128) → f' (ad 0 20) k = f (ad 0 20) k) ∧
  (∀ a i k, ¬ (a = 0 ∧ (i = 19 ∨ i = 25 ∨ i = 28)) → g' (ad a i) k = g (ad a i) k) ∧ (∀ k, k ≤ many → g' (ad 0 25) k = g (ad 0 25) k) ∧ ∀ k, ¬ (128 * t < k ∧ k < 128 * t + 128) → g' (ad 0 19) k = g (ad 0 19) k
theorem LFr.refl (ad : Nat → Nat → Nat) (t many : Nat) (f : Nat → Nat → Int32) (g : Nat → Nat → Int64) : LFr ad t many f g f g := ⟨fun _ _ _ _ => rfl, fun _ _ _ _ _ => rfl, fun _ _ => rfl, fun _ _ _ _ => rfl, fun _ _ => rfl, fun _ _ => rfl⟩
theorem LFr.trans {ad : Nat → Nat → Nat} {t m m' : Nat} {f f' f'' : Nat → Nat → Int32} {g g' g'' : Nat → Nat → Int64} (h : LFr ad t m f g f' g') (h' : LFr ad t m' f' g' f'' g'') (hm : m ≤ m') : LFr ad t m f g f'' g'' := by
  obtain ⟨a1, a2, a3, a4, a5, a6⟩ := h
  obtain ⟨b1, b2, b3, b4, b5, b6⟩ := h'
  exact ⟨fun a i k z => (b1 a i k z).trans (a1 a i k z), fun i k z1 z2 z3 => (b2 i k z1 z2 (by omega)).trans (a2 i k z1 z2 z3), fun k z => (b3 k z).trans (a3 k z), fun a i k z => (b4 a i k z).trans (a4 a i k z), fun k z => (b5 k (by omega)).trans (a5 k z), fun k z => (b6 k z).trans (a6 k z)⟩
theorem LFr.plF {ad : Nat → Nat → Nat} {t m : Nat} {f f' : Nat → Nat → Int32} {g g' : Nat → Nat → Int64} (h : LFr ad t m f g f' g') : plF ad f f' := fun a i k z => h.1 a i k (by omega)
theorem LFr.SA {ad : Nat → Nat → Nat} {t m j C : Nat} {s : Nat × Nat × Nat} {f f' : Nat → Nat → Int32} {g g' : Nat → Nat → Int64} (h : LFr ad t m f g f' g') (hs : SA ad f g j s C) (hj : j ≤ m) : SA ad f' g' j s C := by
  obtain ⟨a1, a2, a3, a4, a5, a6⟩ := h
  obtain ⟨s1, s2, s3, s4⟩ := hs
  exact ⟨(a2 21 j (by omega) (by omega) hj).trans s1, (a2 22 j (by omega) (by omega) hj).trans s2, (a2 23 j (by omega) (by omega) hj).trans s3, (a5 j hj).trans s4⟩
theorem LFr.pb {ad : Nat → Nat → Nat} {t m i C : Nat} {s : Nat × Nat × Nat} {f : Nat → Nat → Int32} {g : Nat → Nat → Int64} (hi : Inj ad) (hm : m < i) : LFr ad t m f g (pbF ad f i s) (up2 g (ad 0 25) i (lN C)) := by
  refine ⟨fun a i' k z => plF.pb' hi (by omega), fun i' k z1 z2 z3 => ?_, fun k z => plF.pb' hi (by omega), fun a i' k z => ?_, fun k z => ?_, fun k z => ?_⟩
  · unfold pbF
    rw [up2_n _ _ (by omega), up2_n _ _ (by omega), up2_n _ _ (by omega)]
  · rw [up2_n _ _ (fun y => z (by have := hi _ _ _ _ y.1; omega))]
  · rw [up2_n _ _ (by omega)]
  · rw [up2_n _ _ (fun y => absurd (hi _ _ _ _ y.1).2 (by decide))]
where
  plF.pb' {ad : Nat → Nat → Nat} {f : Nat → Nat → Int32} {i a i' k : Nat} {s : Nat × Nat × Nat} (hi : Inj ad) (z : ¬ (a = 0 ∧ 21 ≤ i' ∧ i' ≤ 23)) : pbF ad f i s (ad a i') k = f (ad a i') k := by
    unfold pbF
    rw [up2_n _ _ (fun y => z (by have := hi _ _ _ _ y.1; omega)), up2_n _ _ (fun y => z (by have := hi _ _ _ _ y.1; omega)), up2_n _ _ (fun y => z (by have := hi _ _ _ _ y.1; omega))]
section
variable {p : Nat → Nat → Int32} {nt nc wk nw t ceil K k : Nat} {ad : Nat → Nat → Nat} {V V' : List Nat → Prop} {w x : List Nat} {C Q : Nat → Nat} {f f' : Nat → Nat → Int32} {g g' : Nat → Nat → Int64}
theorem rsK_app (x : List Nat) (k : Nat) : rsK p nc wk nw t (x ++ [k]) = spN p wk t (rsK p nc wk nw t x) (tdK p nc wk k) := by
  unfold rsK
  rw [rsW_app]; rfl
theorem rcK_app (x : List Nat) (k : Nat) : rcK p nt nc wk nw t (x ++ [k]) = rcK p nt nc wk nw t x + kcN p nt wk t (rsK p nc wk nw t x) (tdK p nc wk k) := by
  unfold rcK
  rw [rcW_app]
  show _ + (_ + 0) = _
  rw [Nat.add_zero]; rfl
theorem rcK_ge (x s : List Nat) : rcK p nt nc wk nw t x ≤ rcK p nt nc wk nw t (x ++ s) := by
  unfold rcK
  rw [rcW_app]
  exact Nat.le_add_right _ _
theorem rcK_map (y : List Nat) (s : Nat × Nat × Nat) : rcW (fun t s k => spN p wk t s (tdK p nc wk k)) (fun t s k => kcN p nt wk t s (tdK p nc wk k)) t s y = rcW (spN p wk) (kcN p nt wk) t s (y.map (tdK p nc wk)) ∧ rsW (fun t s k => spN p wk t s (tdK p nc wk k)) t s y = rsW (spN p wk) t s (y.map (tdK p nc wk)) := rcW_map _ _ _ t y s
theorem rcK_bd (hP : PW p nt nc wk nw) (ht : t < nt) (hn : x.Nodup) (hx : ∀ k ∈ x, k < (tdL p nc wk).length) : rcK p nt nc wk nw t x < 2 ^ 40 ∧ sOK x.length (rsK p nc wk nw t x) ∧ x.length ≤ 7 := by
  have l1 := nd_len hn hx
  have l2 := td_le (p := p) (nc := nc) (wk := wk)
  have l3 := hP.2.2.2
  obtain ⟨r1, r2, r3, r4, r5⟩ := hP.rc ht (r := x.map (tdK p nc wk)) (hP.s0 ht) (fun c hc => by
    obtain ⟨k, hk, rfl⟩ := List.mem_map.mp hc
    exact tdK_mem (hx k hk))
  obtain ⟨e1, e2⟩ := rcK_map (p := p) (nt := nt) (nc := nc) (wk := wk) (t := t) x (s0N p wk nw t)
  rw [List.length_map] at r1 r2 r3 r5
  rw [Nat.zero_add] at r1 r5
  refine ⟨?_, ?_, by omega⟩
  · unfold rcK
    rw [e1, ← r4]
    unfold pk3
    have : x.length * (2080 + 640 * x.length) ≤ 7 * (2080 + 640 * x.length) := Nat.mul_le_mul_right _ (by omega)
    omega
  · unfold rsK
    rw [e2]; exact r5
theorem rcK_sub {x r s : List Nat} (h1 : rcK p nt nc wk nw t x ≤ rcK p nt nc wk nw t r) (h2 : (rsK p nc wk nw t x).1 ≤ (rsK p nc wk nw t r).1) (h3 : (rsK p nc wk nw t x).2 = (rsK p nc wk nw t r).2) : rcK p nt nc wk nw t (x ++ s) ≤ rcK p nt nc wk nw t (r ++ s) := by
  unfold rcK at *
  rw [rcW_app, rcW_app]
  exact Nat.add_le_add h1 (rc_mono s _ _ h2 h3)
theorem LI.mem (h : LI p nt nc wk nw ad t ceil V w C Q K f g) (e : ∀ i k, i = 20 ∨ i = 26 ∨ i = 27 ∨ i = 29 → f' (ad 0 i) k = f (ad 0 i) k) (ej : ∀ i k, i = 19 ∨ i = 28 → g' (ad 0 i) k = g (ad 0 i) k) : LI p nt nc wk nw ad t ceil V w C Q K f' g' := by
  obtain ⟨h1, h2, h3⟩ := h
  refine ⟨fun m hm => by rw [ej 19 _ (by omega), e 20 _ (by omega)]; exact h1 m hm, h2, fun J hJ => ?_⟩
  obtain ⟨cn, c1, c2, c3⟩ := h3 J hJ
  refine ⟨cn, c1, by rw [e 29 _ (by omega)]; exact c2, fun i i1 i2 => ?_⟩
  obtain ⟨x, x1, x2, x3, x4, x5, x6⟩ := c3 i i1 i2
  exact ⟨x, x1, x2, by rw [e 26 _ (by omega)]; exact x3, by rw [e 27 _ (by omega)]; exact x4, by rw [ej 28 _ (by omega)]; exact x5, x6⟩
theorem LI.grow {K' : Nat} (h : LI p nt nc wk nw ad t ceil V w C Q K f g) (hc : CVd (rcK p nt nc wk nw t) ceil V' C Q) (hV : ∀ x, V x → V' x) (hK : K ≤ K') : LI p nt nc wk nw ad t ceil V' w C Q K' f g := by
  obtain ⟨h1, h2, h3⟩ := h
  refine ⟨h1, hc, fun J hJ => ?_⟩
  obtain ⟨cn, c1, c2, c3⟩ := h3 J hJ
  refine ⟨cn, by omega, c2, fun i i1 i2 => ?_⟩
  obtain ⟨x, x1, x2, x3, x4, x5, x6⟩ := c3 i i1 i2
  exact ⟨x, x1, x2, x3, x4, x5, x6.imp id (fun y s hs => hV _ (y s hs))⟩
theorem CVd.congr {rc : List Nat → Nat} (h : CVd rc ceil V C Q) (hV : ∀ x, V' x ↔ V x) : CVd rc ceil V' C Q :=
  ⟨fun m hm => (h.1 m hm).imp id (fun ⟨x, x1, x2⟩ => ⟨x, (hV x).mpr x1, x2⟩), fun x hx => h.2 x ((hV x).mp hx)⟩
theorem LI.congr (h : LI p nt nc wk nw ad t ceil V w C Q K f g) (hV : ∀ x, V' x ↔ V x) : LI p nt nc wk nw ad t ceil V' w C Q K f g := h.grow (h.2.1.congr hV) (fun x hx => (hV x).mpr hx) (Nat.le_refl _)
theorem last_app (y : List Nat) (k : Nat) : (y ++ [k]).getLastD 0 = k := by simp
theorem mkJ {x r : List Nat} (hx : x.getLastD 0 < 7) (hr : r.getLastD 0 < 7) (h : mkN x * 7 + x.getLastD 0 = mkN r * 7 + r.getLastD 0) : mkN x = mkN r ∧ x.getLastD 0 = r.getLastD 0 := by omega
theorem last_lt {T : Nat} (h : Rw T x) : x.getLastD 0 < T := by
  have : x.getLastD 0 ∈ x := by
    cases x with
    | nil => exact absurd rfl h.1
    | cons a x => rw [List.getLastD_cons]; exact List.getLastD_mem_cons ..
  exact h.2.2 _ this
theorem last_snoc (h : ¬ x = []) : ∃ y, x = y ++ [x.getLastD 0] := by
  refine ⟨x.dropLast, ?_⟩
  have := List.dropLast_concat_getLast h
  rw [List.getLastD_eq_getLast?, List.getLast?_eq_some_getLast h]
  exact this.symm
/-- a new label -/
theorem LI.label {r : List Nat} {J cn : Nat} (hi : Inj ad) (h : LI p nt nc wk nw ad t ceil V w C Q K f g) (hr : Rw (tdL p nc wk).length r) (hJ : mkN r * 7 + r.getLastD 0 = J) (hc : f (ad 0 29) J = nI cn) (hcn : cn < 2 ^ 29) (hK : K < 2 ^ 29) (hw : w <+: r) :
    LI p nt nc wk nw ad t ceil V r C Q (K + 1) (up2 (up2 (up2 f (ad 0 26) (J * 4 + cn % 4) (nI (rsK p nc wk nw t r).1)) (ad 0 27) (J * 4 + cn % 4) (nI (rsK p nc wk nw t r).2.2)) (ad 0 29) J (nI (cn + 1))) (up2 g (ad 0 28) (J * 4 + cn % 4) (lN (rcK p nt nc wk nw t r))) := by
  obtain ⟨h1, h2, h3⟩ := h
  have n0 : ∀ i j, ¬ i = j → ¬ ad 0 i = ad 0 j := fun i j z y => z (hi _ _ _ _ y).2
  refine ⟨fun m hm => ?_, h2, fun J' hJ' => ?_⟩
  · rw [up2_n _ _ (fun y => n0 19 28 (by decide) y.1), up2_n _ _ (fun y => n0 20 29 (by decide) y.1), up2_n _ _ (fun y => n0 20 27 (by decide) y.1), up2_n _ _ (fun y => n0 20 26 (by decide) y.1)]
    exact h1 m hm
  · obtain ⟨cn', c1, c2, c3⟩ := h3 J' hJ'
    have r26 : ∀ a, up2 (up2 (up2 f (ad 0 26) (J * 4 + cn % 4) (nI (rsK p nc wk nw t r).1)) (ad 0 27) (J * 4 + cn % 4) (nI (rsK p nc wk nw t r).2.2)) (ad 0 29) J (nI (cn + 1)) (ad 0 26) a = up2 f (ad 0 26) (J * 4 + cn % 4) (nI (rsK p nc wk nw t r).1) (ad 0 26) a := fun a => by
      rw [up2_n _ _ (fun y => n0 26 29 (by decide) y.1), up2_n _ _ (fun y => n0 26 27 (by decide) y.1)]
    have r27 : ∀ a, up2 (up2 (up2 f (ad 0 26) (J * 4 + cn % 4) (nI (rsK p nc wk nw t r).1)) (ad 0 27) (J * 4 + cn % 4) (nI (rsK p nc wk nw t r).2.2)) (ad 0 29) J (nI (cn + 1)) (ad 0 27) a = up2 f (ad 0 27) (J * 4 + cn % 4) (nI (rsK p nc wk nw t r).2.2) (ad 0 27) a := fun a => by
      rw [up2_n _ _ (fun y => n0 27 29 (by decide) y.1)]
      by_cases e : a = J * 4 + cn % 4
      · rw [e, up2_s, up2_s]
      · rw [up2_n _ _ (fun y => e y.2), up2_n _ _ (fun y => e y.2), up2_n _ _ (fun y => e y.2)]
    have old : ∀ i, i < cn' → i < 4 → ¬ J' * 4 + i = J * 4 + cn % 4 → ∃ x, Rw (tdL p nc wk).length x ∧ mkN x * 7 + x.getLastD 0 = J' ∧ up2 f (ad 0 26) (J * 4 + cn % 4) (nI (rsK p nc wk nw t r).1) (ad 0 26) (J' * 4 + i) = nI (rsK p nc wk nw t x).1 ∧ up2 f (ad 0 27) (J * 4 + cn % 4) (nI (rsK p nc wk nw t r).2.2) (ad 0 27) (J' * 4 + i) = nI (rsK p nc wk nw t x).2.2 ∧ up2 g (ad 0 28) (J * 4 + cn % 4) (lN (rcK p nt nc wk nw t r)) (ad 0 28) (J' * 4 + i) = lN (rcK p nt nc wk nw t x) ∧ (x <+: r ∨ ∀ s, Rw (tdL p nc wk).length (x ++ s) → V (x ++ s)) := fun i i1 i2 i3 => by
      obtain ⟨x, x1, x2, x3, x4, x5, x6⟩ := c3 i i1 i2
      exact ⟨x, x1, x2, by rw [up2_n _ _ (fun y => i3 y.2)]; exact x3, by rw [up2_n _ _ (fun y => i3 y.2)]; exact x4, by rw [up2_n _ _ (fun y => i3 y.2)]; exact x5, x6.imp (fun y => y.trans hw) id⟩
    by_cases e : J' = J
    · subst e
      have ecn : cn' = cn := (nI_eqs (by omega) (by omega)).mp (c2.symm.trans hc)
      subst ecn
      refine ⟨cn' + 1, by omega, up2_s _ _ _ _, fun i i1 i2 => ?_⟩
      rw [r26, r27]
      by_cases z : i = cn' % 4
      · rw [z, up2_s, up2_s, up2_s]
        exact ⟨r, hr, hJ, rfl, rfl, rfl, Or.inl List.prefix_rfl⟩
      · exact old i (by omega) i2 (by omega)
    · refine ⟨cn', by omega, by rw [up2_n _ _ (fun y => e y.2), up2_n _ _ (fun y => n0 29 27 (by decide) y.1), up2_n _ _ (fun y => n0 29 26 (by decide) y.1)]; exact c2, fun i i1 i2 => ?_⟩
      rw [r26, r27]
      exact old i i1 i2 (by omega)
/-- a better row -/
theorem LI.keep1 {r : List Nat} (hi : Inj ad) (h : LI p nt nc wk nw ad t ceil V w C Q K f g) (hr : Rw (tdL p nc wk).length r) (hm : mkN r < 128) (hb : rcK p nt nc wk nw t r ≤ 2 ^ 60) (hc : rcK p nt nc wk nw t r < C (mkN r)) (hV : ∀ x, V' x ↔ V x ∨ x = r) : LI p nt nc wk nw ad t ceil V' w (upN C (mkN r) (rcK p nt nc wk nw t r)) (upN Q (mkN r) (octD 7 r)) K (up2 f (ad 0 20) (128 * t + mkN r) (nI (octD 7 r))) (up2 g (ad 0 19) (128 * t + mkN r) (lN (rcK p nt nc wk nw t r))) := by
  have n0 : ∀ i j, ¬ i = j → ¬ ad 0 i = ad 0 j := fun i j z y => z (hi _ _ _ _ y).2
  have cv := h.2.1.keep1 hr hc hV
  obtain ⟨h1, h2, h3⟩ := h
  refine ⟨fun m hm => ?_, cv, fun J hJ => ?_⟩
  · by_cases e : m = mkN r
    · rw [e, up2_s, up2_s, upN_s, upN_s]; exact ⟨rfl, rfl, hb⟩
    · rw [up2_n _ _ (fun y => e (by have := y.2; omega)), up2_n _ _ (fun y => e (by have := y.2; omega)), upN_n e, upN_n e]
      exact h1 m hm
  · obtain ⟨cn, c1, c2, c3⟩ := h3 J hJ
    refine ⟨cn, c1, by rw [up2_n _ _ (fun y => n0 29 20 (by decide) y.1)]; exact c2, fun i i1 i2 => ?_⟩
    obtain ⟨x, x1, x2, x3, x4, x5, x6⟩ := c3 i i1 i2
    exact ⟨x, x1, x2, by rw [up2_n _ _ (fun y => n0 26 20 (by decide) y.1)]; exact x3, by rw [up2_n _ _ (fun y => n0 27 20 (by decide) y.1)]; exact x4, by rw [up2_n _ _ (fun y => n0 28 19 (by decide) y.1)]; exact x5, x6.imp id (fun y s hs => (hV _).mpr (Or.inl (y s hs)))⟩
/-- back from a child -/
theorem LI.up {r : List Nat} {k : Nat} (h : LI p nt nc wk nw ad t ceil (VE (tdL p nc wk).length (fun y => VK (tdL p nc wk).length V w k y ∨ y = w ++ [k]) (w ++ [k])) (w ++ [k]) C Q K f g) (hk : ¬ k ∈ w) (hr : Rw (tdL p nc wk).length (w ++ [k])) : LI p nt nc wk nw ad t ceil (VK (tdL p nc wk).length V w (k + 1)) w C Q K f g := by
  obtain ⟨h1, h2, h3⟩ := h
  refine ⟨h1, h2.congr (VK_c hk hr), fun J hJ => ?_⟩
  obtain ⟨cn, c1, c2, c3⟩ := h3 J hJ
  refine ⟨cn, c1, c2, fun i i1 i2 => ?_⟩
  obtain ⟨x, x1, x2, x3, x4, x5, x6⟩ := c3 i i1 i2
  refine ⟨x, x1, x2, x3, x4, x5, ?_⟩
  rcases x6 with y | y
  · rw [List.prefix_concat_iff] at y
    rcases y with rfl | y
    · exact Or.inr (fun s hs => (VK_c hk hr _).mpr (by
        by_cases e : s = []
        · rw [e, List.append_nil]; exact Or.inl (Or.inr rfl)
        · exact Or.inr ⟨hs, List.prefix_append _ _, fun z => e (by simpa using z)⟩))
    · exact Or.inl y
  · exact Or.inr (fun s hs => (VK_c hk hr _).mpr (y s hs))
end
