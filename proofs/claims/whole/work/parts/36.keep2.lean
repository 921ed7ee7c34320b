/-! the invariant's modules where a job, a booking, a team changes a little -/
def eK (nb : Nat) (φ φ' : VI) : Prop := ∀ i k, (k < nb ∧ (i = 6 ∨ i = 7 ∨ i = 16)) ∨ i = 32 → φ' 9 i k = φ 9 i k
theorem hJ.congr2 {φ φ' : VI} {wk nb b : Nat} {op : Bool} (e : eK nb φ φ') (hb : b < nb) : hJ φ' wk op b ↔ hJ φ wk op b := by
  unfold hJ
  rw [e 16 b (by omega), e 7 b (by omega)]
theorem jAt.congr2 {φ φ' : VI} {nb b j : Nat} (e : eK nb φ φ') (hb : b < nb) : jAt φ' b j ↔ jAt φ b j := by
  unfold jAt
  rw [e 6 b (by omega), e 7 b (by omega)]
theorem IJr.congr2 {M : Mem} {ad : Nat → Nat → Nat} {φ φ' : VI} {nb nc wk : Nat} {op : Bool} {f : Nat → Nat → Int32} {g : Nat → Nat → Int64} (h : IJr M ad φ nb nc wk op) (e : eK nb φ φ') : IJr (mm M f g) ad φ' nb nc wk op := by
  refine ⟨fun b hb => ?_, fun w c hw hc => ?_, fun ho c hc => ?_⟩
  · rw [hJ.congr2 e hb]
    exact h.1 b hb
  · rcases h.2.1 w c hw hc with ⟨b, hb, h1, h2, h3, h4⟩ | ⟨h1, h2⟩
    · exact Or.inl ⟨b, hb, by rw [e 16 b (by omega)]; exact h1, by rw [e 6 b (by omega)]; exact h2, by rw [e 7 b (by omega)]; exact h3, h4⟩
    · refine Or.inr ⟨h1, fun b hb => ?_⟩
      rw [e 16 b (by omega), e 6 b (by omega), e 7 b (by omega)]
      exact h2 b hb
  · rcases h.2.2 ho c hc with ⟨b, hb, h1, h2, h3⟩ | ⟨h1, h2⟩
    · exact Or.inl ⟨b, hb, (hJ.congr2 e hb).mpr h1, (jAt.congr2 e hb).mpr h2, h3⟩
    · exact Or.inr ⟨h1, by rw [e 32 _ (by omega)]; exact h2⟩
theorem ILn.congr2 {M : Mem} {ad : Nat → Nat → Nat} {φ φ' : VI} {nl nb wk : Nat} {op : Bool} {f : Nat → Nat → Int32} {g : Nat → Nat → Int64} (h : ILn M ad φ nl nb wk op) (e : eK nb φ φ') (e6 : ∀ b k, b < nb → (k = 1 ∨ k = 2 ∨ ((k = 8 ∨ k = 9) ∧ ¬ φ 6 b 8 = -1)) → φ' 6 b k = φ 6 b k) (e0 : ∀ t i k, (t = 0 ∧ ((i = 10 ∧ (k = 6 ∨ k = 7)) ∨ i = 37 ∨ i = 39)) ∨ (t = 10 ∧ i = 0 ∧ (k = 73 ∨ k = 74)) ∨ (t = 9 ∧ i = 72) → φ' t i k = φ t i k) : ILn (mm M f g) ad φ' nl nb wk op := by
  refine ⟨?_, fun i hi => ?_⟩
  · rw [e0 0 10 6 (by omega), e0 10 0 73 (by omega), e0 0 10 7 (by omega), e0 10 0 74 (by omega)]
    exact h.1
  · obtain ⟨h1, h2, b, hb, h3, h4, h5, h6, h7, h8⟩ := h.2 i hi
    rw [e0 0 37 i (by omega), e0 0 39 i (by omega), e0 9 72 _ (by omega), e0 9 72 _ (by omega), e0 9 72 _ (by omega), e0 9 72 _ (by omega), e0 9 72 _ (by omega)]
    exact ⟨h1, h2, b, hb, (hJ.congr2 e hb).mpr h3, h4, by rw [e6 b 2 hb (by omega)]; exact h5, by rw [e6 b 1 hb (by omega)]; exact h6, by rw [e6 b 9 hb (Or.inr (Or.inr ⟨Or.inr rfl, h8⟩))]; exact h7, by rw [e6 b 8 hb (Or.inr (Or.inr ⟨Or.inl rfl, h8⟩))]; exact h8⟩
theorem jAt_uni {φ : VI} {b j j' : Nat} (h : jAt φ b j) (h' : jAt φ b j') : j = j' := by
  obtain ⟨c, w, q1, q2, q3, q4, q5⟩ := h
  obtain ⟨c', w', r1, r2, r3, r4, r5⟩ := h'
  rw [q3] at r3
  rw [q4] at r4
  have e1 := (nI_eqs (by omega) (by omega)).mp r3
  have e2 := (nI_eqs (by omega) (by omega)).mp r4
  omega
theorem jAt_inj {φ : VI} {nb nc wk b b' j : Nat} {op : Bool} (iB : IBk φ nb nc wk op) (hb : b < nb) (hb' : b' < nb) (hj : hJ φ wk op b) (hj' : hJ φ wk op b') (h : jAt φ b j) (h' : jAt φ b' j) : b = b' := by
  obtain ⟨c, w, q1, q2, q3, q4, q5⟩ := h
  obtain ⟨c', w', r1, r2, r3, r4, r5⟩ := h'
  have e1 : c = c' := by omega
  have e2 : w = w' := by omega
  subst e1 e2
  exact stay_uni iB hb hb' hj.1 hj'.1 (q3.trans r3.symm) (q4.trans r4.symm)
theorem IJo.set {φ φ' : VI} {nb nt nc wk b j kk m : Nat} {op : Bool} {v : Int32} (h : IJo φ nb nt wk op) (iB : IBk φ nb nc wk op) (hb : b < nb) (hj : hJ φ wk op b) (ha : jAt φ b j) (hm : (kk = 5 ∧ m = 33 ∧ rg 0 1440 v) ∨ (kk = 6 ∧ m = 35 ∧ rg 1 400 v)) (e9 : ∀ i k, (k < nb ∧ (i = 6 ∨ i = 7 ∨ i = 8 ∨ i = 14 ∨ i = 16)) ∨ (32 ≤ i ∧ i ≤ 43) → ¬ (i = m ∧ k = j) → φ' 9 i k = φ 9 i k) (e6 : ∀ a k, a < nb → k < 12 → ¬ (a = b ∧ k = kk) → φ' 6 a k = φ 6 a k) (e1 : φ' 6 b kk = v) (e2 : φ' 9 m j = v) : IJo φ' nb nt wk op := by
  have eK1 : eK nb φ φ' := fun i k hq => e9 i k (by omega) (by omega)
  refine ⟨fun a hA haJ j' hja => ?_, fun j' hj' => ?_⟩
  · have haJ' := (hJ.congr2 eK1 hA).mp haJ
    have hja' := (jAt.congr2 eK1 hA).mp hja
    obtain ⟨⟨p1, p2, p3, p4, p5, p6, p7, p8, p9, p10, p11⟩, ⟨q1, q2, q3⟩, r1, r2, r3, r4, r5, r6, r7, r8, r9, r10⟩ := h.1 a hA haJ' j' hja'
    by_cases hab : a = b
    · subst hab
      obtain rfl := jAt_uni ha hja'
      rcases hm with ⟨rfl, rfl, hv⟩ | ⟨rfl, rfl, hv⟩
      · rw [e1, e2, e6 a 1 hA (by omega) (by omega), e6 a 2 hA (by omega) (by omega), e6 a 3 hA (by omega) (by omega), e6 a 4 hA (by omega) (by omega), e6 a 6 hA (by omega) (by omega), e6 a 7 hA (by omega) (by omega), e6 a 8 hA (by omega) (by omega), e6 a 9 hA (by omega) (by omega), e6 a 10 hA (by omega) (by omega), e6 a 11 hA (by omega) (by omega), e9 6 a (by omega) (by omega), e9 7 a (by omega) (by omega), e9 8 a (by omega) (by omega), e9 14 a (by omega) (by omega), e9 32 j (by omega) (by omega), e9 34 j (by omega) (by omega), e9 35 j (by omega) (by omega), e9 36 j (by omega) (by omega), e9 37 j (by omega) (by omega), e9 38 j (by omega) (by omega), e9 39 j (by omega) (by omega), e9 40 j (by omega) (by omega), e9 41 j (by omega) (by omega), e9 42 j (by omega) (by omega), e9 43 j (by omega) (by omega)]
        exact ⟨⟨p1, p2, p3, p4, rfl, p6, p7, p8, p9, p10, p11⟩, ⟨q1, q2, q3⟩, r1, r2, hv, r4, r5, r6, r7, r8, r9, r10⟩
      · rw [e1, e2, e6 a 1 hA (by omega) (by omega), e6 a 2 hA (by omega) (by omega), e6 a 3 hA (by omega) (by omega), e6 a 4 hA (by omega) (by omega), e6 a 5 hA (by omega) (by omega), e6 a 7 hA (by omega) (by omega), e6 a 8 hA (by omega) (by omega), e6 a 9 hA (by omega) (by omega), e6 a 10 hA (by omega) (by omega), e6 a 11 hA (by omega) (by omega), e9 6 a (by omega) (by omega), e9 7 a (by omega) (by omega), e9 8 a (by omega) (by omega), e9 14 a (by omega) (by omega), e9 32 j (by omega) (by omega), e9 33 j (by omega) (by omega), e9 34 j (by omega) (by omega), e9 36 j (by omega) (by omega), e9 37 j (by omega) (by omega), e9 38 j (by omega) (by omega), e9 39 j (by omega) (by omega), e9 40 j (by omega) (by omega), e9 41 j (by omega) (by omega), e9 42 j (by omega) (by omega), e9 43 j (by omega) (by omega)]
        exact ⟨⟨p1, p2, p3, p4, p5, rfl, p7, p8, p9, p10, p11⟩, ⟨q1, q2, q3⟩, r1, r2, r3, hv, r5, r6, r7, r8, r9, r10⟩
    · have hjj : j' ≠ j := fun q => by subst q; exact hab (jAt_inj iB hA hb haJ' hj hja' ha)
      rw [e6 a 1 hA (by omega) (by omega), e6 a 2 hA (by omega) (by omega), e6 a 3 hA (by omega) (by omega), e6 a 4 hA (by omega) (by omega), e6 a 5 hA (by omega) (by omega), e6 a 6 hA (by omega) (by omega), e6 a 7 hA (by omega) (by omega), e6 a 8 hA (by omega) (by omega), e6 a 9 hA (by omega) (by omega), e6 a 10 hA (by omega) (by omega), e6 a 11 hA (by omega) (by omega), e9 6 a (by omega) (by omega), e9 7 a (by omega) (by omega), e9 8 a (by omega) (by omega), e9 14 a (by omega) (by omega), e9 32 j' (by omega) (by omega), e9 33 j' (by omega) (by omega), e9 34 j' (by omega) (by omega), e9 35 j' (by omega) (by omega), e9 36 j' (by omega) (by omega), e9 37 j' (by omega) (by omega), e9 38 j' (by omega) (by omega), e9 39 j' (by omega) (by omega), e9 40 j' (by omega) (by omega), e9 41 j' (by omega) (by omega), e9 42 j' (by omega) (by omega), e9 43 j' (by omega) (by omega)]
      exact ⟨⟨p1, p2, p3, p4, p5, p6, p7, p8, p9, p10, p11⟩, ⟨q1, q2, q3⟩, r1, r2, r3, r4, r5, r6, r7, r8, r9, r10⟩
  · rw [e9 32 j' (by omega) (by omega), e9 39 j' (by omega) (by omega), e9 40 j' (by omega) (by omega), e9 41 j' (by omega) (by omega)]
    rcases h.2 j' hj' with ⟨a, hA, h1, h2⟩ | h1
    · exact Or.inl ⟨a, hA, (hJ.congr2 eK1 hA).mpr h1, (jAt.congr2 eK1 hA).mpr h2⟩
    · exact Or.inr h1
/-- a booking with another number of complaints -/
theorem IBk.cmp {φ φ' : VI} {nb nc wk b : Nat} {op : Bool} (h : IBk φ nb nc wk op) (e : ∀ t i k, ((t = 2 ∧ i < nb ∧ k < 11) ∨ (t = 9 ∧ k < nb ∧ (6 ≤ i ∧ i ≤ 16))) → ¬ ((t = 2 ∧ i = b ∧ k = 8) ∨ (t = 9 ∧ i = 13 ∧ k = b)) → φ' t i k = φ t i k) (e1 : φ' 2 b 8 = φ' 9 13 b) : IBk φ' nb nc wk op := by
  refine ⟨fun a ha => ?_, fun a c ha hc => ?_⟩
  · have h8 : φ' 2 a 8 = φ' 9 13 a := by
      by_cases hab : a = b
      · rw [hab]; exact e1
      · rw [e 2 a 8 (by omega) (by omega), e 9 13 a (by omega) (by omega)]; exact (h.1 a ha).1.2.2.2.2.2.2.2.2.1
    rw [e 2 a 0 (by omega) (by omega), e 2 a 1 (by omega) (by omega), e 2 a 2 (by omega) (by omega), e 2 a 3 (by omega) (by omega), e 2 a 4 (by omega) (by omega), e 2 a 5 (by omega) (by omega), e 2 a 6 (by omega) (by omega), e 2 a 7 (by omega) (by omega), e 2 a 9 (by omega) (by omega), e 2 a 10 (by omega) (by omega), e 9 6 a (by omega) (by omega), e 9 7 a (by omega) (by omega), e 9 8 a (by omega) (by omega), e 9 9 a (by omega) (by omega), e 9 10 a (by omega) (by omega), e 9 11 a (by omega) (by omega), e 9 12 a (by omega) (by omega), e 9 14 a (by omega) (by omega), e 9 15 a (by omega) (by omega), e 9 16 a (by omega) (by omega)]
    obtain ⟨⟨p0, p1, p2, p3, p4, p5, p6, p7, p8, p9⟩, g, g2, g3⟩ := h.1 a ha
    exact ⟨⟨p0, p1, p2, p3, p4, p5, p6, p7, h8, p9⟩, g, g2, g3⟩
  · rw [e 9 15 a (by omega) (by omega), e 9 15 c (by omega) (by omega), e 9 6 a (by omega) (by omega), e 9 6 c (by omega) (by omega), e 9 7 a (by omega) (by omega), e 9 7 c (by omega) (by omega)]
    exact h.2 a c ha hc
/-- one complaint more, and perhaps one blame -/
theorem ITm.cmp {φ φ' : VI} {nt nc k : Nat} (h : ITm φ nt nc) (hk : φ 10 0 98 = nI k) (hk2 : k < 60) (e : ∀ t i k, (t = 3 ∧ k < 11) ∨ (t = 5 ∧ k < 7) ∨ (t = 9 ∧ (i = 28 ∨ (44 ≤ i ∧ i ≤ 51))) → φ' t i k = φ t i k) (e1 : φ' 10 0 98 = nI (k + 1))
    (e4 : ∀ t s, t < nt → s < 4 → (φ' 4 t s = φ 4 t s ∧ φ' 9 97 (4 * t + s) = φ 9 97 (4 * t + s)) ∨ (φ' 4 t s = φ 4 t s + 1 ∧ φ' 9 97 (4 * t + s) = φ 9 97 (4 * t + s) + 1)) (e5 : ∀ t s, nt ≤ t → t < 3 → s < 4 → φ' 9 97 (4 * t + s) = φ 9 97 (4 * t + s)) : ITm φ' nt nc := by
  refine ⟨fun t ht => ?_, fun t h1 h2 => ?_⟩
  · obtain ⟨g1, g2, g3, n, g4, g5, g6⟩ := h.1 t ht
    rw [e 3 t 0 (by omega), e 3 t 1 (by omega), e 3 t 4 (by omega), e 3 t 5 (by omega), e 3 t 6 (by omega), e 3 t 7 (by omega), e 3 t 8 (by omega), e 3 t 9 (by omega), e 3 t 10 (by omega), e 9 28 t (by omega), e 9 44 t (by omega), e 9 45 t (by omega), e 9 46 t (by omega), e 9 47 t (by omega), e 9 48 t (by omega), e 9 49 t (by omega), e 9 51 t (by omega)]
    refine ⟨g1, g2, fun s hs => ?_, n, g4, g5, fun i hi => ?_⟩
    · obtain ⟨q1, m, n', q2, q3, q4, q5⟩ := g3 s hs
      rw [hk] at q5
      obtain rfl := (nI_eqs (by omega) (by omega)).mp q5
      rcases e4 t s ht hs with ⟨z1, z2⟩ | ⟨z1, z2⟩
      · rw [z1, z2]; exact ⟨q1, m, k + 1, by omega, by omega, q4, e1⟩
      · rw [z1, z2, q1]; exact ⟨rfl, m + 1, k + 1, by omega, by omega, by rw [q4]; exact nI_add m 1, e1⟩
    · rw [e 5 t i (by omega), e 9 50 _ (by omega)]
      exact g6 i hi
  · obtain ⟨g1, g2⟩ := h.2 t h1 h2
    rw [e 9 44 t (by omega), e 9 45 t (by omega), e 9 46 t (by omega), e 9 47 t (by omega), e 9 48 t (by omega), e 9 49 t (by omega), e 9 51 t (by omega)]
    exact ⟨g1, fun s hs => by rw [e5 t s h1 h2 hs]; exact g2 s hs⟩
