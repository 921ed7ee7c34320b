/-! the invariant, second half: teams, jobs, books, wages, codes, the planner's cache -/
/-- teams -/
def ITm (φ : VI) (nt nc : Nat) : Prop :=
  (∀ t, t < nt → (φ 3 t 0 = nI t ∧ φ 3 t 1 = φ 9 28 t ∧ φ 3 t 4 = φ 9 51 t ∧ φ 3 t 5 = φ 9 47 t ∧ φ 3 t 6 = φ 9 48 t ∧ φ 3 t 7 = φ 9 44 t ∧ φ 3 t 8 = φ 9 45 t ∧ φ 3 t 9 = φ 9 46 t ∧ φ 3 t 10 = φ 9 49 t) ∧ rg 12 30 (φ 9 28 t) ∧
    (∀ k, k < 4 → φ 4 t k = φ 9 97 (4 * t + k) ∧ ∃ m n, m ≤ n ∧ n ≤ 60 ∧ φ 9 97 (4 * t + k) = nI m ∧ φ 10 0 98 = nI n) ∧ ∃ n, n ≤ 7 ∧ φ 9 51 t = nI n ∧ ∀ i, i < n → φ 5 t i = φ 9 50 (7 * t + i) ∧ ∃ c, c < nc ∧ φ 9 50 (7 * t + i) = nI c) ∧
  ∀ t, nt ≤ t → t < 3 → (φ 9 44 t = 0 ∧ φ 9 45 t = 0 ∧ φ 9 46 t = 0 ∧ φ 9 47 t = 0 ∧ φ 9 48 t = 0 ∧ φ 9 49 t = 0 ∧ φ 9 51 t = 0) ∧ ∀ k, k < 4 → φ 9 97 (4 * t + k) = 0
/-- the booking b has left a job behind: it stayed, and the next week's day was opened -/
def hJ (φ : VI) (wk : Nat) (op : Bool) (b : Nat) : Prop := φ 9 16 b = 1 ∧ ∃ w, φ 9 7 b = nI w ∧ w < 52 ∧ (w + 1 < wk ∨ (w + 1 = wk ∧ op = true))
/-- where the model keeps that job -/
def jAt (φ : VI) (b j : Nat) : Prop := ∃ c w, c < 7 ∧ w < 52 ∧ φ 9 6 b = nI c ∧ φ 9 7 b = nI w ∧ j = 7 * (w + 1) + c
def m1or (lo hi : Nat) (x : Int32) : Prop := x = -1 ∨ rg lo hi x
/-- jobs: the class's and the model's -/
def IJo (φ : VI) (nb nt wk : Nat) (op : Bool) : Prop :=
  (∀ b, b < nb → hJ φ wk op b → ∀ j, jAt φ b j → (φ 6 b 1 = φ 9 6 b ∧ φ 6 b 2 = φ 9 7 b + 1 ∧ φ 6 b 3 = φ 9 34 j ∧ φ 6 b 4 = φ 9 36 j ∧ φ 6 b 5 = φ 9 33 j ∧ φ 6 b 6 = φ 9 35 j ∧ φ 6 b 7 = φ 9 37 j ∧ φ 6 b 8 = φ 9 38 j ∧ φ 6 b 9 = φ 9 39 j ∧ φ 6 b 10 = φ 9 40 j ∧ φ 6 b 11 = φ 9 41 j) ∧
    (φ 9 42 j = φ 9 8 b ∧ φ 9 43 j = φ 9 14 b ∧ φ 9 32 j = 1) ∧
    ((φ 9 34 j = 960 ∨ φ 9 34 j = 1440) ∧ rg 0 12 (φ 9 36 j) ∧ rg 0 1440 (φ 9 33 j) ∧ rg 1 400 (φ 9 35 j) ∧ m1or 0 1440 (φ 9 37 j) ∧ m1or 0 1440 (φ 9 38 j) ∧ (φ 9 39 j = -1 ∨ ∃ t, t < nt ∧ φ 9 39 j = nI t) ∧ rg 0 240 (φ 9 40 j) ∧ rg 0 10000 (φ 9 41 j) ∧ (φ 9 38 j ≠ -1 → φ 9 39 j ≠ -1 ∧ φ 9 37 j ≠ -1))) ∧
  ∀ j, j < 364 → (∃ b, b < nb ∧ hJ φ wk op b ∧ jAt φ b j) ∨ (φ 9 32 j = 0 ∧ φ 9 39 j = -1 ∧ φ 9 40 j = 0 ∧ φ 9 41 j = 0)
/-- the references: jobs of bookings, stays by weeks, the open day's jobs -/
def IJr (M : Mem) (ad : Nat → Nat → Nat) (φ : VI) (nb nc wk : Nat) (op : Bool) : Prop :=
  (∀ b, b < nb → (hJ φ wk op b → mR M (ad 2 b) 12 = some (ad 6 b) ∧ ob M (ad 6 b) 3 ∧ mR M (ad 6 b) 0 = some (ad 2 b)) ∧ (¬ hJ φ wk op b → mR M (ad 2 b) 12 = none)) ∧
  (∀ w c, w < 52 → c < 7 → (∃ b, b < nb ∧ φ 9 16 b = 1 ∧ φ 9 6 b = nI c ∧ φ 9 7 b = nI w ∧ mR M (ad 0 4) (7 * w + c) = some (ad 2 b)) ∨ (mR M (ad 0 4) (7 * w + c) = none ∧ ∀ b, b < nb → φ 9 16 b = 1 → φ 9 6 b = nI c → φ 9 7 b = nI w → False)) ∧
  (op = true → ∀ c, c < nc → (∃ b, b < nb ∧ hJ φ wk op b ∧ jAt φ b (7 * wk + c) ∧ mR M (ad 0 5) c = some (ad 6 b)) ∨ (mR M (ad 0 5) c = none ∧ φ 9 32 (7 * wk + c) = 0))
/-- the books: ne entries, nk looks; kx k: the entry that is the k-th look -/
def IBo (φ : VI) (ne nk nb nc : Nat) : Prop :=
  (φ 0 9 2 = nI ne ∧ φ 10 0 95 = nI ne ∧ φ 0 9 4 = nI nk ∧ φ 10 0 96 = nI nk ∧ nk ≤ 60 ∧ ne ≤ nk + nb) ∧ (∀ th, th < 3 → φ 0 35 th = φ 9 94 th) ∧
  (∀ i, i < ne → φ 0 32 i = φ 9 91 i ∧ (∃ c, c < nc ∧ φ 9 91 i = nI c) ∧ ((∃ b, b < nb ∧ φ 9 92 i = nI b ∧ φ 9 16 b = 1 ∧ φ 0 33 i = -1 ∧ φ 2 b 11 = nI i) ∨
    (φ 9 92 i = -1 ∧ ∃ k, k < nk ∧ φ 0 33 i = nI k ∧ ∀ th, th < 3 → φ 0 34 (3 * k + th) = φ 9 93 (3 * i + th) ∧ rg 0 99 (φ 9 93 (3 * i + th))))) ∧
  ∀ b, b < nb → φ 9 16 b = 1 → ∃ i, i < ne ∧ φ 2 b 11 = nI i ∧ φ 9 92 i = nI b ∧ φ 9 91 i = φ 9 6 b ∧ ∀ i', i' < ne → φ 9 92 i' = nI b → i' = i
/-- texts: terms 0 .. nx - 1, and the tape, nx -/
def bts (x y : Int32) : Prop := y &&& 255 = x ∧ ¬ x = 0 ∧ y.toInt8.toInt32 = y
def ITx (φ : VI) (nx : Nat) : Prop :=
  (φ 0 10 2 = nI nx ∧ φ 10 0 81 = nI nx ∧ nx ≤ 20) ∧ (∃ n, n ≤ 120 ∧ φ 7 nx 1 = nI n ∧ φ 10 0 80 = nI n ∧ ∀ k, k < n → bts (φ 8 nx k) (φ 9 75 k)) ∧
  ∀ i, i < nx → (φ 7 i 2 = φ 9 78 i ∧ φ 7 i 3 = φ 9 79 i ∧ rg 0 51 (φ 9 78 i) ∧ rg 0 51 (φ 9 79 i)) ∧ ∃ n, n ≤ 120 ∧ φ 7 i 1 = nI n ∧ φ 9 77 i = nI n ∧ ∀ k, k < n → bts (φ 8 i k) (φ 9 76 (120 * i + k))
def Xs (M : Mem) (ad : Nat → Nat → Nat) (nx : Nat) : Prop := mR M (ad 0 10) 0 = some (ad 7 nx) ∧ (∀ i, i < nx → mR M (ad 0 36) i = some (ad 7 i)) ∧ ∀ i, i ≤ nx → ob M (ad 7 i) 9 ∧ mR M (ad 7 i) 0 = some (ad 8 i) ∧ ob M (ad 8 i) 15 ∧ mN M (ad 8 i) = 120
/-- lines -/
def ILn (M : Mem) (ad : Nat → Nat → Nat) (φ : VI) (nl nb wk : Nat) (op : Bool) : Prop :=
  (φ 0 10 6 = nI nl ∧ φ 10 0 73 = nI nl ∧ nl ≤ 3000 ∧ φ 0 10 7 = φ 10 0 74) ∧
  ∀ i, i < nl → φ 0 37 i = φ 9 72 (5 * i) ∧ φ 0 39 i = φ 9 72 (5 * i + 4) ∧ ∃ b, b < nb ∧ hJ φ wk op b ∧ mR M (ad 0 38) i = some (ad 6 b) ∧ φ 6 b 2 = φ 9 72 (5 * i + 1) ∧ φ 6 b 1 = φ 9 72 (5 * i + 2) ∧ φ 6 b 9 = φ 9 72 (5 * i + 3) ∧ ¬ φ 6 b 8 = -1
/-- how many below n -/
def ctB (p : Nat → Bool) : Nat → Nat
  | 0 => 0
  | n + 1 => ctB p n + (if p n = true then 1 else 0)
theorem ctB_congr {p q : Nat → Bool} : ∀ {n : Nat}, (∀ k, k < n → p k = q k) → ctB p n = ctB q n
  | 0, _ => rfl
  | n + 1, h => by rw [ctB, ctB, ctB_congr (fun k hk => h k (by omega)), h n (by omega)]
/-- jobs that were left out -/
def ILo (φ : VI) (nb wk : Nat) : Prop := φ 10 0 52 = nI (ctB (fun b => (φ 9 16 b == 1) && decide (φ 9 7 b + 1 < nI wk) && (φ 6 b 8 == -1)) nb)
/-- the open day -/
def IDy (φ : VI) (nt nc wk nw : Nat) (op : Bool) : Prop := op = true →
  (∀ t, t < nt → rg 0 30 (φ 9 47 t) ∧ rg 0 nc (φ 9 48 t) ∧ ((φ 9 44 t = 0 ∧ φ 9 45 t = -1 ∧ φ 9 46 t = -1) ∨
    ∃ c, c < nc ∧ φ 9 45 t = nI c ∧ φ 9 32 (7 * wk + c) = 1 ∧ φ 9 39 (7 * wk + c) = nI t ∧ φ 9 38 (7 * wk + c) = -1 ∧ φ 9 48 t = nI (c + 1) ∧
      ((φ 9 44 t = 1 ∧ φ 9 37 (7 * wk + c) = -1 ∧ ∃ k, nw < k ∧ k ≤ 1680 ∧ φ 9 46 t = nI k) ∨ (φ 9 44 t = 2 ∧ φ 9 37 (7 * wk + c) = -1 ∧ φ 9 46 t = -1) ∨ (φ 9 44 t = 3 ∧ ¬ φ 9 37 (7 * wk + c) = -1 ∧ ∃ k, nw < k ∧ k ≤ 1840 ∧ φ 9 46 t = nI k)))) ∧
  (∀ t n i, t < nt → φ 9 51 t = nI n → n ≤ 7 → i < n → ∃ c, c < nc ∧ φ 9 50 (7 * t + i) = nI c ∧ φ 9 32 (7 * wk + c) = 1 ∧ φ 9 39 (7 * wk + c) = -1 ∧
    ∀ t' n' i', t' < nt → φ 9 51 t' = nI n' → n' ≤ 7 → i' < n' → φ 9 50 (7 * t' + i') = nI c → t' = t ∧ i' = i) ∧
  (∀ c, c < nc → φ 9 32 (7 * wk + c) = 1 → φ 9 39 (7 * wk + c) = -1 → φ 9 37 (7 * wk + c) = -1 ∧ φ 9 38 (7 * wk + c) = -1)
/-- the codes: the k-th step and the k-th code -/
def cdS : Nat → Int64
  | 0 => 1
  | n + 1 => cdS n * 6364136223846793005 + 1442695040888963407
def cdV (n : Nat) : Int32 := ((((cdS (n + 1)).toUInt64 >>> ((33 : Int32).toInt64.toUInt64 &&& Int64.toUInt64 63)).toInt64) - (((cdS (n + 1)).toUInt64 >>> ((33 : Int32).toInt64.toUInt64 &&& Int64.toUInt64 63)).toInt64) / 10000 * 10000).toInt32
def ICd (φ : VI) (ψ : VJ) (kd nb nc : Nat) : Prop :=
  ψ 0 0 12 = cdS kd ∧ ψ 10 0 99 = cdS kd ∧ kd = ctB (fun b => φ 9 16 b == 1) nb ∧ (∀ b, b < nb → φ 9 16 b = 1 → ∃ k, k < kd ∧ φ 9 12 b = cdV k) ∧ (∀ b, b < nb → φ 9 16 b = 0 → φ 2 b 10 = -1) ∧
  ∀ c, c < nc → ∀ s, 5 ≤ s → s ≤ 7 → φ 1 c s = -1 ∨ ∃ k, k < kd ∧ φ 1 c s = cdV k
theorem ITm.congr {φ φ' : VI} {nt nc : Nat} (h : ITm φ nt nc) (e : ∀ t i k, (t = 3 ∧ i < nt ∧ k < 11) ∨ (t = 4 ∧ i < nt ∧ k < 4) ∨ (t = 5 ∧ i < nt ∧ k < 7) ∨ (t = 9 ∧ (i = 28 ∨ (44 ≤ i ∧ i ≤ 51) ∨ i = 97)) ∨ (t = 10 ∧ i = 0 ∧ k = 98) → φ' t i k = φ t i k) : ITm φ' nt nc := by
  refine ⟨fun t ht => ?_, fun t h1 h2 => ?_⟩
  · obtain ⟨g1, g2, g3, n, g4, g5, g6⟩ := h.1 t ht
    rw [e 3 t 0 (by omega), e 3 t 1 (by omega), e 3 t 4 (by omega), e 3 t 5 (by omega), e 3 t 6 (by omega), e 3 t 7 (by omega), e 3 t 8 (by omega), e 3 t 9 (by omega), e 3 t 10 (by omega), e 9 28 t (by omega), e 9 44 t (by omega), e 9 45 t (by omega), e 9 46 t (by omega), e 9 47 t (by omega), e 9 48 t (by omega), e 9 49 t (by omega), e 9 51 t (by omega)]
    refine ⟨g1, g2, fun k hk => ?_, n, g4, g5, fun i hi => ?_⟩
    · rw [e 4 t k (by omega), e 9 97 _ (by omega), e 10 0 98 (by omega)]
      exact g3 k hk
    · rw [e 5 t i (by omega), e 9 50 _ (by omega)]
      exact g6 i hi
  · obtain ⟨g1, g2⟩ := h.2 t h1 h2
    rw [e 9 44 t (by omega), e 9 45 t (by omega), e 9 46 t (by omega), e 9 47 t (by omega), e 9 48 t (by omega), e 9 49 t (by omega), e 9 51 t (by omega)]
    refine ⟨g1, fun k hk => ?_⟩
    rw [e 9 97 _ (by omega)]
    exact g2 k hk
/-- what is said of bookings and jobs of the model: places 6, 7, 16 and 32 .. 43 of its arrays -/
def eJ (nb : Nat) (φ φ' : VI) : Prop := ∀ i k, (k < nb ∧ (i = 6 ∨ i = 7 ∨ i = 8 ∨ i = 14 ∨ i = 16)) ∨ (32 ≤ i ∧ i ≤ 43) → φ' 9 i k = φ 9 i k
theorem hJ.congr {φ φ' : VI} {wk nb b : Nat} {op : Bool} (e : eJ nb φ φ') (hb : b < nb) : hJ φ' wk op b ↔ hJ φ wk op b := by
  unfold hJ
  rw [e 16 b (by omega), e 7 b (by omega)]
theorem jAt.congr {φ φ' : VI} {nb b j : Nat} (e : eJ nb φ φ') (hb : b < nb) : jAt φ' b j ↔ jAt φ b j := by
  unfold jAt
  rw [e 6 b (by omega), e 7 b (by omega)]
theorem IJo.congr {φ φ' : VI} {nb nt wk : Nat} {op : Bool} (h : IJo φ nb nt wk op) (e : eJ nb φ φ') (e6 : ∀ b k, b < nb → hJ φ wk op b → k < 12 → φ' 6 b k = φ 6 b k) : IJo φ' nb nt wk op := by
  refine ⟨fun b hb hj j hja => ?_, fun j hj => ?_⟩
  · have hj0 := (hJ.congr e hb).mp hj
    rw [e6 b 1 hb hj0 (by omega), e6 b 2 hb hj0 (by omega), e6 b 3 hb hj0 (by omega), e6 b 4 hb hj0 (by omega), e6 b 5 hb hj0 (by omega), e6 b 6 hb hj0 (by omega), e6 b 7 hb hj0 (by omega), e6 b 8 hb hj0 (by omega), e6 b 9 hb hj0 (by omega), e6 b 10 hb hj0 (by omega), e6 b 11 hb hj0 (by omega), e 6 b (by omega), e 7 b (by omega), e 8 b (by omega), e 14 b (by omega), e 32 j (by omega), e 33 j (by omega), e 34 j (by omega), e 35 j (by omega), e 36 j (by omega), e 37 j (by omega), e 38 j (by omega), e 39 j (by omega), e 40 j (by omega), e 41 j (by omega), e 42 j (by omega), e 43 j (by omega)]
    exact h.1 b hb ((hJ.congr e hb).mp hj) j ((jAt.congr e hb).mp hja)
  · rw [e 32 j (by omega), e 39 j (by omega), e 40 j (by omega), e 41 j (by omega)]
    rcases h.2 j hj with ⟨b, hb, h1, h2⟩ | h1
    · exact Or.inl ⟨b, hb, (hJ.congr e hb).mpr h1, (jAt.congr e hb).mpr h2⟩
    · exact Or.inr h1
theorem IJr.congr {M : Mem} {ad : Nat → Nat → Nat} {φ φ' : VI} {nb nc wk : Nat} {op : Bool} {f : Nat → Nat → Int32} {g : Nat → Nat → Int64} (h : IJr M ad φ nb nc wk op) (e : eJ nb φ φ') : IJr (mm M f g) ad φ' nb nc wk op := by
  refine ⟨fun b hb => ?_, fun w c hw hc => ?_, fun ho c hc => ?_⟩
  · rw [hJ.congr e hb]
    exact h.1 b hb
  · rcases h.2.1 w c hw hc with ⟨b, hb, h1, h2, h3, h4⟩ | ⟨h1, h2⟩
    · exact Or.inl ⟨b, hb, by rw [e 16 b (by omega)]; exact h1, by rw [e 6 b (by omega)]; exact h2, by rw [e 7 b (by omega)]; exact h3, h4⟩
    · refine Or.inr ⟨h1, fun b hb => ?_⟩
      rw [e 16 b (by omega), e 6 b (by omega), e 7 b (by omega)]
      exact h2 b hb
  · rcases h.2.2 ho c hc with ⟨b, hb, h1, h2, h3⟩ | ⟨h1, h2⟩
    · exact Or.inl ⟨b, hb, (hJ.congr e hb).mpr h1, (jAt.congr e hb).mpr h2, h3⟩
    · exact Or.inr ⟨h1, by rw [e 32 _ (by omega)]; exact h2⟩
theorem IBo.congr {φ φ' : VI} {ne nk nb nc : Nat} (h : IBo φ ne nk nb nc) (hnb : nb ≤ 60) (e : ∀ t i k, (t = 0 ∧ (i = 9 ∨ (32 ≤ i ∧ i ≤ 35))) ∨ (t = 10 ∧ i = 0 ∧ (k = 95 ∨ k = 96)) ∨ (t = 9 ∧ (91 ≤ i ∧ i ≤ 94)) ∨ (t = 9 ∧ k < nb ∧ (i = 16 ∨ i = 6)) ∨ (t = 2 ∧ i < nb ∧ k = 11) → φ' t i k = φ t i k) : IBo φ' ne nk nb nc := by
  refine ⟨?_, fun th hth => ?_, fun i hi => ?_, fun b hb => ?_⟩
  · rw [e 0 9 2 (by omega), e 10 0 95 (by omega), e 0 9 4 (by omega), e 10 0 96 (by omega)]
    exact h.1
  · rw [e 0 35 th (by omega), e 9 94 th (by omega)]
    exact h.2.1 th hth
  · rw [e 0 32 i (by omega), e 9 91 i (by omega), e 9 92 i (by omega), e 0 33 i (by omega)]
    obtain ⟨h1, h2, h3⟩ := h.2.2.1 i hi
    refine ⟨h1, h2, ?_⟩
    rcases h3 with ⟨b, hb, g1, g2, g3, g4⟩ | ⟨g1, k, hk, g2, g3⟩
    · exact Or.inl ⟨b, hb, g1, by rw [e 9 16 b (by omega)]; exact g2, g3, by rw [e 2 b 11 (by omega)]; exact g4⟩
    · exact Or.inr ⟨g1, k, hk, g2, fun th hth => by rw [e 0 34 _ (by omega), e 9 93 _ (by omega)]; exact g3 th hth⟩
  · rw [e 9 16 b (by omega), e 2 b 11 (by omega), e 9 6 b (by omega)]
    intro hbg
    obtain ⟨i, hi, g1, g2, g3, g4⟩ := h.2.2.2 b hb hbg
    refine ⟨i, hi, g1, by rw [e 9 92 i (by omega)]; exact g2, by rw [e 9 91 i (by omega)]; exact g3, fun i' hi' => ?_⟩
    rw [e 9 92 i' (by omega)]
    exact g4 i' hi'
theorem ITx.congr {φ φ' : VI} {nx : Nat} (h : ITx φ nx) (e : ∀ t i k, (t = 0 ∧ i = 10 ∧ k = 2) ∨ (t = 10 ∧ i = 0 ∧ (k = 80 ∨ k = 81)) ∨ (t = 7 ∧ i ≤ nx ∧ (k = 1 ∨ k = 2 ∨ k = 3)) ∨ (t = 8 ∧ i ≤ nx) ∨ (t = 9 ∧ (75 ≤ i ∧ i ≤ 79)) → φ' t i k = φ t i k) : ITx φ' nx := by
  refine ⟨?_, ?_, fun i hi => ?_⟩
  · rw [e 0 10 2 (by omega), e 10 0 81 (by omega)]
    exact h.1
  · obtain ⟨n, h1, h2, h3, h4⟩ := h.2.1
    refine ⟨n, h1, by rw [e 7 nx 1 (by omega)]; exact h2, by rw [e 10 0 80 (by omega)]; exact h3, fun k hk => ?_⟩
    rw [e 8 nx k (by omega), e 9 75 k (by omega)]
    exact h4 k hk
  · obtain ⟨h0, n, h1, h2, h3, h4⟩ := h.2.2 i hi
    rw [e 7 i 2 (by omega), e 7 i 3 (by omega), e 9 78 i (by omega), e 9 79 i (by omega)]
    refine ⟨h0, n, h1, by rw [e 7 i 1 (by omega)]; exact h2, by rw [e 9 77 i (by omega)]; exact h3, fun k hk => ?_⟩
    rw [e 8 i k (by omega), e 9 76 _ (by omega)]
    exact h4 k hk
theorem ILn.congr {M : Mem} {ad : Nat → Nat → Nat} {φ φ' : VI} {nl nb wk : Nat} {op : Bool} {f : Nat → Nat → Int32} {g : Nat → Nat → Int64} (h : ILn M ad φ nl nb wk op) (e : eJ nb φ φ') (e6 : ∀ b k, b < nb → hJ φ wk op b → k < 12 → φ' 6 b k = φ 6 b k) (e0 : ∀ t i k, (t = 0 ∧ ((i = 10 ∧ (k = 6 ∨ k = 7)) ∨ i = 37 ∨ i = 39)) ∨ (t = 10 ∧ i = 0 ∧ (k = 73 ∨ k = 74)) ∨ (t = 9 ∧ i = 72) → φ' t i k = φ t i k) : ILn (mm M f g) ad φ' nl nb wk op := by
  refine ⟨?_, fun i hi => ?_⟩
  · rw [e0 0 10 6 (by omega), e0 10 0 73 (by omega), e0 0 10 7 (by omega), e0 10 0 74 (by omega)]
    exact h.1
  · obtain ⟨h1, h2, b, hb, h3, h4, h5, h6, h7, h8⟩ := h.2 i hi
    rw [e0 0 37 i (by omega), e0 0 39 i (by omega), e0 9 72 _ (by omega), e0 9 72 _ (by omega), e0 9 72 _ (by omega), e0 9 72 _ (by omega), e0 9 72 _ (by omega)]
    exact ⟨h1, h2, b, hb, (hJ.congr e hb).mpr h3, h4, by rw [e6 b 2 hb h3 (by omega)]; exact h5, by rw [e6 b 1 hb h3 (by omega)]; exact h6, by rw [e6 b 9 hb h3 (by omega)]; exact h7, by rw [e6 b 8 hb h3 (by omega)]; exact h8⟩
theorem ILo.congr {φ φ' : VI} {nb nc wk : Nat} {op : Bool} (h : ILo φ nb wk) (iB : IBk φ nb nc wk op) (hwk : wk ≤ 52) (e : ∀ t i k, (t = 10 ∧ i = 0 ∧ k = 52) ∨ (t = 9 ∧ k < nb ∧ (i = 16 ∨ i = 7)) → φ' t i k = φ t i k) (e6 : ∀ b, b < nb → hJ φ wk op b → φ' 6 b 8 = φ 6 b 8) : ILo φ' nb wk := by
  unfold ILo at *
  rw [e 10 0 52 (by omega), h]
  refine congrArg nI (ctB_congr (fun b hb => ?_))
  rw [e 9 16 b (by omega), e 9 7 b (by omega)]
  by_cases h1 : φ 9 16 b = 1
  · by_cases h2 : φ 9 7 b + 1 < nI wk
    · obtain ⟨w, w1, w2, -⟩ := (iB.1 b hb).2.2.1
      rw [e6 b hb ⟨h1, w, w2, w1, Or.inl ?_⟩]
      rw [w2, show nI w + 1 = nI (w + 1) from nI_add w 1, nI_lts (by omega) (by omega)] at h2
      exact h2
    · rw [decide_eq_false h2]; simp only [Bool.and_false, Bool.false_and]
  · rw [show (φ 9 16 b == 1) = false from beq_eq_false_iff_ne.mpr h1]; simp only [Bool.and_false, Bool.false_and]
theorem ICd.congr {φ φ' : VI} {ψ ψ' : VJ} {kd nb nc : Nat} (h : ICd φ ψ kd nb nc) (e : ∀ t i k, (t = 9 ∧ k < nb ∧ (i = 12 ∨ i = 16)) ∨ (t = 2 ∧ i < nb ∧ k = 10) ∨ (t = 1 ∧ i < nc ∧ 5 ≤ k ∧ k ≤ 7) → φ' t i k = φ t i k) (ej : ψ' 0 0 12 = ψ 0 0 12 ∧ ψ' 10 0 99 = ψ 10 0 99) : ICd φ' ψ' kd nb nc := by
  obtain ⟨h1, h2, h3, h4, h5, h6⟩ := h
  refine ⟨ej.1.trans h1, ej.2.trans h2, h3.trans (ctB_congr (fun b hb => by rw [e 9 16 b (by omega)])), fun b hb => ?_, fun b hb => ?_, fun c hc s g1 g2 => ?_⟩
  · rw [e 9 16 b (by omega), e 9 12 b (by omega)]
    exact h4 b hb
  · rw [e 9 16 b (by omega), e 2 b 10 (by omega)]
    exact h5 b hb
  · rw [e 1 c s (by omega)]
    exact h6 c hc s g1 g2
theorem IDy.congr {φ φ' : VI} {nt nc wk nw : Nat} {op : Bool} (h : IDy φ nt nc wk nw op) (e : ∀ i k, (44 ≤ i ∧ i ≤ 51 ∧ i ≠ 49) ∨ i = 32 ∨ i = 37 ∨ i = 38 ∨ i = 39 → φ' 9 i k = φ 9 i k) : IDy φ' nt nc wk nw op := by
  have e1 : ∀ i, ((44 ≤ i ∧ i ≤ 51 ∧ i ≠ 49) ∨ i = 32 ∨ i = 37 ∨ i = 38 ∨ i = 39) → φ' 9 i = φ 9 i := fun i hi => funext fun k => e i k hi
  unfold IDy at *
  rw [e1 44 (by omega), e1 45 (by omega), e1 46 (by omega), e1 47 (by omega), e1 48 (by omega), e1 50 (by omega), e1 51 (by omega), e1 32 (by omega), e1 37 (by omega), e1 38 (by omega), e1 39 (by omega)]
  exact h
