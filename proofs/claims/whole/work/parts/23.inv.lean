/-! THE INVARIANT: class and model tell the same year. φ t i k: the int at place k of the cell with tag t, index i; ψ: the longs. -/
abbrev VI : Type := Nat → Nat → Nat → Int32
abbrev VJ : Type := Nat → Nat → Nat → Int64
def vw {α : Type} (ad : Nat → Nat → Nat) (f : Nat → Nat → α) : Nat → Nat → Nat → α := fun t i k => f (ad t i) k
def up3 {α : Type} (φ : Nat → Nat → Nat → α) (t i k : Nat) (v : α) : Nat → Nat → Nat → α := fun t' i' k' => if t' = t ∧ i' = i ∧ k' = k then v else φ t' i' k'
theorem vw_up2 {α : Type} {ad : Nat → Nat → Nat} (hi : Inj ad) (f : Nat → Nat → α) (t i k : Nat) (v : α) : vw ad (up2 f (ad t i) k v) = up3 (vw ad f) t i k v := by
  funext t' i' k'
  simp only [vw, up2, up3, hi.iff, and_assoc]
theorem up3_s {α : Type} (φ : Nat → Nat → Nat → α) (t i k : Nat) (v : α) : up3 φ t i k v t i k = v := by simp [up3]
theorem up3_n {α : Type} (φ : Nat → Nat → Nat → α) {t i k t' i' k' : Nat} (v : α) (h : ¬ (t' = t ∧ i' = i ∧ k' = k)) : up3 φ t i k v t' i' k' = φ t' i' k' := by simp only [up3, if_neg h]
/-- numbers -/
def ISc (φ : VI) (nc nb nt wk nw : Nat) (op : Bool) : Prop :=
  (φ 0 0 1 = nI nc ∧ φ 10 0 17 = nI nc ∧ nc ≤ 7) ∧ (φ 0 0 3 = nI nb ∧ φ 10 0 18 = nI nb ∧ nb ≤ 60) ∧ (φ 0 0 5 = nI nt ∧ φ 10 0 30 = nI nt ∧ nt ≤ 3) ∧
  (φ 0 0 7 = nI wk ∧ φ 10 0 19 = nI wk ∧ wk ≤ 52) ∧ (φ 0 0 9 = nI nw ∧ φ 10 0 20 = nI nw ∧ nw ≤ 1440) ∧
  (φ 0 0 8 = (if op = true then 1 else 0) ∧ φ 10 0 21 = (if op = true then 1 else 0) ∧ (op = true → wk < 52)) ∧
  ∃ k, k ≤ 60 ∧ φ 0 0 6 = nI k ∧ φ 10 0 98 = nI k
def rg (lo hi : Nat) (x : Int32) : Prop := ∃ k, lo ≤ k ∧ k ≤ hi ∧ x = nI k
def b01 (x : Int32) : Prop := x = 0 ∨ x = 1
/-- cottages -/
def ICo (φ : VI) (ψ : VJ) (nc : Nat) : Prop :=
  (∀ c, c < nc → (φ 1 c 0 = φ 9 1 c ∧ φ 1 c 1 = φ 9 4 c ∧ φ 1 c 2 = φ 9 3 c ∧ φ 1 c 3 = φ 9 2 c) ∧ rg 1 12 (φ 9 1 c) ∧ b01 (φ 9 4 c) ∧ rg 10 240 (φ 9 3 c) ∧ rg 1 2000 (φ 9 2 c) ∧
    ∀ w, w < 52 → φ 9 5 (7 * w + c) = (if (ψ 1 c 4).toBitVec.getLsbD w = true then 1 else 0)) ∧
  ∀ w c, w < 52 → nc ≤ c → c < 7 → φ 9 5 (7 * w + c) = 0
/-- bookings -/
def IBk (φ : VI) (nb nc wk : Nat) (op : Bool) : Prop :=
  (∀ b, b < nb → (φ 2 b 0 = φ 9 6 b ∧ φ 2 b 1 = φ 9 7 b ∧ φ 2 b 2 = φ 9 8 b ∧ φ 2 b 3 = φ 9 14 b ∧ φ 2 b 4 = φ 9 9 b ∧ φ 2 b 5 = φ 9 10 b ∧ φ 2 b 6 = φ 9 15 b ∧ φ 2 b 7 = φ 9 16 b ∧ φ 2 b 8 = φ 9 13 b ∧ φ 2 b 9 = φ 9 11 b) ∧
    ((∃ c, c < nc ∧ φ 9 6 b = nI c) ∧ rg 1 12 (φ 9 8 b) ∧ b01 (φ 9 14 b) ∧ rg 0 1000 (φ 9 9 b) ∧ rg 1 2000 (φ 9 10 b) ∧ b01 (φ 9 15 b) ∧ b01 (φ 9 16 b)) ∧
    (∃ w, w < 52 ∧ φ 9 7 b = nI w ∧ (φ 9 16 b = 1 → φ 9 15 b = 1 ∧ (w < wk ∨ (w = wk ∧ op = true)))) ∧ (φ 9 16 b = 1 → φ 9 12 b = φ 2 b 10)) ∧
  ∀ a b, a < nb → b < nb → φ 9 15 a = 1 → φ 9 15 b = 1 → φ 9 6 a = φ 9 6 b → φ 9 7 a = φ 9 7 b → a = b
/-- roads -/
def IRd (φ : VI) : Prop := (∀ i j, i < 8 → j < 8 → φ 0 31 (8 * i + j) = (if i = j then 0 else φ 9 29 (8 * i + j)) ∧ (i ≠ j → rg 0 90 (φ 9 29 (8 * i + j)))) ∧ φ 0 16 1 = φ 10 0 31 ∧ rg 0 60 (φ 10 0 31)
/-- the laundry -/
def ILa (φ : VI) (wk : Nat) (op : Bool) : Prop := (φ 0 8 0 = φ 10 0 64 ∧ φ 0 8 1 = φ 10 0 63 ∧ φ 0 8 2 = φ 10 0 65 ∧ φ 0 8 3 = φ 10 0 66 ∧ φ 0 8 4 = φ 10 0 67 ∧ φ 0 8 5 = φ 10 0 68 ∧ φ 0 8 6 = φ 10 0 69 ∧ φ 0 8 7 = φ 10 0 70) ∧ rg 0 100 (φ 10 0 63) ∧ φ 10 0 71 = (if op = true ∨ 0 < wk then 1 else 0)
theorem ISc.congr {φ φ' : VI} {nc nb nt wk nw : Nat} {op : Bool} (h : ISc φ nc nb nt wk nw op) (e : ∀ t k, (t = 0 ∧ (k = 1 ∨ k = 3 ∨ k = 5 ∨ k = 6 ∨ k = 7 ∨ k = 8 ∨ k = 9)) ∨ (t = 10 ∧ (k = 17 ∨ k = 18 ∨ k = 19 ∨ k = 20 ∨ k = 21 ∨ k = 30 ∨ k = 98)) → φ' t 0 k = φ t 0 k) : ISc φ' nc nb nt wk nw op := by
  unfold ISc at *
  rw [e 0 1 (by omega), e 0 3 (by omega), e 0 5 (by omega), e 0 6 (by omega), e 0 7 (by omega), e 0 8 (by omega), e 0 9 (by omega), e 10 17 (by omega), e 10 18 (by omega), e 10 19 (by omega), e 10 20 (by omega), e 10 21 (by omega), e 10 30 (by omega), e 10 98 (by omega)]
  exact h
theorem ICo.congr {φ φ' : VI} {ψ ψ' : VJ} {nc : Nat} (h : ICo φ ψ nc) (hn : nc ≤ 7) (e : ∀ t i k, (t = 1 ∧ i < nc ∧ k < 4) ∨ (t = 9 ∧ (i = 1 ∨ i = 2 ∨ i = 3 ∨ i = 4 ∨ i = 5)) → φ' t i k = φ t i k) (ej : ∀ c, c < nc → ψ' 1 c 4 = ψ 1 c 4) : ICo φ' ψ' nc := by
  refine ⟨fun c hc => ?_, fun w c hw h1 h2 => ?_⟩
  · obtain ⟨h1, h2⟩ := h.1 c hc
    rw [e 1 c 0 (by omega), e 1 c 1 (by omega), e 1 c 2 (by omega), e 1 c 3 (by omega), e 9 1 c (by omega), e 9 2 c (by omega), e 9 3 c (by omega), e 9 4 c (by omega), ej c hc]
    refine ⟨h1, h2.1, h2.2.1, h2.2.2.1, h2.2.2.2.1, fun w hw => ?_⟩
    rw [e 9 5 _ (by omega)]
    exact h2.2.2.2.2 w hw
  · rw [e 9 5 _ (by omega)]
    exact h.2 w c hw h1 h2
theorem IBk.congr {φ φ' : VI} {nb nc wk : Nat} {op : Bool} (h : IBk φ nb nc wk op) (e : ∀ t i k, (t = 2 ∧ i < nb ∧ k < 11) ∨ (t = 9 ∧ k < nb ∧ ((6 ≤ i ∧ i ≤ 16))) → φ' t i k = φ t i k) : IBk φ' nb nc wk op := by
  refine ⟨fun b hb => ?_, fun a b ha hb => ?_⟩
  · rw [e 2 b 0 (by omega), e 2 b 1 (by omega), e 2 b 2 (by omega), e 2 b 3 (by omega), e 2 b 4 (by omega), e 2 b 5 (by omega), e 2 b 6 (by omega), e 2 b 7 (by omega), e 2 b 8 (by omega), e 2 b 9 (by omega), e 2 b 10 (by omega), e 9 6 b (by omega), e 9 7 b (by omega), e 9 8 b (by omega), e 9 9 b (by omega), e 9 10 b (by omega), e 9 11 b (by omega), e 9 12 b (by omega), e 9 13 b (by omega), e 9 14 b (by omega), e 9 15 b (by omega), e 9 16 b (by omega)]
    exact h.1 b hb
  · rw [e 9 6 a (by omega), e 9 6 b (by omega), e 9 7 a (by omega), e 9 7 b (by omega), e 9 15 a (by omega), e 9 15 b (by omega)]
    exact h.2 a b ha hb
theorem IRd.congr {φ φ' : VI} (h : IRd φ) (e : ∀ t i k, (t = 0 ∧ i = 31) ∨ (t = 0 ∧ i = 16 ∧ k = 1) ∨ (t = 9 ∧ i = 29) ∨ (t = 10 ∧ i = 0 ∧ k = 31) → φ' t i k = φ t i k) : IRd φ' := by
  refine ⟨fun i j hi hj => ?_, ?_⟩
  · rw [e 0 31 _ (by omega), e 9 29 _ (by omega)]
    exact h.1 i j hi hj
  · rw [e 0 16 1 (by omega), e 10 0 31 (by omega)]
    exact h.2
theorem ILa.congr {φ φ' : VI} {wk : Nat} {op : Bool} (h : ILa φ wk op) (e : ∀ t i k, (t = 0 ∧ i = 8 ∧ k < 8) ∨ (t = 10 ∧ i = 0 ∧ 63 ≤ k ∧ k ≤ 71) → φ' t i k = φ t i k) : ILa φ' wk op := by
  unfold ILa at *
  rw [e 0 8 0 (by omega), e 0 8 1 (by omega), e 0 8 2 (by omega), e 0 8 3 (by omega), e 0 8 4 (by omega), e 0 8 5 (by omega), e 0 8 6 (by omega), e 0 8 7 (by omega), e 10 0 63 (by omega), e 10 0 64 (by omega), e 10 0 65 (by omega), e 10 0 66 (by omega), e 10 0 67 (by omega), e 10 0 68 (by omega), e 10 0 69 (by omega), e 10 0 70 (by omega), e 10 0 71 (by omega)]
  exact h
